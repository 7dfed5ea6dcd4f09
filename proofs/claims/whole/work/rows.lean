section
-- ===== PART A: goes FIRST, ahead of the names: the tables' words, and 'selects' of the private methods out of them =====
/-- a private method of a class that the tables say can be made, by its rows of tables_1 -/
def lw_okq (q : MethodName × Nat) : Prop := (q.1.cls ≠ "java/lang/invoke/MethodHandle" ∧ q.1.cls ≠ "java/lang/invoke/VarHandle") ∧ Cond.instantiable q.1.cls q.2 ∈ tables_1 ∧ Cond.privateMethod q.1 ∈ tables_1 ∧ Cond.instanceMethod q.1 ∈ tables_1
theorem lw_p0 : lw_okq (⟨"WoodStack", "isWeather", "(I)Z"⟩, 15) := ⟨⟨by decide +kernel, by decide +kernel⟩, List.mem_of_getElem? (i := 17) (by decide +kernel), List.mem_of_getElem? (i := 399) (by decide +kernel), List.mem_of_getElem? (i := 400) (by decide +kernel)⟩
theorem lw_p1 : lw_okq (⟨"WoodStack", "feedFour", "(I)V"⟩, 15) := ⟨⟨by decide +kernel, by decide +kernel⟩, List.mem_of_getElem? (i := 17) (by decide +kernel), List.mem_of_getElem? (i := 411) (by decide +kernel), List.mem_of_getElem? (i := 412) (by decide +kernel)⟩
theorem lw_p2 : lw_okq (⟨"WoodStack$Tokens", "cutWord", "([III)I"⟩, 4) := ⟨⟨by decide +kernel, by decide +kernel⟩, List.mem_of_getElem? (i := 85) (by decide +kernel), List.mem_of_getElem? (i := 435) (by decide +kernel), List.mem_of_getElem? (i := 436) (by decide +kernel)⟩
theorem lw_p3 : lw_okq (⟨"WoodStack$Tokens", "add", "(III)V"⟩, 4) := ⟨⟨by decide +kernel, by decide +kernel⟩, List.mem_of_getElem? (i := 85) (by decide +kernel), List.mem_of_getElem? (i := 491) (by decide +kernel), List.mem_of_getElem? (i := 492) (by decide +kernel)⟩
theorem lw_p4 : lw_okq (⟨"WoodStack$Tokens", "cutNumber", "([III)I"⟩, 4) := ⟨⟨by decide +kernel, by decide +kernel⟩, List.mem_of_getElem? (i := 85) (by decide +kernel), List.mem_of_getElem? (i := 498) (by decide +kernel), List.mem_of_getElem? (i := 499) (by decide +kernel)⟩
theorem lw_p5 : lw_okq (⟨"WoodStack$Tokens", "cutSign", "([III)I"⟩, 4) := ⟨⟨by decide +kernel, by decide +kernel⟩, List.mem_of_getElem? (i := 85) (by decide +kernel), List.mem_of_getElem? (i := 503) (by decide +kernel), List.mem_of_getElem? (i := 504) (by decide +kernel)⟩
theorem lw_p6 : lw_okq (⟨"WoodStack$Reader", "token", "()I"⟩, 6) := ⟨⟨by decide +kernel, by decide +kernel⟩, List.mem_of_getElem? (i := 79) (by decide +kernel), List.mem_of_getElem? (i := 514) (by decide +kernel), List.mem_of_getElem? (i := 515) (by decide +kernel)⟩
theorem lw_p7 : lw_okq (⟨"WoodStack$Reader", "readClause", "(I)V"⟩, 6) := ⟨⟨by decide +kernel, by decide +kernel⟩, List.mem_of_getElem? (i := 79) (by decide +kernel), List.mem_of_getElem? (i := 519) (by decide +kernel), List.mem_of_getElem? (i := 520) (by decide +kernel)⟩
theorem lw_p8 : lw_okq (⟨"WoodStack$Reader", "fail", "(I)V"⟩, 6) := ⟨⟨by decide +kernel, by decide +kernel⟩, List.mem_of_getElem? (i := 79) (by decide +kernel), List.mem_of_getElem? (i := 523) (by decide +kernel), List.mem_of_getElem? (i := 524) (by decide +kernel)⟩
theorem lw_p9 : lw_okq (⟨"WoodStack$Reader", "step", "()V"⟩, 6) := ⟨⟨by decide +kernel, by decide +kernel⟩, List.mem_of_getElem? (i := 79) (by decide +kernel), List.mem_of_getElem? (i := 539) (by decide +kernel), List.mem_of_getElem? (i := 540) (by decide +kernel)⟩
theorem lw_p10 : lw_okq (⟨"WoodStack$Reader", "readLay", "()V"⟩, 6) := ⟨⟨by decide +kernel, by decide +kernel⟩, List.mem_of_getElem? (i := 79) (by decide +kernel), List.mem_of_getElem? (i := 543) (by decide +kernel), List.mem_of_getElem? (i := 544) (by decide +kernel)⟩
theorem lw_p11 : lw_okq (⟨"WoodStack$Reader", "readTold", "(II)V"⟩, 6) := ⟨⟨by decide +kernel, by decide +kernel⟩, List.mem_of_getElem? (i := 79) (by decide +kernel), List.mem_of_getElem? (i := 547) (by decide +kernel), List.mem_of_getElem? (i := 548) (by decide +kernel)⟩
theorem lw_p12 : lw_okq (⟨"WoodStack$Reader", "number", "()I"⟩, 6) := ⟨⟨by decide +kernel, by decide +kernel⟩, List.mem_of_getElem? (i := 79) (by decide +kernel), List.mem_of_getElem? (i := 551) (by decide +kernel), List.mem_of_getElem? (i := 552) (by decide +kernel)⟩
theorem lw_p13 : lw_okq (⟨"WoodStack$Reader", "emit", "(I)V"⟩, 6) := ⟨⟨by decide +kernel, by decide +kernel⟩, List.mem_of_getElem? (i := 79) (by decide +kernel), List.mem_of_getElem? (i := 555) (by decide +kernel), List.mem_of_getElem? (i := 556) (by decide +kernel)⟩
theorem lw_p14 : lw_okq (⟨"WoodStack$Reader", "expect", "(I)V"⟩, 6) := ⟨⟨by decide +kernel, by decide +kernel⟩, List.mem_of_getElem? (i := 79) (by decide +kernel), List.mem_of_getElem? (i := 563) (by decide +kernel), List.mem_of_getElem? (i := 564) (by decide +kernel)⟩
theorem lw_p15 : lw_okq (⟨"WoodStack$Reader", "readPart", "(II)V"⟩, 6) := ⟨⟨by decide +kernel, by decide +kernel⟩, List.mem_of_getElem? (i := 79) (by decide +kernel), List.mem_of_getElem? (i := 567) (by decide +kernel), List.mem_of_getElem? (i := 568) (by decide +kernel)⟩
def lw_privs_1 : List (MethodName × Nat) := [(⟨"WoodStack", "isWeather", "(I)Z"⟩, 15), (⟨"WoodStack", "feedFour", "(I)V"⟩, 15), (⟨"WoodStack$Tokens", "cutWord", "([III)I"⟩, 4), (⟨"WoodStack$Tokens", "add", "(III)V"⟩, 4), (⟨"WoodStack$Tokens", "cutNumber", "([III)I"⟩, 4), (⟨"WoodStack$Tokens", "cutSign", "([III)I"⟩, 4), (⟨"WoodStack$Reader", "token", "()I"⟩, 6), (⟨"WoodStack$Reader", "readClause", "(I)V"⟩, 6), (⟨"WoodStack$Reader", "fail", "(I)V"⟩, 6), (⟨"WoodStack$Reader", "step", "()V"⟩, 6), (⟨"WoodStack$Reader", "readLay", "()V"⟩, 6), (⟨"WoodStack$Reader", "readTold", "(II)V"⟩, 6), (⟨"WoodStack$Reader", "number", "()I"⟩, 6), (⟨"WoodStack$Reader", "emit", "(I)V"⟩, 6), (⟨"WoodStack$Reader", "expect", "(I)V"⟩, 6), (⟨"WoodStack$Reader", "readPart", "(II)V"⟩, 6)]
theorem lw_r1 : ∀ q ∈ lw_privs_1, lw_okq q := List.forall_mem_cons.mpr ⟨lw_p0, List.forall_mem_cons.mpr ⟨lw_p1, List.forall_mem_cons.mpr ⟨lw_p2, List.forall_mem_cons.mpr ⟨lw_p3, List.forall_mem_cons.mpr ⟨lw_p4, List.forall_mem_cons.mpr ⟨lw_p5, List.forall_mem_cons.mpr ⟨lw_p6, List.forall_mem_cons.mpr ⟨lw_p7, List.forall_mem_cons.mpr ⟨lw_p8, List.forall_mem_cons.mpr ⟨lw_p9, List.forall_mem_cons.mpr ⟨lw_p10, List.forall_mem_cons.mpr ⟨lw_p11, List.forall_mem_cons.mpr ⟨lw_p12, List.forall_mem_cons.mpr ⟨lw_p13, List.forall_mem_cons.mpr ⟨lw_p14, List.forall_mem_cons.mpr ⟨lw_p15, fun _ h => absurd h List.not_mem_nil⟩⟩⟩⟩⟩⟩⟩⟩⟩⟩⟩⟩⟩⟩⟩⟩
theorem lw_p16 : lw_okq (⟨"WoodStack$Reader", "readAsk", "(I)V"⟩, 6) := ⟨⟨by decide +kernel, by decide +kernel⟩, List.mem_of_getElem? (i := 79) (by decide +kernel), List.mem_of_getElem? (i := 571) (by decide +kernel), List.mem_of_getElem? (i := 572) (by decide +kernel)⟩
theorem lw_p17 : lw_okq (⟨"WoodStack$Reader", "opens", "(I)Z"⟩, 6) := ⟨⟨by decide +kernel, by decide +kernel⟩, List.mem_of_getElem? (i := 79) (by decide +kernel), List.mem_of_getElem? (i := 575) (by decide +kernel), List.mem_of_getElem? (i := 576) (by decide +kernel)⟩
theorem lw_p18 : lw_okq (⟨"WoodStack$Reader", "readOne", "(I)V"⟩, 6) := ⟨⟨by decide +kernel, by decide +kernel⟩, List.mem_of_getElem? (i := 79) (by decide +kernel), List.mem_of_getElem? (i := 579) (by decide +kernel), List.mem_of_getElem? (i := 580) (by decide +kernel)⟩
theorem lw_p19 : lw_okq (⟨"WoodStack$Reader", "readName", "(I)V"⟩, 6) := ⟨⟨by decide +kernel, by decide +kernel⟩, List.mem_of_getElem? (i := 79) (by decide +kernel), List.mem_of_getElem? (i := 583) (by decide +kernel), List.mem_of_getElem? (i := 584) (by decide +kernel)⟩
theorem lw_p20 : lw_okq (⟨"WoodStack$Reader", "isNameOfClause", "(I)Z"⟩, 6) := ⟨⟨by decide +kernel, by decide +kernel⟩, List.mem_of_getElem? (i := 79) (by decide +kernel), List.mem_of_getElem? (i := 587) (by decide +kernel), List.mem_of_getElem? (i := 588) (by decide +kernel)⟩
theorem lw_p21 : lw_okq (⟨"WoodStack$Reader", "readPair", "(II)V"⟩, 6) := ⟨⟨by decide +kernel, by decide +kernel⟩, List.mem_of_getElem? (i := 79) (by decide +kernel), List.mem_of_getElem? (i := 591) (by decide +kernel), List.mem_of_getElem? (i := 592) (by decide +kernel)⟩
theorem lw_p22 : lw_okq (⟨"WoodStack", "isText", "(I)Z"⟩, 15) := ⟨⟨by decide +kernel, by decide +kernel⟩, List.mem_of_getElem? (i := 17) (by decide +kernel), List.mem_of_getElem? (i := 607) (by decide +kernel), List.mem_of_getElem? (i := 608) (by decide +kernel)⟩
theorem lw_p23 : lw_okq (⟨"WoodStack", "obey", "()V"⟩, 15) := ⟨⟨by decide +kernel, by decide +kernel⟩, List.mem_of_getElem? (i := 17) (by decide +kernel), List.mem_of_getElem? (i := 611) (by decide +kernel), List.mem_of_getElem? (i := 612) (by decide +kernel)⟩
theorem lw_p24 : lw_okq (⟨"WoodStack", "layClause", "(LWoodStack$Text;I)Z"⟩, 15) := ⟨⟨by decide +kernel, by decide +kernel⟩, List.mem_of_getElem? (i := 17) (by decide +kernel), List.mem_of_getElem? (i := 623) (by decide +kernel), List.mem_of_getElem? (i := 624) (by decide +kernel)⟩
theorem lw_p25 : lw_okq (⟨"WoodStack$Laws", "look", "(LWoodStack$Pile;II)V"⟩, 3) := ⟨⟨by decide +kernel, by decide +kernel⟩, List.mem_of_getElem? (i := 62) (by decide +kernel), List.mem_of_getElem? (i := 640) (by decide +kernel), List.mem_of_getElem? (i := 641) (by decide +kernel)⟩
theorem lw_p26 : lw_okq (⟨"WoodStack$Laws", "valueOf", "(I)I"⟩, 3) := ⟨⟨by decide +kernel, by decide +kernel⟩, List.mem_of_getElem? (i := 62) (by decide +kernel), List.mem_of_getElem? (i := 659) (by decide +kernel), List.mem_of_getElem? (i := 660) (by decide +kernel)⟩
theorem lw_p27 : lw_okq (⟨"WoodStack$Laws", "nameValue", "(I)I"⟩, 3) := ⟨⟨by decide +kernel, by decide +kernel⟩, List.mem_of_getElem? (i := 62) (by decide +kernel), List.mem_of_getElem? (i := 663) (by decide +kernel), List.mem_of_getElem? (i := 664) (by decide +kernel)⟩
theorem lw_p28 : lw_okq (⟨"WoodStack$Laws", "hasBeetle", "(LWoodStack$Pile;II)Z"⟩, 3) := ⟨⟨by decide +kernel, by decide +kernel⟩, List.mem_of_getElem? (i := 62) (by decide +kernel), List.mem_of_getElem? (i := 733) (by decide +kernel), List.mem_of_getElem? (i := 734) (by decide +kernel)⟩
theorem lw_p29 : lw_okq (⟨"WoodStack$Laws", "driedBy", "(LWoodStack$Pile;II)I"⟩, 3) := ⟨⟨by decide +kernel, by decide +kernel⟩, List.mem_of_getElem? (i := 62) (by decide +kernel), List.mem_of_getElem? (i := 750) (by decide +kernel), List.mem_of_getElem? (i := 751) (by decide +kernel)⟩
theorem lw_p30 : lw_okq (⟨"WoodStack", "takeOne", "()I"⟩, 15) := ⟨⟨by decide +kernel, by decide +kernel⟩, List.mem_of_getElem? (i := 17) (by decide +kernel), List.mem_of_getElem? (i := 762) (by decide +kernel), List.mem_of_getElem? (i := 763) (by decide +kernel)⟩
theorem lw_p31 : lw_okq (⟨"WoodStack$Pile", "bringDown", "(I)V"⟩, 13) := ⟨⟨by decide +kernel, by decide +kernel⟩, List.mem_of_getElem? (i := 141) (by decide +kernel), List.mem_of_getElem? (i := 775) (by decide +kernel), List.mem_of_getElem? (i := 776) (by decide +kernel)⟩
def lw_privs_2 : List (MethodName × Nat) := [(⟨"WoodStack$Reader", "readAsk", "(I)V"⟩, 6), (⟨"WoodStack$Reader", "opens", "(I)Z"⟩, 6), (⟨"WoodStack$Reader", "readOne", "(I)V"⟩, 6), (⟨"WoodStack$Reader", "readName", "(I)V"⟩, 6), (⟨"WoodStack$Reader", "isNameOfClause", "(I)Z"⟩, 6), (⟨"WoodStack$Reader", "readPair", "(II)V"⟩, 6), (⟨"WoodStack", "isText", "(I)Z"⟩, 15), (⟨"WoodStack", "obey", "()V"⟩, 15), (⟨"WoodStack", "layClause", "(LWoodStack$Text;I)Z"⟩, 15), (⟨"WoodStack$Laws", "look", "(LWoodStack$Pile;II)V"⟩, 3), (⟨"WoodStack$Laws", "valueOf", "(I)I"⟩, 3), (⟨"WoodStack$Laws", "nameValue", "(I)I"⟩, 3), (⟨"WoodStack$Laws", "hasBeetle", "(LWoodStack$Pile;II)Z"⟩, 3), (⟨"WoodStack$Laws", "driedBy", "(LWoodStack$Pile;II)I"⟩, 3), (⟨"WoodStack", "takeOne", "()I"⟩, 15), (⟨"WoodStack$Pile", "bringDown", "(I)V"⟩, 13)]
theorem lw_r2 : ∀ q ∈ lw_privs_2, lw_okq q := List.forall_mem_cons.mpr ⟨lw_p16, List.forall_mem_cons.mpr ⟨lw_p17, List.forall_mem_cons.mpr ⟨lw_p18, List.forall_mem_cons.mpr ⟨lw_p19, List.forall_mem_cons.mpr ⟨lw_p20, List.forall_mem_cons.mpr ⟨lw_p21, List.forall_mem_cons.mpr ⟨lw_p22, List.forall_mem_cons.mpr ⟨lw_p23, List.forall_mem_cons.mpr ⟨lw_p24, List.forall_mem_cons.mpr ⟨lw_p25, List.forall_mem_cons.mpr ⟨lw_p26, List.forall_mem_cons.mpr ⟨lw_p27, List.forall_mem_cons.mpr ⟨lw_p28, List.forall_mem_cons.mpr ⟨lw_p29, List.forall_mem_cons.mpr ⟨lw_p30, List.forall_mem_cons.mpr ⟨lw_p31, fun _ h => absurd h List.not_mem_nil⟩⟩⟩⟩⟩⟩⟩⟩⟩⟩⟩⟩⟩⟩⟩⟩
theorem lw_p32 : lw_okq (⟨"WoodStack", "canPass", "(I)Z"⟩, 15) := ⟨⟨by decide +kernel, by decide +kernel⟩, List.mem_of_getElem? (i := 17) (by decide +kernel), List.mem_of_getElem? (i := 783) (by decide +kernel), List.mem_of_getElem? (i := 784) (by decide +kernel)⟩
theorem lw_p33 : lw_okq (⟨"WoodStack$Search", "tryFrom", "(IIILWoodStack$Yard;LWoodStack$Laws;)V"⟩, 5) := ⟨⟨by decide +kernel, by decide +kernel⟩, List.mem_of_getElem? (i := 272) (by decide +kernel), List.mem_of_getElem? (i := 798) (by decide +kernel), List.mem_of_getElem? (i := 799) (by decide +kernel)⟩
theorem lw_p34 : lw_okq (⟨"WoodStack$Search", "note", "(II)V"⟩, 5) := ⟨⟨by decide +kernel, by decide +kernel⟩, List.mem_of_getElem? (i := 272) (by decide +kernel), List.mem_of_getElem? (i := 802) (by decide +kernel), List.mem_of_getElem? (i := 803) (by decide +kernel)⟩
theorem lw_p35 : lw_okq (⟨"WoodStack", "tryWay", "(II)V"⟩, 15) := ⟨⟨by decide +kernel, by decide +kernel⟩, List.mem_of_getElem? (i := 17) (by decide +kernel), List.mem_of_getElem? (i := 815) (by decide +kernel), List.mem_of_getElem? (i := 816) (by decide +kernel)⟩
theorem lw_p36 : lw_okq (⟨"WoodStack", "bestInBoth", "(II)I"⟩, 15) := ⟨⟨by decide +kernel, by decide +kernel⟩, List.mem_of_getElem? (i := 17) (by decide +kernel), List.mem_of_getElem? (i := 827) (by decide +kernel), List.mem_of_getElem? (i := 828) (by decide +kernel)⟩
theorem lw_p37 : lw_okq (⟨"WoodStack", "canTry", "(I)Z"⟩, 15) := ⟨⟨by decide +kernel, by decide +kernel⟩, List.mem_of_getElem? (i := 17) (by decide +kernel), List.mem_of_getElem? (i := 835) (by decide +kernel), List.mem_of_getElem? (i := 836) (by decide +kernel)⟩
theorem lw_p38 : lw_okq (⟨"WoodStack", "trySpans", "(I)V"⟩, 15) := ⟨⟨by decide +kernel, by decide +kernel⟩, List.mem_of_getElem? (i := 17) (by decide +kernel), List.mem_of_getElem? (i := 839) (by decide +kernel), List.mem_of_getElem? (i := 840) (by decide +kernel)⟩
theorem lw_p39 : lw_okq (⟨"WoodStack", "lesser", "(I)I"⟩, 15) := ⟨⟨by decide +kernel, by decide +kernel⟩, List.mem_of_getElem? (i := 17) (by decide +kernel), List.mem_of_getElem? (i := 843) (by decide +kernel), List.mem_of_getElem? (i := 844) (by decide +kernel)⟩
theorem lw_p40 : lw_okq (⟨"WoodStack", "greater", "(I)I"⟩, 15) := ⟨⟨by decide +kernel, by decide +kernel⟩, List.mem_of_getElem? (i := 17) (by decide +kernel), List.mem_of_getElem? (i := 847) (by decide +kernel), List.mem_of_getElem? (i := 848) (by decide +kernel)⟩
theorem lw_p41 : lw_okq (⟨"WoodStack", "nextToMeasure", "()I"⟩, 15) := ⟨⟨by decide +kernel, by decide +kernel⟩, List.mem_of_getElem? (i := 17) (by decide +kernel), List.mem_of_getElem? (i := 855) (by decide +kernel), List.mem_of_getElem? (i := 856) (by decide +kernel)⟩
theorem lw_p42 : lw_okq (⟨"WoodStack", "listHeats", "()I"⟩, 15) := ⟨⟨by decide +kernel, by decide +kernel⟩, List.mem_of_getElem? (i := 17) (by decide +kernel), List.mem_of_getElem? (i := 869) (by decide +kernel), List.mem_of_getElem? (i := 870) (by decide +kernel)⟩
theorem lw_p43 : lw_okq (⟨"WoodStack", "pullGreatest", "(I)I"⟩, 15) := ⟨⟨by decide +kernel, by decide +kernel⟩, List.mem_of_getElem? (i := 17) (by decide +kernel), List.mem_of_getElem? (i := 873) (by decide +kernel), List.mem_of_getElem? (i := 874) (by decide +kernel)⟩
theorem lw_p44 : lw_okq (⟨"WoodStack", "missingOf", "(I)I"⟩, 15) := ⟨⟨by decide +kernel, by decide +kernel⟩, List.mem_of_getElem? (i := 17) (by decide +kernel), List.mem_of_getElem? (i := 886) (by decide +kernel), List.mem_of_getElem? (i := 887) (by decide +kernel)⟩
theorem lw_p45 : lw_okq (⟨"WoodStack", "fallsBy", "(II)Z"⟩, 15) := ⟨⟨by decide +kernel, by decide +kernel⟩, List.mem_of_getElem? (i := 17) (by decide +kernel), List.mem_of_getElem? (i := 894) (by decide +kernel), List.mem_of_getElem? (i := 895) (by decide +kernel)⟩
theorem lw_p46 : lw_okq (⟨"WoodStackModel", "copy", "(II)V"⟩, 37) := ⟨⟨by decide +kernel, by decide +kernel⟩, List.mem_of_getElem? (i := 919) (by decide +kernel), List.mem_of_getElem? (i := 925) (by decide +kernel), List.mem_of_getElem? (i := 926) (by decide +kernel)⟩
theorem lw_p47 : lw_okq (⟨"WoodStackModel", "isColumn", "(I)Z"⟩, 37) := ⟨⟨by decide +kernel, by decide +kernel⟩, List.mem_of_getElem? (i := 919) (by decide +kernel), List.mem_of_getElem? (i := 1045) (by decide +kernel), List.mem_of_getElem? (i := 1046) (by decide +kernel)⟩
def lw_privs_3 : List (MethodName × Nat) := [(⟨"WoodStack", "canPass", "(I)Z"⟩, 15), (⟨"WoodStack$Search", "tryFrom", "(IIILWoodStack$Yard;LWoodStack$Laws;)V"⟩, 5), (⟨"WoodStack$Search", "note", "(II)V"⟩, 5), (⟨"WoodStack", "tryWay", "(II)V"⟩, 15), (⟨"WoodStack", "bestInBoth", "(II)I"⟩, 15), (⟨"WoodStack", "canTry", "(I)Z"⟩, 15), (⟨"WoodStack", "trySpans", "(I)V"⟩, 15), (⟨"WoodStack", "lesser", "(I)I"⟩, 15), (⟨"WoodStack", "greater", "(I)I"⟩, 15), (⟨"WoodStack", "nextToMeasure", "()I"⟩, 15), (⟨"WoodStack", "listHeats", "()I"⟩, 15), (⟨"WoodStack", "pullGreatest", "(I)I"⟩, 15), (⟨"WoodStack", "missingOf", "(I)I"⟩, 15), (⟨"WoodStack", "fallsBy", "(II)Z"⟩, 15), (⟨"WoodStackModel", "copy", "(II)V"⟩, 37), (⟨"WoodStackModel", "isColumn", "(I)Z"⟩, 37)]
theorem lw_r3 : ∀ q ∈ lw_privs_3, lw_okq q := List.forall_mem_cons.mpr ⟨lw_p32, List.forall_mem_cons.mpr ⟨lw_p33, List.forall_mem_cons.mpr ⟨lw_p34, List.forall_mem_cons.mpr ⟨lw_p35, List.forall_mem_cons.mpr ⟨lw_p36, List.forall_mem_cons.mpr ⟨lw_p37, List.forall_mem_cons.mpr ⟨lw_p38, List.forall_mem_cons.mpr ⟨lw_p39, List.forall_mem_cons.mpr ⟨lw_p40, List.forall_mem_cons.mpr ⟨lw_p41, List.forall_mem_cons.mpr ⟨lw_p42, List.forall_mem_cons.mpr ⟨lw_p43, List.forall_mem_cons.mpr ⟨lw_p44, List.forall_mem_cons.mpr ⟨lw_p45, List.forall_mem_cons.mpr ⟨lw_p46, List.forall_mem_cons.mpr ⟨lw_p47, fun _ h => absurd h List.not_mem_nil⟩⟩⟩⟩⟩⟩⟩⟩⟩⟩⟩⟩⟩⟩⟩⟩
theorem lw_p48 : lw_okq (⟨"WoodStackModel", "count", "(I)I"⟩, 37) := ⟨⟨by decide +kernel, by decide +kernel⟩, List.mem_of_getElem? (i := 919) (by decide +kernel), List.mem_of_getElem? (i := 1052) (by decide +kernel), List.mem_of_getElem? (i := 1053) (by decide +kernel)⟩
theorem lw_p49 : lw_okq (⟨"WoodStackModel", "put", "(IIII)V"⟩, 37) := ⟨⟨by decide +kernel, by decide +kernel⟩, List.mem_of_getElem? (i := 919) (by decide +kernel), List.mem_of_getElem? (i := 1056) (by decide +kernel), List.mem_of_getElem? (i := 1057) (by decide +kernel)⟩
theorem lw_p50 : lw_okq (⟨"WoodStackModel", "at0", "(II)I"⟩, 37) := ⟨⟨by decide +kernel, by decide +kernel⟩, List.mem_of_getElem? (i := 919) (by decide +kernel), List.mem_of_getElem? (i := 1060) (by decide +kernel), List.mem_of_getElem? (i := 1061) (by decide +kernel)⟩
theorem lw_p51 : lw_okq (⟨"WoodStackModel", "isSplit", "(II)Z"⟩, 37) := ⟨⟨by decide +kernel, by decide +kernel⟩, List.mem_of_getElem? (i := 919) (by decide +kernel), List.mem_of_getElem? (i := 1068) (by decide +kernel), List.mem_of_getElem? (i := 1069) (by decide +kernel)⟩
theorem lw_p52 : lw_okq (⟨"WoodStackModel", "isWeather", "(I)Z"⟩, 37) := ⟨⟨by decide +kernel, by decide +kernel⟩, List.mem_of_getElem? (i := 919) (by decide +kernel), List.mem_of_getElem? (i := 1091) (by decide +kernel), List.mem_of_getElem? (i := 1092) (by decide +kernel)⟩
theorem lw_p53 : lw_okq (⟨"WoodStackModel", "four", "(I)V"⟩, 37) := ⟨⟨by decide +kernel, by decide +kernel⟩, List.mem_of_getElem? (i := 919) (by decide +kernel), List.mem_of_getElem? (i := 1103) (by decide +kernel), List.mem_of_getElem? (i := 1104) (by decide +kernel)⟩
theorem lw_p54 : lw_okq (⟨"WoodStackModel", "readText", "()I"⟩, 37) := ⟨⟨by decide +kernel, by decide +kernel⟩, List.mem_of_getElem? (i := 919) (by decide +kernel), List.mem_of_getElem? (i := 1115) (by decide +kernel), List.mem_of_getElem? (i := 1116) (by decide +kernel)⟩
theorem lw_p55 : lw_okq (⟨"WoodStackModel", "nextToken", "()V"⟩, 37) := ⟨⟨by decide +kernel, by decide +kernel⟩, List.mem_of_getElem? (i := 919) (by decide +kernel), List.mem_of_getElem? (i := 1119) (by decide +kernel), List.mem_of_getElem? (i := 1120) (by decide +kernel)⟩
theorem lw_p56 : lw_okq (⟨"WoodStackModel", "byteAt", "(I)I"⟩, 37) := ⟨⟨by decide +kernel, by decide +kernel⟩, List.mem_of_getElem? (i := 919) (by decide +kernel), List.mem_of_getElem? (i := 1123) (by decide +kernel), List.mem_of_getElem? (i := 1124) (by decide +kernel)⟩
theorem lw_p57 : lw_okq (⟨"WoodStackModel", "clause", "()I"⟩, 37) := ⟨⟨by decide +kernel, by decide +kernel⟩, List.mem_of_getElem? (i := 919) (by decide +kernel), List.mem_of_getElem? (i := 1134) (by decide +kernel), List.mem_of_getElem? (i := 1135) (by decide +kernel)⟩
theorem lw_p58 : lw_okq (⟨"WoodStackModel", "sortOf", "()I"⟩, 37) := ⟨⟨by decide +kernel, by decide +kernel⟩, List.mem_of_getElem? (i := 919) (by decide +kernel), List.mem_of_getElem? (i := 1138) (by decide +kernel), List.mem_of_getElem? (i := 1139) (by decide +kernel)⟩
theorem lw_p59 : lw_okq (⟨"WoodStackModel", "isWord", "(J)Z"⟩, 37) := ⟨⟨by decide +kernel, by decide +kernel⟩, List.mem_of_getElem? (i := 919) (by decide +kernel), List.mem_of_getElem? (i := 1145) (by decide +kernel), List.mem_of_getElem? (i := 1146) (by decide +kernel)⟩
theorem lw_p60 : lw_okq (⟨"WoodStackModel", "laidBy", "(I)I"⟩, 37) := ⟨⟨by decide +kernel, by decide +kernel⟩, List.mem_of_getElem? (i := 919) (by decide +kernel), List.mem_of_getElem? (i := 1158) (by decide +kernel), List.mem_of_getElem? (i := 1159) (by decide +kernel)⟩
theorem lw_p61 : lw_okq (⟨"WoodStackModel", "figure", "(III)I"⟩, 37) := ⟨⟨by decide +kernel, by decide +kernel⟩, List.mem_of_getElem? (i := 919) (by decide +kernel), List.mem_of_getElem? (i := 1162) (by decide +kernel), List.mem_of_getElem? (i := 1163) (by decide +kernel)⟩
theorem lw_p62 : lw_okq (⟨"WoodStackModel", "expects", "(Z)I"⟩, 37) := ⟨⟨by decide +kernel, by decide +kernel⟩, List.mem_of_getElem? (i := 919) (by decide +kernel), List.mem_of_getElem? (i := 1166) (by decide +kernel), List.mem_of_getElem? (i := 1167) (by decide +kernel)⟩
theorem lw_p63 : lw_okq (⟨"WoodStackModel", "parsed", "(Z)I"⟩, 37) := ⟨⟨by decide +kernel, by decide +kernel⟩, List.mem_of_getElem? (i := 919) (by decide +kernel), List.mem_of_getElem? (i := 1171) (by decide +kernel), List.mem_of_getElem? (i := 1172) (by decide +kernel)⟩
def lw_privs_4 : List (MethodName × Nat) := [(⟨"WoodStackModel", "count", "(I)I"⟩, 37), (⟨"WoodStackModel", "put", "(IIII)V"⟩, 37), (⟨"WoodStackModel", "at0", "(II)I"⟩, 37), (⟨"WoodStackModel", "isSplit", "(II)Z"⟩, 37), (⟨"WoodStackModel", "isWeather", "(I)Z"⟩, 37), (⟨"WoodStackModel", "four", "(I)V"⟩, 37), (⟨"WoodStackModel", "readText", "()I"⟩, 37), (⟨"WoodStackModel", "nextToken", "()V"⟩, 37), (⟨"WoodStackModel", "byteAt", "(I)I"⟩, 37), (⟨"WoodStackModel", "clause", "()I"⟩, 37), (⟨"WoodStackModel", "sortOf", "()I"⟩, 37), (⟨"WoodStackModel", "isWord", "(J)Z"⟩, 37), (⟨"WoodStackModel", "laidBy", "(I)I"⟩, 37), (⟨"WoodStackModel", "figure", "(III)I"⟩, 37), (⟨"WoodStackModel", "expects", "(Z)I"⟩, 37), (⟨"WoodStackModel", "parsed", "(Z)I"⟩, 37)]
theorem lw_r4 : ∀ q ∈ lw_privs_4, lw_okq q := List.forall_mem_cons.mpr ⟨lw_p48, List.forall_mem_cons.mpr ⟨lw_p49, List.forall_mem_cons.mpr ⟨lw_p50, List.forall_mem_cons.mpr ⟨lw_p51, List.forall_mem_cons.mpr ⟨lw_p52, List.forall_mem_cons.mpr ⟨lw_p53, List.forall_mem_cons.mpr ⟨lw_p54, List.forall_mem_cons.mpr ⟨lw_p55, List.forall_mem_cons.mpr ⟨lw_p56, List.forall_mem_cons.mpr ⟨lw_p57, List.forall_mem_cons.mpr ⟨lw_p58, List.forall_mem_cons.mpr ⟨lw_p59, List.forall_mem_cons.mpr ⟨lw_p60, List.forall_mem_cons.mpr ⟨lw_p61, List.forall_mem_cons.mpr ⟨lw_p62, List.forall_mem_cons.mpr ⟨lw_p63, fun _ h => absurd h List.not_mem_nil⟩⟩⟩⟩⟩⟩⟩⟩⟩⟩⟩⟩⟩⟩⟩⟩
theorem lw_p64 : lw_okq (⟨"WoodStackModel", "behindOne", "(Z)Z"⟩, 37) := ⟨⟨by decide +kernel, by decide +kernel⟩, List.mem_of_getElem? (i := 919) (by decide +kernel), List.mem_of_getElem? (i := 1175) (by decide +kernel), List.mem_of_getElem? (i := 1176) (by decide +kernel)⟩
theorem lw_p65 : lw_okq (⟨"WoodStackModel", "betweenOf", "(Z)I"⟩, 37) := ⟨⟨by decide +kernel, by decide +kernel⟩, List.mem_of_getElem? (i := 919) (by decide +kernel), List.mem_of_getElem? (i := 1179) (by decide +kernel), List.mem_of_getElem? (i := 1180) (by decide +kernel)⟩
theorem lw_p66 : lw_okq (⟨"WoodStackModel", "marker", "()I"⟩, 37) := ⟨⟨by decide +kernel, by decide +kernel⟩, List.mem_of_getElem? (i := 919) (by decide +kernel), List.mem_of_getElem? (i := 1183) (by decide +kernel), List.mem_of_getElem? (i := 1184) (by decide +kernel)⟩
theorem lw_p67 : lw_okq (⟨"WoodStackModel", "isCompared", "()Z"⟩, 37) := ⟨⟨by decide +kernel, by decide +kernel⟩, List.mem_of_getElem? (i := 919) (by decide +kernel), List.mem_of_getElem? (i := 1187) (by decide +kernel), List.mem_of_getElem? (i := 1188) (by decide +kernel)⟩
theorem lw_p68 : lw_okq (⟨"WoodStackModel", "compareOf", "()I"⟩, 37) := ⟨⟨by decide +kernel, by decide +kernel⟩, List.mem_of_getElem? (i := 919) (by decide +kernel), List.mem_of_getElem? (i := 1194) (by decide +kernel), List.mem_of_getElem? (i := 1195) (by decide +kernel)⟩
theorem lw_p69 : lw_okq (⟨"WoodStackModel", "settle", "(I)V"⟩, 37) := ⟨⟨by decide +kernel, by decide +kernel⟩, List.mem_of_getElem? (i := 919) (by decide +kernel), List.mem_of_getElem? (i := 1199) (by decide +kernel), List.mem_of_getElem? (i := 1200) (by decide +kernel)⟩
theorem lw_p70 : lw_okq (⟨"WoodStackModel", "emit", "(II)V"⟩, 37) := ⟨⟨by decide +kernel, by decide +kernel⟩, List.mem_of_getElem? (i := 919) (by decide +kernel), List.mem_of_getElem? (i := 1203) (by decide +kernel), List.mem_of_getElem? (i := 1204) (by decide +kernel)⟩
theorem lw_p71 : lw_okq (⟨"WoodStackModel", "push", "(I)V"⟩, 37) := ⟨⟨by decide +kernel, by decide +kernel⟩, List.mem_of_getElem? (i := 919) (by decide +kernel), List.mem_of_getElem? (i := 1207) (by decide +kernel), List.mem_of_getElem? (i := 1208) (by decide +kernel)⟩
theorem lw_p72 : lw_okq (⟨"WoodStackModel", "whole", "()V"⟩, 37) := ⟨⟨by decide +kernel, by decide +kernel⟩, List.mem_of_getElem? (i := 919) (by decide +kernel), List.mem_of_getElem? (i := 1211) (by decide +kernel), List.mem_of_getElem? (i := 1212) (by decide +kernel)⟩
theorem lw_p73 : lw_okq (⟨"WoodStackModel", "beginOne", "(Z)I"⟩, 37) := ⟨⟨by decide +kernel, by decide +kernel⟩, List.mem_of_getElem? (i := 919) (by decide +kernel), List.mem_of_getElem? (i := 1215) (by decide +kernel), List.mem_of_getElem? (i := 1216) (by decide +kernel)⟩
theorem lw_p74 : lw_okq (⟨"WoodStackModel", "nameOf", "()I"⟩, 37) := ⟨⟨by decide +kernel, by decide +kernel⟩, List.mem_of_getElem? (i := 919) (by decide +kernel), List.mem_of_getElem? (i := 1219) (by decide +kernel), List.mem_of_getElem? (i := 1220) (by decide +kernel)⟩
theorem lw_p75 : lw_okq (⟨"WoodStackModel", "farName", "()I"⟩, 37) := ⟨⟨by decide +kernel, by decide +kernel⟩, List.mem_of_getElem? (i := 919) (by decide +kernel), List.mem_of_getElem? (i := 1223) (by decide +kernel), List.mem_of_getElem? (i := 1224) (by decide +kernel)⟩
theorem lw_p76 : lw_okq (⟨"WoodStackModel", "isOf", "(I)Z"⟩, 37) := ⟨⟨by decide +kernel, by decide +kernel⟩, List.mem_of_getElem? (i := 919) (by decide +kernel), List.mem_of_getElem? (i := 1230) (by decide +kernel), List.mem_of_getElem? (i := 1231) (by decide +kernel)⟩
theorem lw_p77 : lw_okq (⟨"WoodStackModel", "opensBy", "(I)I"⟩, 37) := ⟨⟨by decide +kernel, by decide +kernel⟩, List.mem_of_getElem? (i := 919) (by decide +kernel), List.mem_of_getElem? (i := 1234) (by decide +kernel), List.mem_of_getElem? (i := 1235) (by decide +kernel)⟩
theorem lw_p78 : lw_okq (⟨"WoodStackModel", "isAskAhead", "(Z)Z"⟩, 37) := ⟨⟨by decide +kernel, by decide +kernel⟩, List.mem_of_getElem? (i := 919) (by decide +kernel), List.mem_of_getElem? (i := 1238) (by decide +kernel), List.mem_of_getElem? (i := 1239) (by decide +kernel)⟩
theorem lw_p79 : lw_okq (⟨"WoodStackModel", "thickOf", "(II)I"⟩, 37) := ⟨⟨by decide +kernel, by decide +kernel⟩, List.mem_of_getElem? (i := 919) (by decide +kernel), List.mem_of_getElem? (i := 1259) (by decide +kernel), List.mem_of_getElem? (i := 1260) (by decide +kernel)⟩
def lw_privs_5 : List (MethodName × Nat) := [(⟨"WoodStackModel", "behindOne", "(Z)Z"⟩, 37), (⟨"WoodStackModel", "betweenOf", "(Z)I"⟩, 37), (⟨"WoodStackModel", "marker", "()I"⟩, 37), (⟨"WoodStackModel", "isCompared", "()Z"⟩, 37), (⟨"WoodStackModel", "compareOf", "()I"⟩, 37), (⟨"WoodStackModel", "settle", "(I)V"⟩, 37), (⟨"WoodStackModel", "emit", "(II)V"⟩, 37), (⟨"WoodStackModel", "push", "(I)V"⟩, 37), (⟨"WoodStackModel", "whole", "()V"⟩, 37), (⟨"WoodStackModel", "beginOne", "(Z)I"⟩, 37), (⟨"WoodStackModel", "nameOf", "()I"⟩, 37), (⟨"WoodStackModel", "farName", "()I"⟩, 37), (⟨"WoodStackModel", "isOf", "(I)Z"⟩, 37), (⟨"WoodStackModel", "opensBy", "(I)I"⟩, 37), (⟨"WoodStackModel", "isAskAhead", "(Z)Z"⟩, 37), (⟨"WoodStackModel", "thickOf", "(II)I"⟩, 37)]
theorem lw_r5 : ∀ q ∈ lw_privs_5, lw_okq q := List.forall_mem_cons.mpr ⟨lw_p64, List.forall_mem_cons.mpr ⟨lw_p65, List.forall_mem_cons.mpr ⟨lw_p66, List.forall_mem_cons.mpr ⟨lw_p67, List.forall_mem_cons.mpr ⟨lw_p68, List.forall_mem_cons.mpr ⟨lw_p69, List.forall_mem_cons.mpr ⟨lw_p70, List.forall_mem_cons.mpr ⟨lw_p71, List.forall_mem_cons.mpr ⟨lw_p72, List.forall_mem_cons.mpr ⟨lw_p73, List.forall_mem_cons.mpr ⟨lw_p74, List.forall_mem_cons.mpr ⟨lw_p75, List.forall_mem_cons.mpr ⟨lw_p76, List.forall_mem_cons.mpr ⟨lw_p77, List.forall_mem_cons.mpr ⟨lw_p78, List.forall_mem_cons.mpr ⟨lw_p79, fun _ h => absurd h List.not_mem_nil⟩⟩⟩⟩⟩⟩⟩⟩⟩⟩⟩⟩⟩⟩⟩⟩
theorem lw_p80 : lw_okq (⟨"WoodStackModel", "name", "(II)V"⟩, 37) := ⟨⟨by decide +kernel, by decide +kernel⟩, List.mem_of_getElem? (i := 919) (by decide +kernel), List.mem_of_getElem? (i := 1263) (by decide +kernel), List.mem_of_getElem? (i := 1264) (by decide +kernel)⟩
theorem lw_p81 : lw_okq (⟨"WoodStackModel", "besideOf", "(II)I"⟩, 37) := ⟨⟨by decide +kernel, by decide +kernel⟩, List.mem_of_getElem? (i := 919) (by decide +kernel), List.mem_of_getElem? (i := 1267) (by decide +kernel), List.mem_of_getElem? (i := 1268) (by decide +kernel)⟩
theorem lw_p82 : lw_okq (⟨"WoodStackModel", "sumOf", "(IIII)I"⟩, 37) := ⟨⟨by decide +kernel, by decide +kernel⟩, List.mem_of_getElem? (i := 919) (by decide +kernel), List.mem_of_getElem? (i := 1271) (by decide +kernel), List.mem_of_getElem? (i := 1272) (by decide +kernel)⟩
theorem lw_p83 : lw_okq (⟨"WoodStackModel", "clauseOf", "(I)I"⟩, 37) := ⟨⟨by decide +kernel, by decide +kernel⟩, List.mem_of_getElem? (i := 919) (by decide +kernel), List.mem_of_getElem? (i := 1275) (by decide +kernel), List.mem_of_getElem? (i := 1276) (by decide +kernel)⟩
theorem lw_p84 : lw_okq (⟨"WoodStackModel", "clauses", "()I"⟩, 37) := ⟨⟨by decide +kernel, by decide +kernel⟩, List.mem_of_getElem? (i := 919) (by decide +kernel), List.mem_of_getElem? (i := 1279) (by decide +kernel), List.mem_of_getElem? (i := 1280) (by decide +kernel)⟩
theorem lw_p85 : lw_okq (⟨"WoodStackModel", "work", "(I)V"⟩, 37) := ⟨⟨by decide +kernel, by decide +kernel⟩, List.mem_of_getElem? (i := 919) (by decide +kernel), List.mem_of_getElem? (i := 1283) (by decide +kernel), List.mem_of_getElem? (i := 1284) (by decide +kernel)⟩
theorem lw_p86 : lw_okq (⟨"WoodStackModel", "heatOf", "(II)I"⟩, 37) := ⟨⟨by decide +kernel, by decide +kernel⟩, List.mem_of_getElem? (i := 919) (by decide +kernel), List.mem_of_getElem? (i := 1301) (by decide +kernel), List.mem_of_getElem? (i := 1302) (by decide +kernel)⟩
theorem lw_p87 : lw_okq (⟨"WoodStackModel", "isDry", "(II)Z"⟩, 37) := ⟨⟨by decide +kernel, by decide +kernel⟩, List.mem_of_getElem? (i := 919) (by decide +kernel), List.mem_of_getElem? (i := 1305) (by decide +kernel), List.mem_of_getElem? (i := 1306) (by decide +kernel)⟩
theorem lw_p88 : lw_okq (⟨"WoodStackModel", "heightOf", "(I)I"⟩, 37) := ⟨⟨by decide +kernel, by decide +kernel⟩, List.mem_of_getElem? (i := 919) (by decide +kernel), List.mem_of_getElem? (i := 1313) (by decide +kernel), List.mem_of_getElem? (i := 1314) (by decide +kernel)⟩
theorem lw_p89 : lw_okq (⟨"WoodStackModel", "leanOf", "()I"⟩, 37) := ⟨⟨by decide +kernel, by decide +kernel⟩, List.mem_of_getElem? (i := 919) (by decide +kernel), List.mem_of_getElem? (i := 1317) (by decide +kernel), List.mem_of_getElem? (i := 1318) (by decide +kernel)⟩
theorem lw_p90 : lw_okq (⟨"WoodStackModel", "standOf", "()I"⟩, 37) := ⟨⟨by decide +kernel, by decide +kernel⟩, List.mem_of_getElem? (i := 919) (by decide +kernel), List.mem_of_getElem? (i := 1321) (by decide +kernel), List.mem_of_getElem? (i := 1322) (by decide +kernel)⟩
theorem lw_p91 : lw_okq (⟨"WoodStackModel", "splits", "()I"⟩, 37) := ⟨⟨by decide +kernel, by decide +kernel⟩, List.mem_of_getElem? (i := 919) (by decide +kernel), List.mem_of_getElem? (i := 1325) (by decide +kernel), List.mem_of_getElem? (i := 1326) (by decide +kernel)⟩
theorem lw_p92 : lw_okq (⟨"WoodStackModel", "dryMany", "()I"⟩, 37) := ⟨⟨by decide +kernel, by decide +kernel⟩, List.mem_of_getElem? (i := 919) (by decide +kernel), List.mem_of_getElem? (i := 1329) (by decide +kernel), List.mem_of_getElem? (i := 1330) (by decide +kernel)⟩
theorem lw_p93 : lw_okq (⟨"WoodStackModel", "airIn", "()I"⟩, 37) := ⟨⟨by decide +kernel, by decide +kernel⟩, List.mem_of_getElem? (i := 919) (by decide +kernel), List.mem_of_getElem? (i := 1333) (by decide +kernel), List.mem_of_getElem? (i := 1334) (by decide +kernel)⟩
theorem lw_p94 : lw_okq (⟨"WoodStackModel", "beetles", "()I"⟩, 37) := ⟨⟨by decide +kernel, by decide +kernel⟩, List.mem_of_getElem? (i := 919) (by decide +kernel), List.mem_of_getElem? (i := 1339) (by decide +kernel), List.mem_of_getElem? (i := 1340) (by decide +kernel)⟩
theorem lw_p95 : lw_okq (⟨"WoodStackModel", "isBeetle", "(II)Z"⟩, 37) := ⟨⟨by decide +kernel, by decide +kernel⟩, List.mem_of_getElem? (i := 919) (by decide +kernel), List.mem_of_getElem? (i := 1343) (by decide +kernel), List.mem_of_getElem? (i := 1344) (by decide +kernel)⟩
def lw_privs_6 : List (MethodName × Nat) := [(⟨"WoodStackModel", "name", "(II)V"⟩, 37), (⟨"WoodStackModel", "besideOf", "(II)I"⟩, 37), (⟨"WoodStackModel", "sumOf", "(IIII)I"⟩, 37), (⟨"WoodStackModel", "clauseOf", "(I)I"⟩, 37), (⟨"WoodStackModel", "clauses", "()I"⟩, 37), (⟨"WoodStackModel", "work", "(I)V"⟩, 37), (⟨"WoodStackModel", "heatOf", "(II)I"⟩, 37), (⟨"WoodStackModel", "isDry", "(II)Z"⟩, 37), (⟨"WoodStackModel", "heightOf", "(I)I"⟩, 37), (⟨"WoodStackModel", "leanOf", "()I"⟩, 37), (⟨"WoodStackModel", "standOf", "()I"⟩, 37), (⟨"WoodStackModel", "splits", "()I"⟩, 37), (⟨"WoodStackModel", "dryMany", "()I"⟩, 37), (⟨"WoodStackModel", "airIn", "()I"⟩, 37), (⟨"WoodStackModel", "beetles", "()I"⟩, 37), (⟨"WoodStackModel", "isBeetle", "(II)Z"⟩, 37)]
theorem lw_r6 : ∀ q ∈ lw_privs_6, lw_okq q := List.forall_mem_cons.mpr ⟨lw_p80, List.forall_mem_cons.mpr ⟨lw_p81, List.forall_mem_cons.mpr ⟨lw_p82, List.forall_mem_cons.mpr ⟨lw_p83, List.forall_mem_cons.mpr ⟨lw_p84, List.forall_mem_cons.mpr ⟨lw_p85, List.forall_mem_cons.mpr ⟨lw_p86, List.forall_mem_cons.mpr ⟨lw_p87, List.forall_mem_cons.mpr ⟨lw_p88, List.forall_mem_cons.mpr ⟨lw_p89, List.forall_mem_cons.mpr ⟨lw_p90, List.forall_mem_cons.mpr ⟨lw_p91, List.forall_mem_cons.mpr ⟨lw_p92, List.forall_mem_cons.mpr ⟨lw_p93, List.forall_mem_cons.mpr ⟨lw_p94, List.forall_mem_cons.mpr ⟨lw_p95, fun _ h => absurd h List.not_mem_nil⟩⟩⟩⟩⟩⟩⟩⟩⟩⟩⟩⟩⟩⟩⟩⟩
theorem lw_p96 : lw_okq (⟨"WoodStackModel", "goBy", "(I)V"⟩, 37) := ⟨⟨by decide +kernel, by decide +kernel⟩, List.mem_of_getElem? (i := 919) (by decide +kernel), List.mem_of_getElem? (i := 1352) (by decide +kernel), List.mem_of_getElem? (i := 1353) (by decide +kernel)⟩
theorem lw_p97 : lw_okq (⟨"WoodStackModel", "driedOf", "(III)I"⟩, 37) := ⟨⟨by decide +kernel, by decide +kernel⟩, List.mem_of_getElem? (i := 919) (by decide +kernel), List.mem_of_getElem? (i := 1356) (by decide +kernel), List.mem_of_getElem? (i := 1357) (by decide +kernel)⟩
theorem lw_p98 : lw_okq (⟨"WoodStackModel", "takeOne", "()I"⟩, 37) := ⟨⟨by decide +kernel, by decide +kernel⟩, List.mem_of_getElem? (i := 919) (by decide +kernel), List.mem_of_getElem? (i := 1364) (by decide +kernel), List.mem_of_getElem? (i := 1365) (by decide +kernel)⟩
theorem lw_p99 : lw_okq (⟨"WoodStackModel", "takeOff", "(II)V"⟩, 37) := ⟨⟨by decide +kernel, by decide +kernel⟩, List.mem_of_getElem? (i := 919) (by decide +kernel), List.mem_of_getElem? (i := 1368) (by decide +kernel), List.mem_of_getElem? (i := 1369) (by decide +kernel)⟩
theorem lw_p100 : lw_okq (⟨"WoodStackModel", "isTried", "(II)Z"⟩, 37) := ⟨⟨by decide +kernel, by decide +kernel⟩, List.mem_of_getElem? (i := 919) (by decide +kernel), List.mem_of_getElem? (i := 1376) (by decide +kernel), List.mem_of_getElem? (i := 1377) (by decide +kernel)⟩
theorem lw_p101 : lw_okq (⟨"WoodStackModel", "findOrder", "(I)V"⟩, 37) := ⟨⟨by decide +kernel, by decide +kernel⟩, List.mem_of_getElem? (i := 919) (by decide +kernel), List.mem_of_getElem? (i := 1380) (by decide +kernel), List.mem_of_getElem? (i := 1381) (by decide +kernel)⟩
theorem lw_p102 : lw_okq (⟨"WoodStackModel", "choosesNext", "(I)Z"⟩, 37) := ⟨⟨by decide +kernel, by decide +kernel⟩, List.mem_of_getElem? (i := 919) (by decide +kernel), List.mem_of_getElem? (i := 1384) (by decide +kernel), List.mem_of_getElem? (i := 1385) (by decide +kernel)⟩
theorem lw_p103 : lw_okq (⟨"WoodStackModel", "tries", "(I)V"⟩, 37) := ⟨⟨by decide +kernel, by decide +kernel⟩, List.mem_of_getElem? (i := 919) (by decide +kernel), List.mem_of_getElem? (i := 1388) (by decide +kernel), List.mem_of_getElem? (i := 1389) (by decide +kernel)⟩
theorem lw_p104 : lw_okq (⟨"WoodStackModel", "keepOrder", "(II)V"⟩, 37) := ⟨⟨by decide +kernel, by decide +kernel⟩, List.mem_of_getElem? (i := 919) (by decide +kernel), List.mem_of_getElem? (i := 1392) (by decide +kernel), List.mem_of_getElem? (i := 1393) (by decide +kernel)⟩
theorem lw_p105 : lw_okq (⟨"WoodStackModel", "tryWays", "(I)V"⟩, 37) := ⟨⟨by decide +kernel, by decide +kernel⟩, List.mem_of_getElem? (i := 919) (by decide +kernel), List.mem_of_getElem? (i := 1400) (by decide +kernel), List.mem_of_getElem? (i := 1401) (by decide +kernel)⟩
theorem lw_p106 : lw_okq (⟨"WoodStackModel", "goOn", "(I)I"⟩, 37) := ⟨⟨by decide +kernel, by decide +kernel⟩, List.mem_of_getElem? (i := 919) (by decide +kernel), List.mem_of_getElem? (i := 1404) (by decide +kernel), List.mem_of_getElem? (i := 1405) (by decide +kernel)⟩
theorem lw_p107 : lw_okq (⟨"WoodStackModel", "tryEnds", "(II[I)V"⟩, 37) := ⟨⟨by decide +kernel, by decide +kernel⟩, List.mem_of_getElem? (i := 919) (by decide +kernel), List.mem_of_getElem? (i := 1415) (by decide +kernel), List.mem_of_getElem? (i := 1416) (by decide +kernel)⟩
theorem lw_p108 : lw_okq (⟨"WoodStackModel", "lesser", "(I)I"⟩, 37) := ⟨⟨by decide +kernel, by decide +kernel⟩, List.mem_of_getElem? (i := 919) (by decide +kernel), List.mem_of_getElem? (i := 1419) (by decide +kernel), List.mem_of_getElem? (i := 1420) (by decide +kernel)⟩
theorem lw_p109 : lw_okq (⟨"WoodStackModel", "greater", "(I)I"⟩, 37) := ⟨⟨by decide +kernel, by decide +kernel⟩, List.mem_of_getElem? (i := 919) (by decide +kernel), List.mem_of_getElem? (i := 1423) (by decide +kernel), List.mem_of_getElem? (i := 1424) (by decide +kernel)⟩
theorem lw_p110 : lw_okq (⟨"WoodStackModel", "missingOf", "(I)I"⟩, 37) := ⟨⟨by decide +kernel, by decide +kernel⟩, List.mem_of_getElem? (i := 919) (by decide +kernel), List.mem_of_getElem? (i := 1448) (by decide +kernel), List.mem_of_getElem? (i := 1449) (by decide +kernel)⟩
def lw_privs_7 : List (MethodName × Nat) := [(⟨"WoodStackModel", "goBy", "(I)V"⟩, 37), (⟨"WoodStackModel", "driedOf", "(III)I"⟩, 37), (⟨"WoodStackModel", "takeOne", "()I"⟩, 37), (⟨"WoodStackModel", "takeOff", "(II)V"⟩, 37), (⟨"WoodStackModel", "isTried", "(II)Z"⟩, 37), (⟨"WoodStackModel", "findOrder", "(I)V"⟩, 37), (⟨"WoodStackModel", "choosesNext", "(I)Z"⟩, 37), (⟨"WoodStackModel", "tries", "(I)V"⟩, 37), (⟨"WoodStackModel", "keepOrder", "(II)V"⟩, 37), (⟨"WoodStackModel", "tryWays", "(I)V"⟩, 37), (⟨"WoodStackModel", "goOn", "(I)I"⟩, 37), (⟨"WoodStackModel", "tryEnds", "(II[I)V"⟩, 37), (⟨"WoodStackModel", "lesser", "(I)I"⟩, 37), (⟨"WoodStackModel", "greater", "(I)I"⟩, 37), (⟨"WoodStackModel", "missingOf", "(I)I"⟩, 37)]
theorem lw_r7 : ∀ q ∈ lw_privs_7, lw_okq q := List.forall_mem_cons.mpr ⟨lw_p96, List.forall_mem_cons.mpr ⟨lw_p97, List.forall_mem_cons.mpr ⟨lw_p98, List.forall_mem_cons.mpr ⟨lw_p99, List.forall_mem_cons.mpr ⟨lw_p100, List.forall_mem_cons.mpr ⟨lw_p101, List.forall_mem_cons.mpr ⟨lw_p102, List.forall_mem_cons.mpr ⟨lw_p103, List.forall_mem_cons.mpr ⟨lw_p104, List.forall_mem_cons.mpr ⟨lw_p105, List.forall_mem_cons.mpr ⟨lw_p106, List.forall_mem_cons.mpr ⟨lw_p107, List.forall_mem_cons.mpr ⟨lw_p108, List.forall_mem_cons.mpr ⟨lw_p109, List.forall_mem_cons.mpr ⟨lw_p110, fun _ h => absurd h List.not_mem_nil⟩⟩⟩⟩⟩⟩⟩⟩⟩⟩⟩⟩⟩⟩⟩
def lw_privs : List (MethodName × Nat) := lw_privs_1 ++ (lw_privs_2 ++ (lw_privs_3 ++ (lw_privs_4 ++ (lw_privs_5 ++ (lw_privs_6 ++ (lw_privs_7))))))
def lw_tbl : List Cond := k2_sels lw_privs ++ tables_1
theorem lw_privs_ok : ∀ q ∈ lw_privs, lw_okq q := by
  show ∀ q ∈ lw_privs_1 ++ (lw_privs_2 ++ (lw_privs_3 ++ (lw_privs_4 ++ (lw_privs_5 ++ (lw_privs_6 ++ (lw_privs_7)))))), lw_okq q
  exact List.forall_mem_append.mpr ⟨lw_r1, List.forall_mem_append.mpr ⟨lw_r2, List.forall_mem_append.mpr ⟨lw_r3, List.forall_mem_append.mpr ⟨lw_r4, List.forall_mem_append.mpr ⟨lw_r5, List.forall_mem_append.mpr ⟨lw_r6, lw_r7⟩⟩⟩⟩⟩⟩
def RX0 : String := "WoodStack$Laws"
def TX0 : u_T := fun k => match k with
  | 0 => ("WoodStack$Laws", "text", "LWoodStack$Text;", false)
  | 1 => ("WoodStack$Laws", "names", "[I", true)
  | _ => ("WoodStack$Laws", "held", "[I", true)
def tyX0 : Nat → FieldType := fun k => match k with
  | 0 => .object "WoodStack$Text"
  | 1 => .array .int
  | _ => .array .int
abbrev wsX00 : List Cond := u_ws RX0 TX0 3
theorem nmX0 : ∀ a, a < 3 → ∀ b, b < 3 → a ≠ b → (TX0 a).2.1 ≠ (TX0 b).2.1 := by decide +kernel
theorem tyX0_ok : ∀ k, k < 3 → parseFieldDescriptor (TX0 k).2.2.1 = some (tyX0 k) := by decide +kernel
abbrev cX0_init : ByteArray := prog_2_method_1_code
def yX0_init : MethodName := ⟨RX0, "<init>", "(LWoodStack$Text;)V"⟩
abbrev cX0_thickOf : ByteArray := prog_2_method_2_code
def yX0_thickOf : MethodName := ⟨RX0, "thickOf", "(LWoodStack$Pile;II)I"⟩
abbrev cX0_heatOf : ByteArray := prog_2_method_3_code
def yX0_heatOf : MethodName := ⟨RX0, "heatOf", "(LWoodStack$Pile;II)I"⟩
abbrev cX0_worthOf : ByteArray := prog_2_method_4_code
def yX0_worthOf : MethodName := ⟨RX0, "worthOf", "(LWoodStack$Pile;II)I"⟩
abbrev cX0_standOf : ByteArray := prog_2_method_5_code
def yX0_standOf : MethodName := ⟨RX0, "standOf", "(LWoodStack$Pile;)I"⟩
abbrev cX0_heightOf : ByteArray := prog_2_method_6_code
def yX0_heightOf : MethodName := ⟨RX0, "heightOf", "(LWoodStack$Pile;I)I"⟩
abbrev cX0_leanOf : ByteArray := prog_2_method_7_code
def yX0_leanOf : MethodName := ⟨RX0, "leanOf", "(LWoodStack$Pile;)I"⟩
abbrev cX0_airIn : ByteArray := prog_2_method_8_code
def yX0_airIn : MethodName := ⟨RX0, "airIn", "(LWoodStack$Pile;)I"⟩
abbrev cX0_beetlesIn : ByteArray := prog_2_method_9_code
def yX0_beetlesIn : MethodName := ⟨RX0, "beetlesIn", "(LWoodStack$Pile;)I"⟩
abbrev cX0_hasBeetle : ByteArray := prog_2_method_10_code
def yX0_hasBeetle : MethodName := ⟨RX0, "hasBeetle", "(LWoodStack$Pile;II)Z"⟩
abbrev cX0_pass : ByteArray := prog_2_method_11_code
def yX0_pass : MethodName := ⟨RX0, "pass", "(LWoodStack$Pile;LWoodStack$Yard;I)V"⟩
abbrev cX0_dryAll : ByteArray := prog_2_method_12_code
def yX0_dryAll : MethodName := ⟨RX0, "dryAll", "(LWoodStack$Pile;LWoodStack$Yard;I)V"⟩
abbrev cX0_driedBy : ByteArray := prog_2_method_13_code
def yX0_driedBy : MethodName := ⟨RX0, "driedBy", "(LWoodStack$Pile;II)I"⟩
abbrev cX0_look : ByteArray := prog_2_method_14_code
def yX0_look : MethodName := ⟨RX0, "look", "(LWoodStack$Pile;II)V"⟩
abbrev cX0_valueOf : ByteArray := prog_2_method_15_code
def yX0_valueOf : MethodName := ⟨RX0, "valueOf", "(I)I"⟩
abbrev cX0_nameValue : ByteArray := prog_2_method_16_code
def yX0_nameValue : MethodName := ⟨RX0, "nameValue", "(I)I"⟩
abbrev cX0_joined : ByteArray := prog_2_method_17_code
def yX0_joined : MethodName := ⟨RX0, "joined", "(IJJ)J"⟩
abbrev cX0_clamp : ByteArray := prog_2_method_18_code
def yX0_clamp : MethodName := ⟨RX0, "clamp", "(III)I"⟩
def RX1 : String := "WoodStack$Pile"
def TX1 : u_T := fun k => match k with
  | 0 => ("WoodStack$Pile", "wide", "I", true)
  | 1 => ("WoodStack$Pile", "kind", "[I", true)
  | 2 => ("WoodStack$Pile", "size", "[I", true)
  | 3 => ("WoodStack$Pile", "water", "[I", true)
  | 4 => ("WoodStack$Pile", "bark", "[I", true)
  | 5 => ("WoodStack$Pile", "low", "[I", true)
  | 6 => ("WoodStack$Pile", "high", "[I", true)
  | 7 => ("WoodStack$Pile", "count", "[I", true)
  | 8 => ("WoodStack$Pile", "week", "I", false)
  | 9 => ("WoodStack$Pile", "fallen", "I", false)
  | 10 => ("WoodStack$Pile", "posts", "I", false)
  | 11 => ("WoodStack$Pile", "crossed", "I", false)
  | _ => ("WoodStack$Pile", "side", "I", false)
def tyX1 : Nat → FieldType := fun k => match k with
  | 0 => .int
  | 1 => .array .int
  | 2 => .array .int
  | 3 => .array .int
  | 4 => .array .int
  | 5 => .array .int
  | 6 => .array .int
  | 7 => .array .int
  | 8 => .int
  | 9 => .int
  | 10 => .int
  | 11 => .int
  | _ => .int
abbrev wsX10 : List Cond := u_ws RX1 TX1 13
theorem nmX1 : ∀ a, a < 13 → ∀ b, b < 13 → a ≠ b → (TX1 a).2.1 ≠ (TX1 b).2.1 := by decide +kernel
theorem tyX1_ok : ∀ k, k < 13 → parseFieldDescriptor (TX1 k).2.2.1 = some (tyX1 k) := by decide +kernel
abbrev cX1_init : ByteArray := prog_3_method_1_code
def yX1_init : MethodName := ⟨RX1, "<init>", "(I)V"⟩
abbrev cX1_become : ByteArray := prog_3_method_2_code
def yX1_become : MethodName := ⟨RX1, "become", "(LWoodStack$Pile;)V"⟩
abbrev cX1_isFallen : ByteArray := prog_3_method_3_code
def yX1_isFallen : MethodName := ⟨RX1, "isFallen", "()Z"⟩
abbrev cX1_holds : ByteArray := prog_3_method_4_code
def yX1_holds : MethodName := ⟨RX1, "holds", "(II)Z"⟩
abbrev cX1_clear : ByteArray := prog_3_method_5_code
def yX1_clear : MethodName := ⟨RX1, "clear", "()V"⟩
abbrev cX1_add : ByteArray := prog_3_method_6_code
def yX1_add : MethodName := ⟨RX1, "add", "(IIII)I"⟩
abbrev cX1_remove : ByteArray := prog_3_method_7_code
def yX1_remove : MethodName := ⟨RX1, "remove", "(II)V"⟩
abbrev cX1_bringDown : ByteArray := prog_3_method_8_code
def yX1_bringDown : MethodName := ⟨RX1, "bringDown", "(I)V"⟩
abbrev cX1_turnBark : ByteArray := prog_3_method_9_code
def yX1_turnBark : MethodName := ⟨RX1, "turnBark", "(I)V"⟩
abbrev cX1_splits : ByteArray := prog_3_method_10_code
def yX1_splits : MethodName := ⟨RX1, "splits", "()I"⟩
abbrev cX1_drySplits : ByteArray := prog_3_method_11_code
def yX1_drySplits : MethodName := ⟨RX1, "drySplits", "()I"⟩
abbrev cX1_tallest : ByteArray := prog_3_method_12_code
def yX1_tallest : MethodName := ⟨RX1, "tallest", "()I"⟩
abbrev cX1_isTop : ByteArray := prog_3_method_13_code
def yX1_isTop : MethodName := ⟨RX1, "isTop", "(II)Z"⟩
abbrev cX1_besideOf : ByteArray := prog_3_method_14_code
def yX1_besideOf : MethodName := ⟨RX1, "besideOf", "(II)I"⟩
abbrev cX1_isSunny : ByteArray := prog_3_method_15_code
def yX1_isSunny : MethodName := ⟨RX1, "isSunny", "(I)Z"⟩
def RX2 : String := "WoodStack$Reader"
def TX2 : u_T := fun k => match k with
  | 0 => ("WoodStack$Reader", "tokens", "LWoodStack$Tokens;", true)
  | 1 => ("WoodStack$Reader", "text", "LWoodStack$Text;", false)
  | 2 => ("WoodStack$Reader", "at", "I", false)
  | 3 => ("WoodStack$Reader", "clauseWord", "I", false)
  | 4 => ("WoodStack$Reader", "fault", "I", false)
  | _ => ("WoodStack$Reader", "place", "I", false)
def tyX2 : Nat → FieldType := fun k => match k with
  | 0 => .object "WoodStack$Tokens"
  | 1 => .object "WoodStack$Text"
  | 2 => .int
  | 3 => .int
  | 4 => .int
  | _ => .int
abbrev wsX20 : List Cond := u_ws RX2 TX2 6
theorem nmX2 : ∀ a, a < 6 → ∀ b, b < 6 → a ≠ b → (TX2 a).2.1 ≠ (TX2 b).2.1 := by decide +kernel
theorem tyX2_ok : ∀ k, k < 6 → parseFieldDescriptor (TX2 k).2.2.1 = some (tyX2 k) := by decide +kernel
abbrev cX2_init : ByteArray := prog_4_method_1_code
def yX2_init : MethodName := ⟨RX2, "<init>", "()V"⟩
abbrev cX2_readAll : ByteArray := prog_4_method_2_code
def yX2_readAll : MethodName := ⟨RX2, "readAll", "([IILWoodStack$Text;)V"⟩
abbrev cX2_token : ByteArray := prog_4_method_3_code
def yX2_token : MethodName := ⟨RX2, "token", "()I"⟩
abbrev cX2_number : ByteArray := prog_4_method_4_code
def yX2_number : MethodName := ⟨RX2, "number", "()I"⟩
abbrev cX2_step : ByteArray := prog_4_method_5_code
def yX2_step : MethodName := ⟨RX2, "step", "()V"⟩
abbrev cX2_fail : ByteArray := prog_4_method_6_code
def yX2_fail : MethodName := ⟨RX2, "fail", "(I)V"⟩
abbrev cX2_expect : ByteArray := prog_4_method_7_code
def yX2_expect : MethodName := ⟨RX2, "expect", "(I)V"⟩
abbrev cX2_emit : ByteArray := prog_4_method_8_code
def yX2_emit : MethodName := ⟨RX2, "emit", "(I)V"⟩
abbrev cX2_readClause : ByteArray := prog_4_method_9_code
def yX2_readClause : MethodName := ⟨RX2, "readClause", "(I)V"⟩
abbrev cX2_readLay : ByteArray := prog_4_method_10_code
def yX2_readLay : MethodName := ⟨RX2, "readLay", "()V"⟩
abbrev cX2_readTold : ByteArray := prog_4_method_11_code
def yX2_readTold : MethodName := ⟨RX2, "readTold", "(II)V"⟩
abbrev cX2_readPart : ByteArray := prog_4_method_12_code
def yX2_readPart : MethodName := ⟨RX2, "readPart", "(II)V"⟩
abbrev cX2_levelOf : ByteArray := prog_4_method_13_code
def yX2_levelOf : MethodName := ⟨RX2, "levelOf", "(I)I"⟩
abbrev cX2_readAsk : ByteArray := prog_4_method_14_code
def yX2_readAsk : MethodName := ⟨RX2, "readAsk", "(I)V"⟩
abbrev cX2_opens : ByteArray := prog_4_method_15_code
def yX2_opens : MethodName := ⟨RX2, "opens", "(I)Z"⟩
abbrev cX2_readOne : ByteArray := prog_4_method_16_code
def yX2_readOne : MethodName := ⟨RX2, "readOne", "(I)V"⟩
abbrev cX2_readName : ByteArray := prog_4_method_17_code
def yX2_readName : MethodName := ⟨RX2, "readName", "(I)V"⟩
abbrev cX2_isNameOfClause : ByteArray := prog_4_method_18_code
def yX2_isNameOfClause : MethodName := ⟨RX2, "isNameOfClause", "(I)Z"⟩
abbrev cX2_readPair : ByteArray := prog_4_method_19_code
def yX2_readPair : MethodName := ⟨RX2, "readPair", "(II)V"⟩
def RX3 : String := "WoodStack$Search"
def TX3 : u_T := fun k => match k with
  | 0 => ("WoodStack$Search", "piles", "[LWoodStack$Pile;", true)
  | 1 => ("WoodStack$Search", "columns", "[I", true)
  | 2 => ("WoodStack$Search", "best", "[I", true)
  | 3 => ("WoodStack$Search", "bestHeat", "I", false)
  | _ => ("WoodStack$Search", "taken", "I", false)
def tyX3 : Nat → FieldType := fun k => match k with
  | 0 => .array (.object "WoodStack$Pile")
  | 1 => .array .int
  | 2 => .array .int
  | 3 => .int
  | _ => .int
abbrev wsX30 : List Cond := u_ws RX3 TX3 5
theorem nmX3 : ∀ a, a < 5 → ∀ b, b < 5 → a ≠ b → (TX3 a).2.1 ≠ (TX3 b).2.1 := by decide +kernel
theorem tyX3_ok : ∀ k, k < 5 → parseFieldDescriptor (TX3 k).2.2.1 = some (tyX3 k) := by decide +kernel
abbrev cX3_init : ByteArray := prog_5_method_1_code
def yX3_init : MethodName := ⟨RX3, "<init>", "(I)V"⟩
abbrev cX3_begin : ByteArray := prog_5_method_2_code
def yX3_begin : MethodName := ⟨RX3, "begin", "(LWoodStack$Pile;)V"⟩
abbrev cX3_tryFrom : ByteArray := prog_5_method_3_code
def yX3_tryFrom : MethodName := ⟨RX3, "tryFrom", "(IIILWoodStack$Yard;LWoodStack$Laws;)V"⟩
abbrev cX3_note : ByteArray := prog_5_method_4_code
def yX3_note : MethodName := ⟨RX3, "note", "(II)V"⟩
def RX4 : String := "WoodStack$Text"
def TX4 : u_T := fun k => match k with
  | 0 => ("WoodStack$Text", "code", "[I", true)
  | 1 => ("WoodStack$Text", "word", "[I", true)
  | 2 => ("WoodStack$Text", "from", "[I", true)
  | 3 => ("WoodStack$Text", "to", "[I", true)
  | 4 => ("WoodStack$Text", "once", "[I", true)
  | 5 => ("WoodStack$Text", "used", "I", false)
  | _ => ("WoodStack$Text", "clauses", "I", false)
def tyX4 : Nat → FieldType := fun k => match k with
  | 0 => .array .int
  | 1 => .array .int
  | 2 => .array .int
  | 3 => .array .int
  | 4 => .array .int
  | 5 => .int
  | _ => .int
abbrev wsX40 : List Cond := u_ws RX4 TX4 7
theorem nmX4 : ∀ a, a < 7 → ∀ b, b < 7 → a ≠ b → (TX4 a).2.1 ≠ (TX4 b).2.1 := by decide +kernel
theorem tyX4_ok : ∀ k, k < 7 → parseFieldDescriptor (TX4 k).2.2.1 = some (tyX4 k) := by decide +kernel
abbrev cX4_init : ByteArray := prog_6_method_1_code
def yX4_init : MethodName := ⟨RX4, "<init>", "()V"⟩
abbrev cX4_clear : ByteArray := prog_6_method_2_code
def yX4_clear : MethodName := ⟨RX4, "clear", "()V"⟩
abbrev cX4_begin : ByteArray := prog_6_method_3_code
def yX4_begin : MethodName := ⟨RX4, "begin", "(I)Z"⟩
abbrev cX4_emit : ByteArray := prog_6_method_4_code
def yX4_emit : MethodName := ⟨RX4, "emit", "(I)V"⟩
abbrev cX4_clauseOf : ByteArray := prog_6_method_5_code
def yX4_clauseOf : MethodName := ⟨RX4, "clauseOf", "(I)I"⟩
abbrev cX4_codeAt : ByteArray := prog_6_method_6_code
def yX4_codeAt : MethodName := ⟨RX4, "codeAt", "(II)I"⟩
abbrev cX4_standsOnce : ByteArray := prog_6_method_7_code
def yX4_standsOnce : MethodName := ⟨RX4, "standsOnce", "(I)Z"⟩
def RX5 : String := "WoodStack$Tokens"
def TX5 : u_T := fun k => match k with
  | 0 => ("WoodStack$Tokens", "token", "[I", true)
  | 1 => ("WoodStack$Tokens", "value", "[I", true)
  | 2 => ("WoodStack$Tokens", "place", "[I", true)
  | _ => ("WoodStack$Tokens", "count", "I", false)
def tyX5 : Nat → FieldType := fun k => match k with
  | 0 => .array .int
  | 1 => .array .int
  | 2 => .array .int
  | _ => .int
abbrev wsX50 : List Cond := u_ws RX5 TX5 4
theorem nmX5 : ∀ a, a < 4 → ∀ b, b < 4 → a ≠ b → (TX5 a).2.1 ≠ (TX5 b).2.1 := by decide +kernel
theorem tyX5_ok : ∀ k, k < 4 → parseFieldDescriptor (TX5 k).2.2.1 = some (tyX5 k) := by decide +kernel
abbrev cX5_init : ByteArray := prog_7_method_1_code
def yX5_init : MethodName := ⟨RX5, "<init>", "()V"⟩
abbrev cX5_cut : ByteArray := prog_7_method_2_code
def yX5_cut : MethodName := ⟨RX5, "cut", "([II)V"⟩
abbrev cX5_add : ByteArray := prog_7_method_3_code
def yX5_add : MethodName := ⟨RX5, "add", "(III)V"⟩
abbrev cX5_cutWord : ByteArray := prog_7_method_4_code
def yX5_cutWord : MethodName := ⟨RX5, "cutWord", "([III)I"⟩
abbrev cX5_wordOf : ByteArray := prog_7_method_5_code
def yX5_wordOf : MethodName := ⟨RX5, "wordOf", "([III)I"⟩
abbrev cX5_cutNumber : ByteArray := prog_7_method_6_code
def yX5_cutNumber : MethodName := ⟨RX5, "cutNumber", "([III)I"⟩
abbrev cX5_cutSign : ByteArray := prog_7_method_7_code
def yX5_cutSign : MethodName := ⟨RX5, "cutSign", "([III)I"⟩
abbrev cX5_signOf : ByteArray := prog_7_method_8_code
def yX5_signOf : MethodName := ⟨RX5, "signOf", "(I)I"⟩
abbrev cX5_isLetter : ByteArray := prog_7_method_9_code
def yX5_isLetter : MethodName := ⟨RX5, "isLetter", "(I)Z"⟩
abbrev cX5_isDigit : ByteArray := prog_7_method_10_code
def yX5_isDigit : MethodName := ⟨RX5, "isDigit", "(I)Z"⟩
def RX6 : String := "WoodStack$Yard"
def TX6 : u_T := fun k => match k with
  | 0 => ("WoodStack$Yard", "pile", "LWoodStack$Pile;", true)
  | 1 => ("WoodStack$Yard", "wind", "[I", true)
  | 2 => ("WoodStack$Yard", "sun", "[I", true)
  | 3 => ("WoodStack$Yard", "rain", "[I", true)
  | 4 => ("WoodStack$Yard", "air", "[I", true)
  | 5 => ("WoodStack$Yard", "weathers", "I", false)
  | 6 => ("WoodStack$Yard", "plan", "[I", true)
  | 7 => ("WoodStack$Yard", "spanLow", "[I", true)
  | 8 => ("WoodStack$Yard", "spanHigh", "[I", true)
  | 9 => ("WoodStack$Yard", "face", "[I", true)
  | 10 => ("WoodStack$Yard", "faced", "Z", false)
  | 11 => ("WoodStack$Yard", "texts", "I", false)
  | _ => ("WoodStack$Yard", "ruling", "I", false)
def tyX6 : Nat → FieldType := fun k => match k with
  | 0 => .object "WoodStack$Pile"
  | 1 => .array .int
  | 2 => .array .int
  | 3 => .array .int
  | 4 => .array .int
  | 5 => .int
  | 6 => .array .int
  | 7 => .array .int
  | 8 => .array .int
  | 9 => .array .int
  | 10 => .boolean
  | 11 => .int
  | _ => .int
abbrev wsX60 : List Cond := u_ws RX6 TX6 13
theorem nmX6 : ∀ a, a < 13 → ∀ b, b < 13 → a ≠ b → (TX6 a).2.1 ≠ (TX6 b).2.1 := by decide +kernel
theorem tyX6_ok : ∀ k, k < 13 → parseFieldDescriptor (TX6 k).2.2.1 = some (tyX6 k) := by decide +kernel
abbrev cX6_init : ByteArray := prog_8_method_1_code
def yX6_init : MethodName := ⟨RX6, "<init>", "(I)V"⟩
abbrev cX6_become : ByteArray := prog_8_method_2_code
def yX6_become : MethodName := ⟨RX6, "become", "(LWoodStack$Yard;)V"⟩
def RX7 : String := "WoodStack"
def TX7 : u_T := fun k => match k with
  | 0 => ("WoodStack", "yard", "LWoodStack$Yard;", true)
  | 1 => ("WoodStack", "kept", "LWoodStack$Yard;", true)
  | 2 => ("WoodStack", "texts", "[LWoodStack$Text;", true)
  | 3 => ("WoodStack", "noText", "LWoodStack$Text;", true)
  | 4 => ("WoodStack", "laws", "LWoodStack$Laws;", true)
  | 5 => ("WoodStack", "reader", "LWoodStack$Reader;", true)
  | 6 => ("WoodStack", "tape", "[I", true)
  | 7 => ("WoodStack", "fed", "I", false)
  | 8 => ("WoodStack", "read", "Z", false)
  | 9 => ("WoodStack", "tried", "LWoodStack$Pile;", true)
  | 10 => ("WoodStack", "triedHigh", "LWoodStack$Pile;", true)
  | 11 => ("WoodStack", "search", "LWoodStack$Search;", true)
  | 12 => ("WoodStack", "heats", "[I", true)
  | 13 => ("WoodStack", "wayDry", "[I", true)
  | _ => ("WoodStack", "wayStood", "[I", true)
def tyX7 : Nat → FieldType := fun k => match k with
  | 0 => .object "WoodStack$Yard"
  | 1 => .object "WoodStack$Yard"
  | 2 => .array (.object "WoodStack$Text")
  | 3 => .object "WoodStack$Text"
  | 4 => .object "WoodStack$Laws"
  | 5 => .object "WoodStack$Reader"
  | 6 => .array .int
  | 7 => .int
  | 8 => .boolean
  | 9 => .object "WoodStack$Pile"
  | 10 => .object "WoodStack$Pile"
  | 11 => .object "WoodStack$Search"
  | 12 => .array .int
  | 13 => .array .int
  | _ => .array .int
abbrev wsX70 : List Cond := u_ws RX7 TX7 15
theorem nmX7 : ∀ a, a < 15 → ∀ b, b < 15 → a ≠ b → (TX7 a).2.1 ≠ (TX7 b).2.1 := by decide +kernel
theorem tyX7_ok : ∀ k, k < 15 → parseFieldDescriptor (TX7 k).2.2.1 = some (tyX7 k) := by decide +kernel
abbrev cX7_init : ByteArray := prog_1_method_1_code
def yX7_init : MethodName := ⟨RX7, "<init>", "(I)V"⟩
abbrev cX7_lay : ByteArray := prog_1_method_2_code
def yX7_lay : MethodName := ⟨RX7, "lay", "(IIII)I"⟩
abbrev cX7_bark : ByteArray := prog_1_method_3_code
def yX7_bark : MethodName := ⟨RX7, "bark", "(IIZ)Z"⟩
abbrev cX7_measure : ByteArray := prog_1_method_4_code
def yX7_measure : MethodName := ⟨RX7, "measure", "(IIII)Z"⟩
abbrev cX7_span : ByteArray := prog_1_method_5_code
def yX7_span : MethodName := ⟨RX7, "span", "(III)Z"⟩
abbrev cX7_weather : ByteArray := prog_1_method_6_code
def yX7_weather : MethodName := ⟨RX7, "weather", "(IIII)I"⟩
abbrev cX7_plan : ByteArray := prog_1_method_7_code
def yX7_plan : MethodName := ⟨RX7, "plan", "(II)Z"⟩
abbrev cX7_ends : ByteArray := prog_1_method_8_code
def yX7_ends : MethodName := ⟨RX7, "ends", "(IZI)Z"⟩
abbrev cX7_feed : ByteArray := prog_1_method_9_code
def yX7_feed : MethodName := ⟨RX7, "feed", "(IIIII)I"⟩
abbrev cX7_feedFour : ByteArray := prog_1_method_10_code
def yX7_feedFour : MethodName := ⟨RX7, "feedFour", "(I)V"⟩
abbrev cX7_end : ByteArray := prog_1_method_11_code
def yX7_end : MethodName := ⟨RX7, "end", "(I)I"⟩
abbrev cX7_text : ByteArray := prog_1_method_12_code
def yX7_text : MethodName := ⟨RX7, "text", "()I"⟩
abbrev cX7_fault : ByteArray := prog_1_method_13_code
def yX7_fault : MethodName := ⟨RX7, "fault", "(I)I"⟩
abbrev cX7_by : ByteArray := prog_1_method_14_code
def yX7_by : MethodName := ⟨RX7, "by", "(I)Z"⟩
abbrev cX7_obey : ByteArray := prog_1_method_15_code
def yX7_obey : MethodName := ⟨RX7, "obey", "()V"⟩
abbrev cX7_laid : ByteArray := prog_1_method_16_code
def yX7_laid : MethodName := ⟨RX7, "laid", "(I)I"⟩
abbrev cX7_layClause : ByteArray := prog_1_method_17_code
def yX7_layClause : MethodName := ⟨RX7, "layClause", "(LWoodStack$Text;I)Z"⟩
abbrev cX7_of : ByteArray := prog_1_method_18_code
def yX7_of : MethodName := ⟨RX7, "of", "(III)I"⟩
abbrev cX7_stack : ByteArray := prog_1_method_19_code
def yX7_stack : MethodName := ⟨RX7, "stack", "(I)I"⟩
abbrev cX7_week : ByteArray := prog_1_method_20_code
def yX7_week : MethodName := ⟨RX7, "week", "(I)I"⟩
abbrev cX7_take : ByteArray := prog_1_method_21_code
def yX7_take : MethodName := ⟨RX7, "take", "(I)I"⟩
abbrev cX7_takeOne : ByteArray := prog_1_method_22_code
def yX7_takeOne : MethodName := ⟨RX7, "takeOne", "()I"⟩
abbrev cX7_order : ByteArray := prog_1_method_23_code
def yX7_order : MethodName := ⟨RX7, "order", "(II)I"⟩
abbrev cX7_way : ByteArray := prog_1_method_24_code
def yX7_way : MethodName := ⟨RX7, "way", "(III)I"⟩
abbrev cX7_tryWay : ByteArray := prog_1_method_25_code
def yX7_tryWay : MethodName := ⟨RX7, "tryWay", "(II)V"⟩
abbrev cX7_bestOf : ByteArray := prog_1_method_26_code
def yX7_bestOf : MethodName := ⟨RX7, "bestOf", "([I)I"⟩
abbrev cX7_bestInBoth : ByteArray := prog_1_method_27_code
def yX7_bestInBoth : MethodName := ⟨RX7, "bestInBoth", "(II)I"⟩
abbrev cX7_spans : ByteArray := prog_1_method_28_code
def yX7_spans : MethodName := ⟨RX7, "spans", "(IIII)I"⟩
abbrev cX7_sure : ByteArray := prog_1_method_29_code
def yX7_sure : MethodName := ⟨RX7, "sure", "(II)I"⟩
abbrev cX7_trySpans : ByteArray := prog_1_method_30_code
def yX7_trySpans : MethodName := ⟨RX7, "trySpans", "(I)V"⟩
abbrev cX7_lesser : ByteArray := prog_1_method_31_code
def yX7_lesser : MethodName := ⟨RX7, "lesser", "(I)I"⟩
abbrev cX7_greater : ByteArray := prog_1_method_32_code
def yX7_greater : MethodName := ⟨RX7, "greater", "(I)I"⟩
abbrev cX7_nextToMeasure : ByteArray := prog_1_method_33_code
def yX7_nextToMeasure : MethodName := ⟨RX7, "nextToMeasure", "()I"⟩
abbrev cX7_small : ByteArray := prog_1_method_34_code
def yX7_small : MethodName := ⟨RX7, "small", "(III)I"⟩
abbrev cX7_winter : ByteArray := prog_1_method_35_code
def yX7_winter : MethodName := ⟨RX7, "winter", "(I)I"⟩
abbrev cX7_listHeats : ByteArray := prog_1_method_36_code
def yX7_listHeats : MethodName := ⟨RX7, "listHeats", "()I"⟩
abbrev cX7_pullGreatest : ByteArray := prog_1_method_37_code
def yX7_pullGreatest : MethodName := ⟨RX7, "pullGreatest", "(I)I"⟩
abbrev cX7_remember : ByteArray := prog_1_method_38_code
def yX7_remember : MethodName := ⟨RX7, "remember", "()I"⟩
abbrev cX7_missing : ByteArray := prog_1_method_39_code
def yX7_missing : MethodName := ⟨RX7, "missing", "(II)I"⟩
abbrev cX7_missingOf : ByteArray := prog_1_method_40_code
def yX7_missingOf : MethodName := ⟨RX7, "missingOf", "(I)I"⟩
abbrev cX7_falls : ByteArray := prog_1_method_41_code
def yX7_falls : MethodName := ⟨RX7, "falls", "(III)I"⟩
abbrev cX7_fallsBy : ByteArray := prog_1_method_42_code
def yX7_fallsBy : MethodName := ⟨RX7, "fallsBy", "(II)Z"⟩
abbrev cX7_image : ByteArray := prog_1_method_43_code
def yX7_image : MethodName := ⟨RX7, "image", "()I"⟩
abbrev cX7_back : ByteArray := prog_1_method_44_code
def yX7_back : MethodName := ⟨RX7, "back", "()I"⟩
abbrev cX7_about : ByteArray := prog_1_method_45_code
def yX7_about : MethodName := ⟨RX7, "about", "(I)I"⟩
abbrev cX7_canTry : ByteArray := prog_1_method_46_code
def yX7_canTry : MethodName := ⟨RX7, "canTry", "(I)Z"⟩
abbrev cX7_canPass : ByteArray := prog_1_method_47_code
def yX7_canPass : MethodName := ⟨RX7, "canPass", "(I)Z"⟩
abbrev cX7_isWeather : ByteArray := prog_1_method_48_code
def yX7_isWeather : MethodName := ⟨RX7, "isWeather", "(I)Z"⟩
abbrev cX7_isText : ByteArray := prog_1_method_49_code
def yX7_isText : MethodName := ⟨RX7, "isText", "(I)Z"⟩
abbrev cX7_isKind : ByteArray := prog_1_method_50_code
def yX7_isKind : MethodName := ⟨RX7, "isKind", "(I)Z"⟩
abbrev cX7_isWater : ByteArray := prog_1_method_51_code
def yX7_isWater : MethodName := ⟨RX7, "isWater", "(I)Z"⟩
abbrev cX7_isSpan : ByteArray := prog_1_method_52_code
def yX7_isSpan : MethodName := ⟨RX7, "isSpan", "(II)Z"⟩
abbrev cX7_isDry : ByteArray := prog_1_method_53_code
def yX7_isDry : MethodName := ⟨RX7, "isDry", "(I)Z"⟩
abbrev cX7_within : ByteArray := prog_1_method_54_code
def yX7_within : MethodName := ⟨RX7, "within", "(III)Z"⟩
abbrev cX7_placeOf : ByteArray := prog_1_method_55_code
def yX7_placeOf : MethodName := ⟨RX7, "placeOf", "(II)I"⟩
def RX8 : String := "WoodStackModel"
def TX8 : u_T := fun k => match k with
  | 0 => ("WoodStackModel", "a", "[I", true)
  | 1 => ("WoodStackModel", "w", "I", true)
  | 2 => ("WoodStackModel", "b", "I", false)
  | 3 => ("WoodStackModel", "texts", "[I", true)
  | 4 => ("WoodStackModel", "tape", "[I", true)
  | 5 => ("WoodStackModel", "taped", "I", false)
  | 6 => ("WoodStackModel", "fault", "I", false)
  | 7 => ("WoodStackModel", "faultPlace", "I", false)
  | 8 => ("WoodStackModel", "at", "I", false)
  | 9 => ("WoodStackModel", "place", "I", false)
  | 10 => ("WoodStackModel", "token", "I", false)
  | 11 => ("WoodStackModel", "number", "I", false)
  | 12 => ("WoodStackModel", "word", "J", false)
  | 13 => ("WoodStackModel", "text0", "I", false)
  | 14 => ("WoodStackModel", "clauses", "I", false)
  | 15 => ("WoodStackModel", "written", "I", false)
  | 16 => ("WoodStackModel", "came", "I", false)
  | 17 => ("WoodStackModel", "pile", "[I", true)
  | 18 => ("WoodStackModel", "piled", "I", false)
  | 19 => ("WoodStackModel", "opens", "I", false)
  | 20 => ("WoodStackModel", "isWhole", "Z", false)
  | 21 => ("WoodStackModel", "sort0", "I", false)
  | 22 => ("WoodStackModel", "once", "I", false)
  | 23 => ("WoodStackModel", "named", "[I", true)
  | 24 => ("WoodStackModel", "values", "[J", true)
  | 25 => ("WoodStackModel", "truth", "[Z", true)
  | 26 => ("WoodStackModel", "waters", "[I", true)
  | 27 => ("WoodStackModel", "isLone", "Z", false)
  | 28 => ("WoodStackModel", "chosen", "[I", true)
  | 29 => ("WoodStackModel", "heats", "[I", true)
  | 30 => ("WoodStackModel", "best", "[I", true)
  | 31 => ("WoodStackModel", "bestHeat", "I", false)
  | 32 => ("WoodStackModel", "dries", "[I", true)
  | 33 => ("WoodStackModel", "stands", "[I", true)
  | 34 => ("WoodStackModel", "lows", "[I", true)
  | 35 => ("WoodStackModel", "highs", "[I", true)
  | _ => ("WoodStackModel", "used", "[Z", true)
def tyX8 : Nat → FieldType := fun k => match k with
  | 0 => .array .int
  | 1 => .int
  | 2 => .int
  | 3 => .array .int
  | 4 => .array .int
  | 5 => .int
  | 6 => .int
  | 7 => .int
  | 8 => .int
  | 9 => .int
  | 10 => .int
  | 11 => .int
  | 12 => .long
  | 13 => .int
  | 14 => .int
  | 15 => .int
  | 16 => .int
  | 17 => .array .int
  | 18 => .int
  | 19 => .int
  | 20 => .boolean
  | 21 => .int
  | 22 => .int
  | 23 => .array .int
  | 24 => .array .long
  | 25 => .array .boolean
  | 26 => .array .int
  | 27 => .boolean
  | 28 => .array .int
  | 29 => .array .int
  | 30 => .array .int
  | 31 => .int
  | 32 => .array .int
  | 33 => .array .int
  | 34 => .array .int
  | 35 => .array .int
  | _ => .array .boolean
abbrev wsX80 : List Cond := u_ws RX8 TX8 37
theorem nmX8 : ∀ a, a < 37 → ∀ b, b < 37 → a ≠ b → (TX8 a).2.1 ≠ (TX8 b).2.1 := by decide +kernel
theorem tyX8_ok : ∀ k, k < 37 → parseFieldDescriptor (TX8 k).2.2.1 = some (tyX8 k) := by decide +kernel
abbrev cX8_init : ByteArray := prog_10_method_1_code
def yX8_init : MethodName := ⟨RX8, "<init>", "(I)V"⟩
abbrev cX8_copy : ByteArray := prog_10_method_2_code
def yX8_copy : MethodName := ⟨RX8, "copy", "(II)V"⟩
abbrev cX8_isIn : ByteArray := prog_10_method_3_code
def yX8_isIn : MethodName := ⟨RX8, "isIn", "(III)Z"⟩
abbrev cX8_held : ByteArray := prog_10_method_4_code
def yX8_held : MethodName := ⟨RX8, "held", "(JII)I"⟩
abbrev cX8_count : ByteArray := prog_10_method_5_code
def yX8_count : MethodName := ⟨RX8, "count", "(I)I"⟩
abbrev cX8_at0 : ByteArray := prog_10_method_6_code
def yX8_at0 : MethodName := ⟨RX8, "at0", "(II)I"⟩
abbrev cX8_isColumn : ByteArray := prog_10_method_7_code
def yX8_isColumn : MethodName := ⟨RX8, "isColumn", "(I)Z"⟩
abbrev cX8_isSplit : ByteArray := prog_10_method_8_code
def yX8_isSplit : MethodName := ⟨RX8, "isSplit", "(II)Z"⟩
abbrev cX8_splits : ByteArray := prog_10_method_9_code
def yX8_splits : MethodName := ⟨RX8, "splits", "()I"⟩
abbrev cX8_lay : ByteArray := prog_10_method_10_code
def yX8_lay : MethodName := ⟨RX8, "lay", "(IIII)I"⟩
abbrev cX8_put : ByteArray := prog_10_method_11_code
def yX8_put : MethodName := ⟨RX8, "put", "(IIII)V"⟩
abbrev cX8_bark : ByteArray := prog_10_method_12_code
def yX8_bark : MethodName := ⟨RX8, "bark", "(IIZ)Z"⟩
abbrev cX8_isSpan : ByteArray := prog_10_method_13_code
def yX8_isSpan : MethodName := ⟨RX8, "isSpan", "(II)Z"⟩
abbrev cX8_measure : ByteArray := prog_10_method_14_code
def yX8_measure : MethodName := ⟨RX8, "measure", "(IIII)Z"⟩
abbrev cX8_span : ByteArray := prog_10_method_15_code
def yX8_span : MethodName := ⟨RX8, "span", "(III)Z"⟩
abbrev cX8_weather : ByteArray := prog_10_method_16_code
def yX8_weather : MethodName := ⟨RX8, "weather", "(IIII)I"⟩
abbrev cX8_isWeather : ByteArray := prog_10_method_17_code
def yX8_isWeather : MethodName := ⟨RX8, "isWeather", "(I)Z"⟩
abbrev cX8_plan : ByteArray := prog_10_method_18_code
def yX8_plan : MethodName := ⟨RX8, "plan", "(II)Z"⟩
abbrev cX8_ends : ByteArray := prog_10_method_19_code
def yX8_ends : MethodName := ⟨RX8, "ends", "(IZI)Z"⟩
abbrev cX8_four : ByteArray := prog_10_method_20_code
def yX8_four : MethodName := ⟨RX8, "four", "(I)V"⟩
abbrev cX8_feed : ByteArray := prog_10_method_21_code
def yX8_feed : MethodName := ⟨RX8, "feed", "(IIIII)I"⟩
abbrev cX8_end : ByteArray := prog_10_method_22_code
def yX8_end : MethodName := ⟨RX8, "end", "(I)I"⟩
abbrev cX8_byteAt : ByteArray := prog_10_method_23_code
def yX8_byteAt : MethodName := ⟨RX8, "byteAt", "(I)I"⟩
abbrev cX8_isLetter : ByteArray := prog_10_method_24_code
def yX8_isLetter : MethodName := ⟨RX8, "isLetter", "(I)Z"⟩
abbrev cX8_isDigit : ByteArray := prog_10_method_25_code
def yX8_isDigit : MethodName := ⟨RX8, "isDigit", "(I)Z"⟩
abbrev cX8_nextToken : ByteArray := prog_10_method_26_code
def yX8_nextToken : MethodName := ⟨RX8, "nextToken", "()V"⟩
abbrev cX8_w3 : ByteArray := prog_10_method_27_code
def yX8_w3 : MethodName := ⟨RX8, "w3", "(III)J"⟩
abbrev cX8_w5 : ByteArray := prog_10_method_28_code
def yX8_w5 : MethodName := ⟨RX8, "w5", "(IIIII)J"⟩
abbrev cX8_w4 : ByteArray := prog_10_method_29_code
def yX8_w4 : MethodName := ⟨RX8, "w4", "(IIII)J"⟩
abbrev cX8_w6 : ByteArray := prog_10_method_30_code
def yX8_w6 : MethodName := ⟨RX8, "w6", "(IIIIII)J"⟩
abbrev cX8_isWord : ByteArray := prog_10_method_31_code
def yX8_isWord : MethodName := ⟨RX8, "isWord", "(J)Z"⟩
abbrev cX8_emit : ByteArray := prog_10_method_32_code
def yX8_emit : MethodName := ⟨RX8, "emit", "(II)V"⟩
abbrev cX8_push : ByteArray := prog_10_method_33_code
def yX8_push : MethodName := ⟨RX8, "push", "(I)V"⟩
abbrev cX8_rank : ByteArray := prog_10_method_34_code
def yX8_rank : MethodName := ⟨RX8, "rank", "(I)I"⟩
abbrev cX8_settle : ByteArray := prog_10_method_35_code
def yX8_settle : MethodName := ⟨RX8, "settle", "(I)V"⟩
abbrev cX8_whole : ByteArray := prog_10_method_36_code
def yX8_whole : MethodName := ⟨RX8, "whole", "()V"⟩
abbrev cX8_marker : ByteArray := prog_10_method_37_code
def yX8_marker : MethodName := ⟨RX8, "marker", "()I"⟩
abbrev cX8_isCompared : ByteArray := prog_10_method_38_code
def yX8_isCompared : MethodName := ⟨RX8, "isCompared", "()Z"⟩
abbrev cX8_isAskAhead : ByteArray := prog_10_method_39_code
def yX8_isAskAhead : MethodName := ⟨RX8, "isAskAhead", "(Z)Z"⟩
abbrev cX8_opensBy : ByteArray := prog_10_method_40_code
def yX8_opensBy : MethodName := ⟨RX8, "opensBy", "(I)I"⟩
abbrev cX8_beginOne : ByteArray := prog_10_method_41_code
def yX8_beginOne : MethodName := ⟨RX8, "beginOne", "(Z)I"⟩
abbrev cX8_compareOf : ByteArray := prog_10_method_42_code
def yX8_compareOf : MethodName := ⟨RX8, "compareOf", "()I"⟩
abbrev cX8_betweenOf : ByteArray := prog_10_method_43_code
def yX8_betweenOf : MethodName := ⟨RX8, "betweenOf", "(Z)I"⟩
abbrev cX8_behindOne : ByteArray := prog_10_method_44_code
def yX8_behindOne : MethodName := ⟨RX8, "behindOne", "(Z)Z"⟩
abbrev cX8_parsed : ByteArray := prog_10_method_45_code
def yX8_parsed : MethodName := ⟨RX8, "parsed", "(Z)I"⟩
abbrev cX8_w7 : ByteArray := prog_10_method_46_code
def yX8_w7 : MethodName := ⟨RX8, "w7", "(IIIIIII)J"⟩
abbrev cX8_nameOf : ByteArray := prog_10_method_47_code
def yX8_nameOf : MethodName := ⟨RX8, "nameOf", "()I"⟩
abbrev cX8_farName : ByteArray := prog_10_method_48_code
def yX8_farName : MethodName := ⟨RX8, "farName", "()I"⟩
abbrev cX8_isOf : ByteArray := prog_10_method_49_code
def yX8_isOf : MethodName := ⟨RX8, "isOf", "(I)Z"⟩
abbrev cX8_sortOf : ByteArray := prog_10_method_50_code
def yX8_sortOf : MethodName := ⟨RX8, "sortOf", "()I"⟩
abbrev cX8_figure : ByteArray := prog_10_method_51_code
def yX8_figure : MethodName := ⟨RX8, "figure", "(III)I"⟩
abbrev cX8_expects : ByteArray := prog_10_method_52_code
def yX8_expects : MethodName := ⟨RX8, "expects", "(Z)I"⟩
abbrev cX8_laidBy : ByteArray := prog_10_method_53_code
def yX8_laidBy : MethodName := ⟨RX8, "laidBy", "(I)I"⟩
abbrev cX8_clause : ByteArray := prog_10_method_54_code
def yX8_clause : MethodName := ⟨RX8, "clause", "()I"⟩
abbrev cX8_readText : ByteArray := prog_10_method_55_code
def yX8_readText : MethodName := ⟨RX8, "readText", "()I"⟩
abbrev cX8_text : ByteArray := prog_10_method_56_code
def yX8_text : MethodName := ⟨RX8, "text", "()I"⟩
abbrev cX8_fault : ByteArray := prog_10_method_57_code
def yX8_fault : MethodName := ⟨RX8, "fault", "(I)I"⟩
abbrev cX8_by : ByteArray := prog_10_method_58_code
def yX8_by : MethodName := ⟨RX8, "by", "(I)Z"⟩
abbrev cX8_laid : ByteArray := prog_10_method_59_code
def yX8_laid : MethodName := ⟨RX8, "laid", "(I)I"⟩
abbrev cX8_clip : ByteArray := prog_10_method_60_code
def yX8_clip : MethodName := ⟨RX8, "clip", "(J)J"⟩
abbrev cX8_two : ByteArray := prog_10_method_61_code
def yX8_two : MethodName := ⟨RX8, "two", "(IJJ)J"⟩
abbrev cX8_isAsked : ByteArray := prog_10_method_62_code
def yX8_isAsked : MethodName := ⟨RX8, "isAsked", "(IJJ)Z"⟩
abbrev cX8_work : ByteArray := prog_10_method_63_code
def yX8_work : MethodName := ⟨RX8, "work", "(I)V"⟩
abbrev cX8_clauses : ByteArray := prog_10_method_64_code
def yX8_clauses : MethodName := ⟨RX8, "clauses", "()I"⟩
abbrev cX8_clauseOf : ByteArray := prog_10_method_65_code
def yX8_clauseOf : MethodName := ⟨RX8, "clauseOf", "(I)I"⟩
abbrev cX8_sumOf : ByteArray := prog_10_method_66_code
def yX8_sumOf : MethodName := ⟨RX8, "sumOf", "(IIII)I"⟩
abbrev cX8_besideOf : ByteArray := prog_10_method_67_code
def yX8_besideOf : MethodName := ⟨RX8, "besideOf", "(II)I"⟩
abbrev cX8_name : ByteArray := prog_10_method_68_code
def yX8_name : MethodName := ⟨RX8, "name", "(II)V"⟩
abbrev cX8_thickOf : ByteArray := prog_10_method_69_code
def yX8_thickOf : MethodName := ⟨RX8, "thickOf", "(II)I"⟩
abbrev cX8_heatOf : ByteArray := prog_10_method_70_code
def yX8_heatOf : MethodName := ⟨RX8, "heatOf", "(II)I"⟩
abbrev cX8_isDry : ByteArray := prog_10_method_71_code
def yX8_isDry : MethodName := ⟨RX8, "isDry", "(II)Z"⟩
abbrev cX8_heightOf : ByteArray := prog_10_method_72_code
def yX8_heightOf : MethodName := ⟨RX8, "heightOf", "(I)I"⟩
abbrev cX8_leanOf : ByteArray := prog_10_method_73_code
def yX8_leanOf : MethodName := ⟨RX8, "leanOf", "()I"⟩
abbrev cX8_standOf : ByteArray := prog_10_method_74_code
def yX8_standOf : MethodName := ⟨RX8, "standOf", "()I"⟩
abbrev cX8_dryMany : ByteArray := prog_10_method_75_code
def yX8_dryMany : MethodName := ⟨RX8, "dryMany", "()I"⟩
abbrev cX8_isBeetle : ByteArray := prog_10_method_76_code
def yX8_isBeetle : MethodName := ⟨RX8, "isBeetle", "(II)Z"⟩
abbrev cX8_of : ByteArray := prog_10_method_77_code
def yX8_of : MethodName := ⟨RX8, "of", "(III)I"⟩
abbrev cX8_airIn : ByteArray := prog_10_method_78_code
def yX8_airIn : MethodName := ⟨RX8, "airIn", "()I"⟩
abbrev cX8_beetles : ByteArray := prog_10_method_79_code
def yX8_beetles : MethodName := ⟨RX8, "beetles", "()I"⟩
abbrev cX8_stack : ByteArray := prog_10_method_80_code
def yX8_stack : MethodName := ⟨RX8, "stack", "(I)I"⟩
abbrev cX8_driedOf : ByteArray := prog_10_method_81_code
def yX8_driedOf : MethodName := ⟨RX8, "driedOf", "(III)I"⟩
abbrev cX8_goBy : ByteArray := prog_10_method_82_code
def yX8_goBy : MethodName := ⟨RX8, "goBy", "(I)V"⟩
abbrev cX8_week : ByteArray := prog_10_method_83_code
def yX8_week : MethodName := ⟨RX8, "week", "(I)I"⟩
abbrev cX8_takeOff : ByteArray := prog_10_method_84_code
def yX8_takeOff : MethodName := ⟨RX8, "takeOff", "(II)V"⟩
abbrev cX8_takeOne : ByteArray := prog_10_method_85_code
def yX8_takeOne : MethodName := ⟨RX8, "takeOne", "()I"⟩
abbrev cX8_take : ByteArray := prog_10_method_86_code
def yX8_take : MethodName := ⟨RX8, "take", "(I)I"⟩
abbrev cX8_tries : ByteArray := prog_10_method_87_code
def yX8_tries : MethodName := ⟨RX8, "tries", "(I)V"⟩
abbrev cX8_isTried : ByteArray := prog_10_method_88_code
def yX8_isTried : MethodName := ⟨RX8, "isTried", "(II)Z"⟩
abbrev cX8_keepOrder : ByteArray := prog_10_method_89_code
def yX8_keepOrder : MethodName := ⟨RX8, "keepOrder", "(II)V"⟩
abbrev cX8_choosesNext : ByteArray := prog_10_method_90_code
def yX8_choosesNext : MethodName := ⟨RX8, "choosesNext", "(I)Z"⟩
abbrev cX8_findOrder : ByteArray := prog_10_method_91_code
def yX8_findOrder : MethodName := ⟨RX8, "findOrder", "(I)V"⟩
abbrev cX8_order : ByteArray := prog_10_method_92_code
def yX8_order : MethodName := ⟨RX8, "order", "(II)I"⟩
abbrev cX8_goOn : ByteArray := prog_10_method_93_code
def yX8_goOn : MethodName := ⟨RX8, "goOn", "(I)I"⟩
abbrev cX8_tryWays : ByteArray := prog_10_method_94_code
def yX8_tryWays : MethodName := ⟨RX8, "tryWays", "(I)V"⟩
abbrev cX8_bestOf : ByteArray := prog_10_method_95_code
def yX8_bestOf : MethodName := ⟨RX8, "bestOf", "([I)I"⟩
abbrev cX8_way : ByteArray := prog_10_method_96_code
def yX8_way : MethodName := ⟨RX8, "way", "(III)I"⟩
abbrev cX8_tryEnds : ByteArray := prog_10_method_97_code
def yX8_tryEnds : MethodName := ⟨RX8, "tryEnds", "(II[I)V"⟩
abbrev cX8_lesser : ByteArray := prog_10_method_98_code
def yX8_lesser : MethodName := ⟨RX8, "lesser", "(I)I"⟩
abbrev cX8_greater : ByteArray := prog_10_method_99_code
def yX8_greater : MethodName := ⟨RX8, "greater", "(I)I"⟩
abbrev cX8_spans : ByteArray := prog_10_method_100_code
def yX8_spans : MethodName := ⟨RX8, "spans", "(IIII)I"⟩
abbrev cX8_sure : ByteArray := prog_10_method_101_code
def yX8_sure : MethodName := ⟨RX8, "sure", "(II)I"⟩
abbrev cX8_small : ByteArray := prog_10_method_102_code
def yX8_small : MethodName := ⟨RX8, "small", "(III)I"⟩
abbrev cX8_winter : ByteArray := prog_10_method_103_code
def yX8_winter : MethodName := ⟨RX8, "winter", "(I)I"⟩
abbrev cX8_remember : ByteArray := prog_10_method_104_code
def yX8_remember : MethodName := ⟨RX8, "remember", "()I"⟩
abbrev cX8_missingOf : ByteArray := prog_10_method_105_code
def yX8_missingOf : MethodName := ⟨RX8, "missingOf", "(I)I"⟩
abbrev cX8_missing : ByteArray := prog_10_method_106_code
def yX8_missing : MethodName := ⟨RX8, "missing", "(II)I"⟩
abbrev cX8_falls : ByteArray := prog_10_method_107_code
def yX8_falls : MethodName := ⟨RX8, "falls", "(III)I"⟩
abbrev cX8_image : ByteArray := prog_10_method_108_code
def yX8_image : MethodName := ⟨RX8, "image", "()I"⟩
abbrev cX8_back : ByteArray := prog_10_method_109_code
def yX8_back : MethodName := ⟨RX8, "back", "()I"⟩
abbrev cX8_about : ByteArray := prog_10_method_110_code
def yX8_about : MethodName := ⟨RX8, "about", "(I)I"⟩
def RL : String := "WoodStackLaw"
abbrev cL_cell : ByteArray := method_2_code
def yL_cell : MethodName := ⟨RL, "cell", "([II)I"⟩
abbrev cL_law : ByteArray := code
def yL_law : MethodName := ⟨RL, "law", "([I)Z"⟩
end
section
/-! The abstract machine qm_: values, heap, one step, runs with fuel and depth, the partial function qm_ev and its equations. -/
abbrev qm_AV : Type := Int32 ⊕ Int64 ⊕ (Nat × Nat)
abbrev qm_Hp : Type := (Nat → Nat → Nat → Int32) × (Nat → Nat → Nat → Int64) × (Nat → Nat → Nat → Nat × Nat)
abbrev qm_Ins : Type := Nat × List Nat × Int
abbrev qI (x : Int32) : qm_AV := .inl x
abbrev qL (x : Int64) : qm_AV := .inr (.inl x)
abbrev qP (k i : Nat) : qm_AV := .inr (.inr (k, i))
abbrev qU : qm_AV := .inr (.inr (99, 0))
def zI (s : qm_Hp) (k i j : Nat) : Int32 := s.1 k i j
def zL (s : qm_Hp) (k i j : Nat) : Int64 := s.2.1 k i j
def zP (s : qm_Hp) (k i j : Nat) : Nat × Nat := s.2.2 k i j
def uI (s : qm_Hp) (k i j : Nat) (v : Int32) : qm_Hp := (fun a b c => if a = k ∧ b = i ∧ c = j then v else s.1 a b c, s.2)
def uL (s : qm_Hp) (k i j : Nat) (v : Int64) : qm_Hp := (s.1, fun a b c => if a = k ∧ b = i ∧ c = j then v else s.2.1 a b c, s.2.2)
def uP (s : qm_Hp) (k i j : Nat) (v : Nat × Nat) : qm_Hp := (s.1, s.2.1, fun a b c => if a = k ∧ b = i ∧ c = j then v else s.2.2 a b c)
/-- a copy of n places of int row (k, i) from sp on to row (k', i') from dp on -/
def uC (s : qm_Hp) (k i sp k' i' dp n : Nat) : qm_Hp := (fun a b c => if a = k' ∧ b = i' ∧ dp ≤ c ∧ c < dp + n then s.1 k i (sp + (c - dp)) else s.1 a b c, s.2)
theorem zI_uI (s : qm_Hp) (k i j : Nat) (v : Int32) (a b c : Nat) : zI (uI s k i j v) a b c = if a = k ∧ b = i ∧ c = j then v else zI s a b c := rfl
theorem zI_uL (s : qm_Hp) (k i j : Nat) (v : Int64) (a b c : Nat) : zI (uL s k i j v) a b c = zI s a b c := rfl
theorem zI_uP (s : qm_Hp) (k i j : Nat) (v : Nat × Nat) (a b c : Nat) : zI (uP s k i j v) a b c = zI s a b c := rfl
theorem zI_uC (s : qm_Hp) (k i sp k' i' dp n a b c : Nat) : zI (uC s k i sp k' i' dp n) a b c = if a = k' ∧ b = i' ∧ dp ≤ c ∧ c < dp + n then zI s k i (sp + (c - dp)) else zI s a b c := rfl
theorem zL_uI (s : qm_Hp) (k i j : Nat) (v : Int32) (a b c : Nat) : zL (uI s k i j v) a b c = zL s a b c := rfl
theorem zL_uL (s : qm_Hp) (k i j : Nat) (v : Int64) (a b c : Nat) : zL (uL s k i j v) a b c = if a = k ∧ b = i ∧ c = j then v else zL s a b c := rfl
theorem zL_uP (s : qm_Hp) (k i j : Nat) (v : Nat × Nat) (a b c : Nat) : zL (uP s k i j v) a b c = zL s a b c := rfl
theorem zL_uC (s : qm_Hp) (k i sp k' i' dp n a b c : Nat) : zL (uC s k i sp k' i' dp n) a b c = zL s a b c := rfl
theorem zP_uI (s : qm_Hp) (k i j : Nat) (v : Int32) (a b c : Nat) : zP (uI s k i j v) a b c = zP s a b c := rfl
theorem zP_uL (s : qm_Hp) (k i j : Nat) (v : Int64) (a b c : Nat) : zP (uL s k i j v) a b c = zP s a b c := rfl
theorem zP_uP (s : qm_Hp) (k i j : Nat) (v : Nat × Nat) (a b c : Nat) : zP (uP s k i j v) a b c = if a = k ∧ b = i ∧ c = j then v else zP s a b c := rfl
theorem zP_uC (s : qm_Hp) (k i sp k' i' dp n a b c : Nat) : zP (uC s k i sp k' i' dp n) a b c = zP s a b c := rfl
/-- lengths: of an int row, a long row, a boolean row, a row of references -/
def qm_ilen (s : qm_Hp) (k : Nat) : Nat := match k with
  | 11 => 48 | 12 => 48 | 13 => 48 | 14 => 48 | 15 => 48 | 16 => 48 | 17 => 6
  | 21 => 12 | 22 => 12 | 23 => 12 | 24 => 12 | 25 => 40 | 26 => 4 | 27 => 4 | 28 => 6
  | 31 => 300 | 32 => 20 | 33 => 20 | 34 => 20 | 35 => 5
  | 41 => 17 | 42 => 40 | 43 => 301 | 44 => 301 | 45 => 301 | 47 => 5 | 48 => 5
  | 52 => 300 | 53 => 48 | 54 => 8 | 55 => 8
  | 61 => 3360 | 62 => 2880 | 63 => 300 | 64 => 160 | 65 => 17 | 68 => 48 | 69 => 5 | 70 => 6 | 71 => 5 | 72 => 8 | 73 => 8 | 74 => 48 | 75 => 48
  | 80 => (zI s 82 0 0).toNatClampNeg
  | _ => 0
def qm_llen (k : Nat) : Nat := match k with | 66 => 330 | _ => 0
def qm_blen (k : Nat) : Nat := match k with | 67 => 330 | 76 => 48 | _ => 0
def qm_rlen (k : Nat) : Nat := match k with | 46 => 5 | 51 => 4 | _ => 0
/-- the cells of a row of references: kind, first instance -/
def qm_rel (k : Nat) : Nat × Nat := match k with | 46 => (3, 4) | _ => (4, 0)
/-- the words of the text constant -/
def qm_str : List Nat := "water size kind bark high top beside sunny wind sun rain air week wide tall posts crossed dry thick stand take heat beetle lay min max not and or on ".toList.map Char.toNat
/-- locals -/
def qm_lg : List qm_AV → Nat → qm_AV
  | [], _ => qU
  | v :: _, 0 => v
  | _ :: l, n + 1 => qm_lg l n
def qm_ls : List qm_AV → Nat → qm_AV → List qm_AV
  | [], _, _ => []
  | _ :: l, 0, x => x :: l
  | v :: l, n + 1, x => v :: qm_ls l n x
def qm_isL : qm_AV → Bool
  | .inr (.inl _) => true
  | _ => false
/-- a store of one word at k: a long that began just ahead is gone -/
def qm_s1 (ls : List qm_AV) (k : Nat) (x : qm_AV) : List qm_AV := match k with
  | 0 => qm_ls ls 0 x
  | n + 1 => if qm_isL (qm_lg ls n) = true then qm_ls (qm_ls ls n qU) (n + 1) x else qm_ls ls (n + 1) x
def qm_s2 (ls : List qm_AV) (k : Nat) (x : qm_AV) : List qm_AV := qm_ls (qm_s1 ls k x) (k + 1) qU
def qm_cond (c : Nat) (x y : Int32) : Bool := match c with
  | 0 => decide (x = y)
  | 1 => decide (¬ x = y)
  | 2 => decide (x < y)
  | 3 => decide (y ≤ x)
  | 4 => decide (y < x)
  | _ => decide (x ≤ y)
/-- the block that a switch goes to -/
def qm_sw : List Nat → Int → Int32 → Nat → Nat
  | [], _, _, df => df
  | b :: r, lo, x, df => if x = Int32.ofInt lo then b else qm_sw r (lo + 1) x df
def qm_lk : List Nat → Int32 → Nat → Nat
  | k :: b :: r, x, df => if x = Int32.ofNat k then b else qm_lk r x df
  | _, _, df => df
/-- one instruction: goes on; jumps to a block; calls; returns -/
abbrev qm_Act : Type := (List qm_AV × List qm_AV × qm_Hp) ⊕ (Nat × List qm_AV) ⊕ (Nat × List qm_AV × List qm_AV) ⊕ Option qm_AV
def qa_load (a : List Nat) (t : Nat) (ls st : List qm_AV) (s : qm_Hp) : Option qm_Act := match a with
  | [k] => match t, qm_lg ls k with
    | 0, .inl x => some (.inl (ls, qI x :: st, s))
    | 1, .inr (.inl x) => some (.inl (ls, qL x :: st, s))
    | 2, .inr (.inr (q, i)) => if q = 99 ∨ q = 0 then none else some (.inl (ls, qP q i :: st, s))
    | _, _ => none
  | _ => none
def qa_store (a : List Nat) (t : Nat) (ls st : List qm_AV) (s : qm_Hp) : Option qm_Act := match a with
  | [k] => match t, st with
    | 0, .inl x :: r => if k < ls.length then some (.inl (qm_s1 ls k (qI x), r, s)) else none
    | 1, .inr (.inl x) :: r => if k + 1 < ls.length then some (.inl (qm_s2 ls k (qL x), r, s)) else none
    | 2, .inr (.inr (q, i)) :: r => if q = 0 then none else if k < ls.length then some (.inl (qm_s1 ls k (qP q i), r, s)) else none
    | _, _ => none
  | _ => none
def qa_iinc (a : List Nat) (c : Int) (ls st : List qm_AV) (s : qm_Hp) : Option qm_Act := match a with
  | [k] => match qm_lg ls k with
    | .inl x => if k < ls.length then some (.inl (qm_s1 ls k (qI (x + Int32.ofInt c)), st, s)) else none
    | _ => none
  | _ => none
def qa_bin (f : Int32 → Int32 → Int32) (ls st : List qm_AV) (s : qm_Hp) : Option qm_Act := match st with
  | .inl y :: .inl x :: r => some (.inl (ls, qI (f x y) :: r, s))
  | _ => none
def qa_div (f : Int32 → Int32 → Int32) (ls st : List qm_AV) (s : qm_Hp) : Option qm_Act := match st with
  | .inl y :: .inl x :: r => if y = 0 then none else some (.inl (ls, qI (f x y) :: r, s))
  | _ => none
def qa_neg (ls st : List qm_AV) (s : qm_Hp) : Option qm_Act := match st with
  | .inl x :: r => some (.inl (ls, qI (-x) :: r, s))
  | _ => none
def qa_lbin (f : Int64 → Int64 → Int64) (ls st : List qm_AV) (s : qm_Hp) : Option qm_Act := match st with
  | .inr (.inl y) :: .inr (.inl x) :: r => some (.inl (ls, qL (f x y) :: r, s))
  | _ => none
def qa_ldiv (ls st : List qm_AV) (s : qm_Hp) : Option qm_Act := match st with
  | .inr (.inl y) :: .inr (.inl x) :: r => if y = 0 then none else some (.inl (ls, qL (x / y) :: r, s))
  | _ => none
def qa_lneg (ls st : List qm_AV) (s : qm_Hp) : Option qm_Act := match st with
  | .inr (.inl x) :: r => some (.inl (ls, qL (-x) :: r, s))
  | _ => none
def qa_lshl (ls st : List qm_AV) (s : qm_Hp) : Option qm_Act := match st with
  | .inl y :: .inr (.inl x) :: r => some (.inl (ls, qL (x <<< (y.toInt64 &&& 63)) :: r, s))
  | _ => none

def qa_lcmp (ls st : List qm_AV) (s : qm_Hp) : Option qm_Act := match st with
  | .inr (.inl y) :: .inr (.inl x) :: r => some (.inl (ls, qI (lg_cmp x y) :: r, s))
  | _ => none
def qa_i2l (ls st : List qm_AV) (s : qm_Hp) : Option qm_Act := match st with
  | .inl x :: r => some (.inl (ls, qL x.toInt64 :: r, s))
  | _ => none
def qa_l2i (ls st : List qm_AV) (s : qm_Hp) : Option qm_Act := match st with
  | .inr (.inl x) :: r => some (.inl (ls, qI x.toInt32 :: r, s))
  | _ => none
def qa_dup (ls st : List qm_AV) (s : qm_Hp) : Option qm_Act := match st with
  | v :: r => if qm_isL v = true then none else some (.inl (ls, v :: v :: r, s))
  | _ => none
def qa_dup2 (ls st : List qm_AV) (s : qm_Hp) : Option qm_Act := match st with
  | v :: w :: r => if qm_isL v = true ∨ qm_isL w = true then none else some (.inl (ls, v :: w :: v :: w :: r, s))
  | _ => none
def qa_pop (ls st : List qm_AV) (s : qm_Hp) : Option qm_Act := match st with
  | v :: r => if qm_isL v = true then none else some (.inl (ls, r, s))
  | _ => none
def qa_getI (a : List Nat) (ls st : List qm_AV) (s : qm_Hp) : Option qm_Act := match a, st with
  | [k, f], .inr (.inr (q, i)) :: r => if q = k then some (.inl (ls, qI (zI s q i f) :: r, s)) else none
  | _, _ => none
def qa_getL (a : List Nat) (ls st : List qm_AV) (s : qm_Hp) : Option qm_Act := match a, st with
  | [k, f], .inr (.inr (q, i)) :: r => if q = k then some (.inl (ls, qL (zL s q i f) :: r, s)) else none
  | _, _ => none
def qa_getP (a : List Nat) (ls st : List qm_AV) (s : qm_Hp) : Option qm_Act := match a, st with
  | [k, _, t, mu, ad], .inr (.inr (q, i)) :: r => if q = k then some (.inl (ls, qP t (mu * i + ad) :: r, s)) else none
  | _, _ => none
def qa_getM (a : List Nat) (ls st : List qm_AV) (s : qm_Hp) : Option qm_Act := match a, st with
  | [k, f], .inr (.inr (q, i)) :: r => if q = k then some (.inl (ls, qP (zP s q i f).1 (zP s q i f).2 :: r, s)) else none
  | _, _ => none
def qa_putI (a : List Nat) (ls st : List qm_AV) (s : qm_Hp) : Option qm_Act := match a, st with
  | [k, f], .inl v :: .inr (.inr (q, i)) :: r => if q = k then some (.inl (ls, r, uI s q i f v)) else none
  | _, _ => none
def qa_putZ (a : List Nat) (ls st : List qm_AV) (s : qm_Hp) : Option qm_Act := match a, st with
  | [k, f], .inl v :: .inr (.inr (q, i)) :: r => if q = k ∧ (v = 0 ∨ v = 1) then some (.inl (ls, r, uI s q i f v)) else none
  | _, _ => none
def qa_putL (a : List Nat) (ls st : List qm_AV) (s : qm_Hp) : Option qm_Act := match a, st with
  | [k, f], .inr (.inl v) :: .inr (.inr (q, i)) :: r => if q = k then some (.inl (ls, r, uL s q i f v)) else none
  | _, _ => none
def qa_putM (a : List Nat) (ls st : List qm_AV) (s : qm_Hp) : Option qm_Act := match a, st with
  | [k, f, t], .inr (.inr (q', i')) :: .inr (.inr (q, i)) :: r => if q = k ∧ q' = t then some (.inl (ls, r, uP s q i f (q', i'))) else none
  | _, _ => none
def qa_iald (ls st : List qm_AV) (s : qm_Hp) : Option qm_Act := match st with
  | .inl j :: .inr (.inr (q, i)) :: r => if j < 0 ∨ qm_ilen s q ≤ j.toNatClampNeg then none else some (.inl (ls, qI (zI s q i j.toNatClampNeg) :: r, s))
  | _ => none
def qa_iast (ls st : List qm_AV) (s : qm_Hp) : Option qm_Act := match st with
  | .inl v :: .inl j :: .inr (.inr (q, i)) :: r => if (j < 0 ∨ qm_ilen s q ≤ j.toNatClampNeg) ∨ q = 80 then none else some (.inl (ls, r, uI s q i j.toNatClampNeg v))
  | _ => none
def qa_lald (ls st : List qm_AV) (s : qm_Hp) : Option qm_Act := match st with
  | .inl j :: .inr (.inr (q, i)) :: r => if j < 0 ∨ qm_llen q ≤ j.toNatClampNeg then none else some (.inl (ls, qL (zL s q i j.toNatClampNeg) :: r, s))
  | _ => none
def qa_last (ls st : List qm_AV) (s : qm_Hp) : Option qm_Act := match st with
  | .inr (.inl v) :: .inl j :: .inr (.inr (q, i)) :: r => if j < 0 ∨ qm_llen q ≤ j.toNatClampNeg then none else some (.inl (ls, r, uL s q i j.toNatClampNeg v))
  | _ => none
def qa_bald (ls st : List qm_AV) (s : qm_Hp) : Option qm_Act := match st with
  | .inl j :: .inr (.inr (q, i)) :: r => if j < 0 ∨ qm_blen q ≤ j.toNatClampNeg then none else some (.inl (ls, qI (zI s q i j.toNatClampNeg) :: r, s))
  | _ => none
def qa_bast (ls st : List qm_AV) (s : qm_Hp) : Option qm_Act := match st with
  | .inl v :: .inl j :: .inr (.inr (q, i)) :: r => if (j < 0 ∨ qm_blen q ≤ j.toNatClampNeg) ∨ ¬ (v = 0 ∨ v = 1) then none else some (.inl (ls, r, uI s q i j.toNatClampNeg v))
  | _ => none
def qa_aald (ls st : List qm_AV) (s : qm_Hp) : Option qm_Act := match st with
  | .inl j :: .inr (.inr (q, _)) :: r => if j < 0 ∨ qm_rlen q ≤ j.toNatClampNeg then none else some (.inl (ls, qP (qm_rel q).1 ((qm_rel q).2 + j.toNatClampNeg) :: r, s))
  | _ => none
def qa_alen (ls st : List qm_AV) (s : qm_Hp) : Option qm_Act := match st with
  | .inr (.inr (q, _)) :: r => if q = 35 ∨ q = 42 ∨ q = 54 ∨ q = 55 ∨ q = 80 then some (.inl (ls, qI (Int32.ofNat (qm_ilen s q)) :: r, s)) else none
  | _ => none
def qa_icmp (a : List Nat) (ls st : List qm_AV) (s : qm_Hp) : Option qm_Act := match a, st with
  | [c, b], .inl y :: .inl x :: r => if qm_cond c x y = true then some (.inr (.inl (b, r))) else some (.inl (ls, r, s))
  | _, _ => none
def qa_if (a : List Nat) (ls st : List qm_AV) (s : qm_Hp) : Option qm_Act := match a, st with
  | [c, b], .inl x :: r => if qm_cond c x 0 = true then some (.inr (.inl (b, r))) else some (.inl (ls, r, s))
  | _, _ => none
def qa_null (a : List Nat) (ls st : List qm_AV) (s : qm_Hp) : Option qm_Act := match a, st with
  | [_], .inr (.inr (q, _)) :: r => if q = 0 then none else some (.inl (ls, r, s))
  | _, _ => none
def qa_goto (a : List Nat) (st : List qm_AV) : Option qm_Act := match a with
  | [b] => some (.inr (.inl (b, st)))
  | _ => none
def qa_tsw (a : List Nat) (c : Int) (st : List qm_AV) : Option qm_Act := match a, st with
  | df :: bs, .inl x :: r => some (.inr (.inl (qm_sw bs c x df, r)))
  | _, _ => none
def qa_lsw (a : List Nat) (st : List qm_AV) : Option qm_Act := match a, st with
  | df :: bs, .inl x :: r => some (.inr (.inl (qm_lk bs x df, r)))
  | _, _ => none
def qa_ret (t : Nat) (st : List qm_AV) : Option qm_Act := match t, st with
  | 0, [.inl x] => some (.inr (.inr (.inr (some (qI x)))))
  | 1, [.inr (.inl x)] => some (.inr (.inr (.inr (some (qL x)))))
  | 2, [] => some (.inr (.inr (.inr none)))
  | 3, [.inl x] => if x = 0 ∨ x = 1 then some (.inr (.inr (.inr (some (qI x))))) else none
  | _, _ => none
def qm_wid (st : List qm_AV) : Nat := (st.map fun v => if qm_isL v = true then 2 else 1).sum
/-- the kind of the first argument -/
def qm_rk : List qm_AV → Nat
  | .inr (.inr (q, _)) :: _ => q
  | _ => 0
def qa_call (a : List Nat) (st : List qm_AV) : Option qm_Act := match a with
  | [f, n, k] => if n ≤ st.length ∧ qm_wid (st.drop n) ≤ 8 ∧ (k = 0 ∨ qm_rk (st.take n).reverse = k) then some (.inr (.inr (.inl (f, (st.take n).reverse, st.drop n)))) else none
  | _ => none
def qa_m2 (f : Int32 → Int32 → Int32) (ls st : List qm_AV) (s : qm_Hp) : Option qm_Act := match st with
  | .inl y :: .inl x :: r => if qm_wid r ≤ 8 then some (.inl (ls, qI (f x y) :: r, s)) else none
  | _ => none
def qa_abs (ls st : List qm_AV) (s : qm_Hp) : Option qm_Act := match st with
  | .inl x :: r => if qm_wid r ≤ 8 then some (.inl (ls, qI (if 0 ≤ x then x else 0 - x) :: r, s)) else none
  | _ => none
def qa_lm2 (f : Int64 → Int64 → Int64) (ls st : List qm_AV) (s : qm_Hp) : Option qm_Act := match st with
  | .inr (.inl y) :: .inr (.inl x) :: r => if qm_wid r ≤ 8 then some (.inl (ls, qL (f x y) :: r, s)) else none
  | _ => none
def qa_copy (ls st : List qm_AV) (s : qm_Hp) : Option qm_Act := match st with
  | .inl n :: .inl dp :: .inr (.inr (q', i')) :: .inl sp :: .inr (.inr (q, i)) :: r =>
    if (sp < 0 ∨ dp < 0 ∨ n < 0) ∨ qm_ilen s q < sp.toNatClampNeg + n.toNatClampNeg ∨ qm_ilen s q' < dp.toNatClampNeg + n.toNatClampNeg ∨ q = 80 ∨ q' = 80 ∨ 8 < qm_wid r ∨ qm_ilen s q = 0 ∨ qm_ilen s q' = 0 then none
    else some (.inl (ls, r, uC s q i sp.toNatClampNeg q' i' dp.toNatClampNeg n.toNatClampNeg))
  | _ => none
def qa_slen (ls st : List qm_AV) (s : qm_Hp) : Option qm_Act := match st with
  | .inr (.inr (q, _)) :: r => if q = 81 ∧ qm_wid r ≤ 8 then some (.inl (ls, qI (Int32.ofNat qm_str.length) :: r, s)) else none
  | _ => none
def qa_char (ls st : List qm_AV) (s : qm_Hp) : Option qm_Act := match st with
  | .inl j :: .inr (.inr (q, _)) :: r => if q = 81 ∧ qm_wid r ≤ 8 ∧ ¬ (j < 0 ∨ qm_str.length ≤ j.toNatClampNeg) then some (.inl (ls, qI (Int32.ofNat (qm_str.getD j.toNatClampNeg 0)) :: r, s)) else none
  | _ => none
def qm_act (i : qm_Ins) (ls st : List qm_AV) (s : qm_Hp) : Option qm_Act := match i.1 with
  | 0 => some (.inl (ls, qI (Int32.ofInt i.2.2) :: st, s))
  | 1 => some (.inl (ls, qL (Int64.ofInt i.2.2) :: st, s))
  | 2 => qa_load i.2.1 0 ls st s
  | 3 => qa_load i.2.1 1 ls st s
  | 4 => qa_load i.2.1 2 ls st s
  | 5 => qa_store i.2.1 0 ls st s
  | 6 => qa_store i.2.1 1 ls st s
  | 7 => qa_store i.2.1 2 ls st s
  | 8 => qa_iinc i.2.1 i.2.2 ls st s
  | 10 => qa_bin (fun x y => x + y) ls st s
  | 11 => qa_bin (fun x y => x - y) ls st s
  | 12 => qa_bin (fun x y => x * y) ls st s
  | 13 => qa_div (fun x y => x / y) ls st s
  | 14 => qa_div (fun x y => x - x / y * y) ls st s
  | 15 => qa_neg ls st s
  | 16 => qa_bin (fun x y => x &&& y) ls st s
  | 17 => qa_bin (fun x y => x ||| y) ls st s
  | 18 => qa_bin (fun x y => x <<< (y &&& 31)) ls st s
  | 19 => qa_bin (fun x y => x >>> (y &&& 31)) ls st s
  | 20 => qa_bin (fun x y => (x.toUInt32 >>> (y.toUInt32 &&& Int32.toUInt32 31)).toInt32) ls st s
  | 21 => qa_lbin (fun x y => x + y) ls st s
  | 22 => qa_lbin (fun x y => x - y) ls st s
  | 23 => qa_lbin (fun x y => x * y) ls st s
  | 24 => qa_ldiv ls st s
  | 25 => qa_lneg ls st s
  | 26 => qa_lbin (fun x y => x &&& y) ls st s
  | 27 => qa_lbin (fun x y => x ||| y) ls st s
  | 28 => qa_lshl ls st s
  | 29 => qa_lcmp ls st s
  | 30 => qa_i2l ls st s
  | 31 => qa_l2i ls st s
  | 32 => qa_dup ls st s
  | 33 => qa_dup2 ls st s
  | 34 => qa_pop ls st s
  | 40 => qa_getI i.2.1 ls st s
  | 41 => qa_getL i.2.1 ls st s
  | 42 => qa_getP i.2.1 ls st s
  | 43 => qa_getM i.2.1 ls st s
  | 44 => qa_putI i.2.1 ls st s
  | 45 => qa_putL i.2.1 ls st s
  | 46 => qa_putM i.2.1 ls st s
  | 47 => qa_putZ i.2.1 ls st s
  | 50 => qa_iald ls st s
  | 51 => qa_iast ls st s
  | 52 => qa_lald ls st s
  | 53 => qa_last ls st s
  | 54 => qa_bald ls st s
  | 55 => qa_bast ls st s
  | 56 => qa_aald ls st s
  | 57 => qa_alen ls st s
  | 58 => some (.inl (ls, qP 81 0 :: st, s))
  | 60 => qa_icmp i.2.1 ls st s
  | 61 => qa_if i.2.1 ls st s
  | 62 => qa_null i.2.1 ls st s
  | 63 => qa_goto i.2.1 st
  | 64 => qa_goto i.2.1 st
  | 65 => qa_tsw i.2.1 i.2.2 st
  | 66 => qa_lsw i.2.1 st
  | 70 => qa_ret 0 st
  | 71 => qa_ret 1 st
  | 72 => qa_ret 2 st
  | 73 => qa_ret 3 st
  | 80 => qa_call i.2.1 st
  | 81 => qa_m2 (fun x y => if x < y then y else x) ls st s
  | 82 => qa_m2 (fun x y => if y < x then y else x) ls st s
  | 83 => qa_abs ls st s
  | 84 => qa_lm2 (fun x y => if y < x then x else y) ls st s
  | 85 => qa_lm2 (fun x y => if y < x then y else x) ls st s
  | 86 => qa_copy ls st s
  | 87 => qa_slen ls st s
  | 88 => qa_char ls st s
  | _ => none
/-- a callee's locals -/
def qm_lay : List qm_AV → List qm_AV
  | [] => []
  | .inr (.inl x) :: r => qL x :: qU :: qm_lay r
  | v :: r => v :: qm_lay r
def qm_ent (n : Nat) (as : List qm_AV) : List qm_AV := qm_lay as ++ List.replicate (n - (qm_lay as).length) qU
def qm_push (r : Option qm_AV) (st : List qm_AV) : List qm_AV := match r with
  | none => st
  | some v => v :: st
end
section
/-! printed by wip/whole/gen/gen.py: method numbers, blocks -/
abbrev jC_init : Nat := 0
abbrev jC_lay : Nat := 1
abbrev jC_bark : Nat := 2
abbrev jC_measure : Nat := 3
abbrev jC_span : Nat := 4
abbrev jC_weather : Nat := 5
abbrev jC_plan : Nat := 6
abbrev jC_ends : Nat := 7
abbrev jC_feed : Nat := 8
abbrev jC_feedFour : Nat := 9
abbrev jC_end : Nat := 10
abbrev jC_text : Nat := 11
abbrev jC_fault : Nat := 12
abbrev jC_by : Nat := 13
abbrev jC_obey : Nat := 14
abbrev jC_laid : Nat := 15
abbrev jC_layClause : Nat := 16
abbrev jC_of : Nat := 17
abbrev jC_stack : Nat := 18
abbrev jC_week : Nat := 19
abbrev jC_take : Nat := 20
abbrev jC_takeOne : Nat := 21
abbrev jC_order : Nat := 22
abbrev jC_way : Nat := 23
abbrev jC_tryWay : Nat := 24
abbrev jC_bestOf : Nat := 25
abbrev jC_bestInBoth : Nat := 26
abbrev jC_spans : Nat := 27
abbrev jC_sure : Nat := 28
abbrev jC_trySpans : Nat := 29
abbrev jC_lesser : Nat := 30
abbrev jC_greater : Nat := 31
abbrev jC_nextToMeasure : Nat := 32
abbrev jC_small : Nat := 33
abbrev jC_winter : Nat := 34
abbrev jC_listHeats : Nat := 35
abbrev jC_pullGreatest : Nat := 36
abbrev jC_remember : Nat := 37
abbrev jC_missing : Nat := 38
abbrev jC_missingOf : Nat := 39
abbrev jC_falls : Nat := 40
abbrev jC_fallsBy : Nat := 41
abbrev jC_image : Nat := 42
abbrev jC_back : Nat := 43
abbrev jC_about : Nat := 44
abbrev jC_canTry : Nat := 45
abbrev jC_canPass : Nat := 46
abbrev jC_isWeather : Nat := 47
abbrev jC_isText : Nat := 48
abbrev jC_isKind : Nat := 49
abbrev jC_isWater : Nat := 50
abbrev jC_isSpan : Nat := 51
abbrev jC_isDry : Nat := 52
abbrev jC_within : Nat := 53
abbrev jC_placeOf : Nat := 54
abbrev jM_init : Nat := 55
abbrev jM_copy : Nat := 56
abbrev jM_isIn : Nat := 57
abbrev jM_held : Nat := 58
abbrev jM_count : Nat := 59
abbrev jM_at0 : Nat := 60
abbrev jM_isColumn : Nat := 61
abbrev jM_isSplit : Nat := 62
abbrev jM_splits : Nat := 63
abbrev jM_lay : Nat := 64
abbrev jM_put : Nat := 65
abbrev jM_bark : Nat := 66
abbrev jM_isSpan : Nat := 67
abbrev jM_measure : Nat := 68
abbrev jM_span : Nat := 69
abbrev jM_weather : Nat := 70
abbrev jM_isWeather : Nat := 71
abbrev jM_plan : Nat := 72
abbrev jM_ends : Nat := 73
abbrev jM_four : Nat := 74
abbrev jM_feed : Nat := 75
abbrev jM_end : Nat := 76
abbrev jM_byteAt : Nat := 77
abbrev jM_isLetter : Nat := 78
abbrev jM_isDigit : Nat := 79
abbrev jM_nextToken : Nat := 80
abbrev jM_w3 : Nat := 81
abbrev jM_w5 : Nat := 82
abbrev jM_w4 : Nat := 83
abbrev jM_w6 : Nat := 84
abbrev jM_isWord : Nat := 85
abbrev jM_emit : Nat := 86
abbrev jM_push : Nat := 87
abbrev jM_rank : Nat := 88
abbrev jM_settle : Nat := 89
abbrev jM_whole : Nat := 90
abbrev jM_marker : Nat := 91
abbrev jM_isCompared : Nat := 92
abbrev jM_isAskAhead : Nat := 93
abbrev jM_opensBy : Nat := 94
abbrev jM_beginOne : Nat := 95
abbrev jM_compareOf : Nat := 96
abbrev jM_betweenOf : Nat := 97
abbrev jM_behindOne : Nat := 98
abbrev jM_parsed : Nat := 99
abbrev jM_w7 : Nat := 100
abbrev jM_nameOf : Nat := 101
abbrev jM_farName : Nat := 102
abbrev jM_isOf : Nat := 103
abbrev jM_sortOf : Nat := 104
abbrev jM_figure : Nat := 105
abbrev jM_expects : Nat := 106
abbrev jM_laidBy : Nat := 107
abbrev jM_clause : Nat := 108
abbrev jM_readText : Nat := 109
abbrev jM_text : Nat := 110
abbrev jM_fault : Nat := 111
abbrev jM_by : Nat := 112
abbrev jM_laid : Nat := 113
abbrev jM_clip : Nat := 114
abbrev jM_two : Nat := 115
abbrev jM_isAsked : Nat := 116
abbrev jM_work : Nat := 117
abbrev jM_clauses : Nat := 118
abbrev jM_clauseOf : Nat := 119
abbrev jM_sumOf : Nat := 120
abbrev jM_besideOf : Nat := 121
abbrev jM_name : Nat := 122
abbrev jM_thickOf : Nat := 123
abbrev jM_heatOf : Nat := 124
abbrev jM_isDry : Nat := 125
abbrev jM_heightOf : Nat := 126
abbrev jM_leanOf : Nat := 127
abbrev jM_standOf : Nat := 128
abbrev jM_dryMany : Nat := 129
abbrev jM_isBeetle : Nat := 130
abbrev jM_of : Nat := 131
abbrev jM_airIn : Nat := 132
abbrev jM_beetles : Nat := 133
abbrev jM_stack : Nat := 134
abbrev jM_driedOf : Nat := 135
abbrev jM_goBy : Nat := 136
abbrev jM_week : Nat := 137
abbrev jM_takeOff : Nat := 138
abbrev jM_takeOne : Nat := 139
abbrev jM_take : Nat := 140
abbrev jM_tries : Nat := 141
abbrev jM_isTried : Nat := 142
abbrev jM_keepOrder : Nat := 143
abbrev jM_choosesNext : Nat := 144
abbrev jM_findOrder : Nat := 145
abbrev jM_order : Nat := 146
abbrev jM_goOn : Nat := 147
abbrev jM_tryWays : Nat := 148
abbrev jM_bestOf : Nat := 149
abbrev jM_way : Nat := 150
abbrev jM_tryEnds : Nat := 151
abbrev jM_lesser : Nat := 152
abbrev jM_greater : Nat := 153
abbrev jM_spans : Nat := 154
abbrev jM_sure : Nat := 155
abbrev jM_small : Nat := 156
abbrev jM_winter : Nat := 157
abbrev jM_remember : Nat := 158
abbrev jM_missingOf : Nat := 159
abbrev jM_missing : Nat := 160
abbrev jM_falls : Nat := 161
abbrev jM_image : Nat := 162
abbrev jM_back : Nat := 163
abbrev jM_about : Nat := 164
abbrev jL_init : Nat := 165
abbrev jL_thickOf : Nat := 166
abbrev jL_heatOf : Nat := 167
abbrev jL_worthOf : Nat := 168
abbrev jL_standOf : Nat := 169
abbrev jL_heightOf : Nat := 170
abbrev jL_leanOf : Nat := 171
abbrev jL_airIn : Nat := 172
abbrev jL_beetlesIn : Nat := 173
abbrev jL_hasBeetle : Nat := 174
abbrev jL_pass : Nat := 175
abbrev jL_dryAll : Nat := 176
abbrev jL_driedBy : Nat := 177
abbrev jL_look : Nat := 178
abbrev jL_valueOf : Nat := 179
abbrev jL_nameValue : Nat := 180
abbrev jL_joined : Nat := 181
abbrev jL_clamp : Nat := 182
abbrev jP_init : Nat := 183
abbrev jP_become : Nat := 184
abbrev jP_isFallen : Nat := 185
abbrev jP_holds : Nat := 186
abbrev jP_clear : Nat := 187
abbrev jP_add : Nat := 188
abbrev jP_remove : Nat := 189
abbrev jP_bringDown : Nat := 190
abbrev jP_turnBark : Nat := 191
abbrev jP_splits : Nat := 192
abbrev jP_drySplits : Nat := 193
abbrev jP_tallest : Nat := 194
abbrev jP_isTop : Nat := 195
abbrev jP_besideOf : Nat := 196
abbrev jP_isSunny : Nat := 197
abbrev jR_init : Nat := 198
abbrev jR_readAll : Nat := 199
abbrev jR_token : Nat := 200
abbrev jR_number : Nat := 201
abbrev jR_step : Nat := 202
abbrev jR_fail : Nat := 203
abbrev jR_expect : Nat := 204
abbrev jR_emit : Nat := 205
abbrev jR_readClause : Nat := 206
abbrev jR_readLay : Nat := 207
abbrev jR_readTold : Nat := 208
abbrev jR_readPart : Nat := 209
abbrev jR_levelOf : Nat := 210
abbrev jR_readAsk : Nat := 211
abbrev jR_opens : Nat := 212
abbrev jR_readOne : Nat := 213
abbrev jR_readName : Nat := 214
abbrev jR_isNameOfClause : Nat := 215
abbrev jR_readPair : Nat := 216
abbrev jS_init : Nat := 217
abbrev jS_begin : Nat := 218
abbrev jS_tryFrom : Nat := 219
abbrev jS_note : Nat := 220
abbrev jT_init : Nat := 221
abbrev jT_clear : Nat := 222
abbrev jT_begin : Nat := 223
abbrev jT_emit : Nat := 224
abbrev jT_clauseOf : Nat := 225
abbrev jT_codeAt : Nat := 226
abbrev jT_standsOnce : Nat := 227
abbrev jK_init : Nat := 228
abbrev jK_cut : Nat := 229
abbrev jK_add : Nat := 230
abbrev jK_cutWord : Nat := 231
abbrev jK_wordOf : Nat := 232
abbrev jK_cutNumber : Nat := 233
abbrev jK_cutSign : Nat := 234
abbrev jK_signOf : Nat := 235
abbrev jK_isLetter : Nat := 236
abbrev jK_isDigit : Nat := 237
abbrev jY_init : Nat := 238
abbrev jY_become : Nat := 239
abbrev jW_cell : Nat := 240
abbrev jW_law : Nat := 241
def cd_C_lay : List (List qm_Ins) := [
  [(2, [2], 0), (80, [49, 1, 0], 0), (61, [0, 1], 0), (2, [3], 0), (0, [], 1), (0, [], 20), (80, [53, 3, 0], 0), (61, [0, 1], 0), (2, [4], 0), (80, [50, 1, 0], 0), (61, [0, 1], 0), (4, [0], 0), (42, [1, 0, 2, 0, 0], 0), (42, [2, 0, 3, 1, 0], 0), (80, [185, 1, 3], 0), (61, [0, 2], 0), (64, [1], 0)],
  [(0, [], -1), (70, [], 0)],
  [(4, [0], 0), (42, [1, 0, 2, 0, 0], 0), (42, [2, 0, 3, 1, 0], 0), (2, [1], 0), (2, [2], 0), (2, [3], 0), (2, [4], 0), (80, [188, 5, 3], 0), (70, [], 0)]]
def cd_C_bark : List (List qm_Ins) := [
  [(4, [0], 0), (42, [1, 0, 2, 0, 0], 0), (42, [2, 0, 3, 1, 0], 0), (2, [1], 0), (2, [2], 0), (80, [186, 3, 3], 0), (61, [1, 1], 0), (0, [], 0), (73, [], 0)],
  [(4, [0], 0), (42, [1, 0, 2, 0, 0], 0), (42, [2, 0, 3, 1, 0], 0), (42, [3, 4, 14, 1, 0], 0), (2, [1], 0), (2, [2], 0), (80, [54, 2, 0], 0), (2, [3], 0), (61, [0, 2], 0), (0, [], 1), (63, [3], 0)],
  [(0, [], 0), (64, [3], 0)],
  [(51, [], 0), (0, [], 1), (73, [], 0)]]
def cd_C_measure : List (List qm_Ins) := [
  [(4, [0], 0), (42, [1, 0, 2, 0, 0], 0), (42, [2, 0, 3, 1, 0], 0), (2, [1], 0), (2, [2], 0), (80, [186, 3, 3], 0), (61, [0, 1], 0), (2, [3], 0), (0, [], -1), (60, [0, 2], 0), (2, [3], 0), (2, [4], 0), (80, [51, 2, 0], 0), (61, [1, 2], 0), (64, [1], 0)],
  [(0, [], 0), (73, [], 0)],
  [(2, [1], 0), (2, [2], 0), (80, [54, 2, 0], 0), (5, [5], 0), (4, [0], 0), (42, [1, 0, 2, 0, 0], 0), (42, [2, 0, 3, 1, 0], 0), (42, [3, 5, 15, 1, 0], 0), (2, [5], 0), (2, [3], 0), (51, [], 0), (4, [0], 0), (42, [1, 0, 2, 0, 0], 0), (42, [2, 0, 3, 1, 0], 0), (42, [3, 6, 16, 1, 0], 0), (2, [5], 0), (2, [3], 0), (0, [], -1), (60, [1, 3], 0), (0, [], -1), (63, [4], 0)],
  [(2, [4], 0), (64, [4], 0)],
  [(51, [], 0), (0, [], 1), (73, [], 0)]]
def cd_C_span : List (List qm_Ins) := [
  [(2, [1], 0), (80, [49, 1, 0], 0), (61, [0, 1], 0), (2, [2], 0), (2, [3], 0), (80, [51, 2, 0], 0), (61, [1, 2], 0), (64, [1], 0)],
  [(0, [], 0), (73, [], 0)],
  [(4, [0], 0), (42, [1, 0, 2, 0, 0], 0), (42, [2, 7, 26, 1, 0], 0), (2, [1], 0), (2, [2], 0), (51, [], 0), (4, [0], 0), (42, [1, 0, 2, 0, 0], 0), (42, [2, 8, 27, 1, 0], 0), (2, [1], 0), (2, [3], 0), (51, [], 0), (0, [], 1), (73, [], 0)]]
def cd_C_weather : List (List qm_Ins) := [
  [(2, [1], 0), (0, [], 0), (0, [], 9), (80, [53, 3, 0], 0), (61, [0, 1], 0), (2, [2], 0), (0, [], 0), (0, [], 9), (80, [53, 3, 0], 0), (61, [0, 1], 0), (2, [3], 0), (0, [], 0), (0, [], 9), (80, [53, 3, 0], 0), (61, [0, 1], 0), (2, [4], 0), (0, [], 0), (0, [], 40), (80, [53, 3, 0], 0), (61, [0, 1], 0), (0, [], 1), (63, [2], 0)],
  [(0, [], 0), (64, [2], 0)],
  [(5, [5], 0), (2, [5], 0), (61, [0, 3], 0), (4, [0], 0), (42, [1, 0, 2, 0, 0], 0), (40, [2, 5], 0), (0, [], 12), (60, [2, 4], 0), (64, [3], 0)],
  [(0, [], -1), (70, [], 0)],
  [(4, [0], 0), (42, [1, 0, 2, 0, 0], 0), (40, [2, 5], 0), (5, [6], 0), (4, [0], 0), (42, [1, 0, 2, 0, 0], 0), (42, [2, 1, 21, 1, 0], 0), (2, [6], 0), (2, [1], 0), (51, [], 0), (4, [0], 0), (42, [1, 0, 2, 0, 0], 0), (42, [2, 2, 22, 1, 0], 0), (2, [6], 0), (2, [2], 0), (51, [], 0), (4, [0], 0), (42, [1, 0, 2, 0, 0], 0), (42, [2, 3, 23, 1, 0], 0), (2, [6], 0), (2, [3], 0), (51, [], 0), (4, [0], 0), (42, [1, 0, 2, 0, 0], 0), (42, [2, 4, 24, 1, 0], 0), (2, [6], 0), (2, [4], 0), (51, [], 0), (4, [0], 0), (42, [1, 0, 2, 0, 0], 0), (2, [6], 0), (0, [], 1), (10, [], 0), (44, [2, 5], 0), (2, [6], 0), (70, [], 0)]]
def cd_C_plan : List (List qm_Ins) := [
  [(2, [1], 0), (0, [], 0), (0, [], 39), (80, [53, 3, 0], 0), (61, [0, 1], 0), (4, [0], 0), (2, [2], 0), (80, [47, 2, 1], 0), (61, [1, 2], 0), (64, [1], 0)],
  [(0, [], 0), (73, [], 0)],
  [(4, [0], 0), (42, [1, 0, 2, 0, 0], 0), (42, [2, 6, 25, 1, 0], 0), (2, [1], 0), (2, [2], 0), (51, [], 0), (0, [], 1), (73, [], 0)]]
def cd_C_ends : List (List qm_Ins) := [
  [(2, [1], 0), (0, [], 0), (0, [], 9), (80, [53, 3, 0], 0), (61, [0, 1], 0), (2, [3], 0), (0, [], 0), (0, [], 1), (80, [53, 3, 0], 0), (61, [1, 2], 0), (64, [1], 0)],
  [(0, [], 0), (73, [], 0)],
  [(4, [0], 0), (42, [1, 0, 2, 0, 0], 0), (42, [2, 0, 3, 1, 0], 0), (2, [1], 0), (44, [3, 10], 0), (4, [0], 0), (42, [1, 0, 2, 0, 0], 0), (42, [2, 0, 3, 1, 0], 0), (2, [2], 0), (61, [0, 3], 0), (0, [], 1), (63, [4], 0)],
  [(0, [], 0), (64, [4], 0)],
  [(44, [3, 11], 0), (4, [0], 0), (42, [1, 0, 2, 0, 0], 0), (42, [2, 0, 3, 1, 0], 0), (2, [3], 0), (44, [3, 12], 0), (0, [], 1), (73, [], 0)]]
def cd_C_feed : List (List qm_Ins) := [
  [(4, [0], 0), (40, [1, 7], 0), (0, [], 280), (60, [5, 1], 0), (0, [], -1), (70, [], 0)],
  [(4, [0], 0), (2, [1], 0), (80, [9, 2, 1], 0), (4, [0], 0), (2, [2], 0), (80, [9, 2, 1], 0), (4, [0], 0), (2, [3], 0), (80, [9, 2, 1], 0), (4, [0], 0), (2, [4], 0), (80, [9, 2, 1], 0), (4, [0], 0), (2, [5], 0), (80, [9, 2, 1], 0), (4, [0], 0), (40, [1, 7], 0), (70, [], 0)]]
def cd_C_feedFour : List (List qm_Ins) := [
  [(0, [], 24), (5, [2], 0), (64, [1], 0)],
  [(2, [2], 0), (61, [2, 2], 0), (4, [0], 0), (40, [1, 7], 0), (0, [], 300), (60, [3, 2], 0), (4, [0], 0), (42, [1, 6, 52, 0, 0], 0), (4, [0], 0), (40, [1, 7], 0), (2, [1], 0), (2, [2], 0), (20, [], 0), (0, [], 255), (16, [], 0), (51, [], 0), (4, [0], 0), (32, [], 0), (40, [1, 7], 0), (0, [], 1), (10, [], 0), (44, [1, 7], 0), (8, [2], -8), (63, [1], 0)],
  [(72, [], 0)]]
def cd_C_end : List (List qm_Ins) := [
  [(2, [1], 0), (0, [], 0), (4, [0], 0), (40, [1, 7], 0), (80, [53, 3, 0], 0), (61, [1, 1], 0), (0, [], -1), (70, [], 0)],
  [(4, [0], 0), (2, [1], 0), (44, [1, 7], 0), (2, [1], 0), (70, [], 0)]]
def cd_C_text : List (List qm_Ins) := [
  [(4, [0], 0), (42, [1, 0, 2, 0, 0], 0), (40, [2, 11], 0), (5, [1], 0), (2, [1], 0), (0, [], 0), (0, [], 3), (80, [53, 3, 0], 0), (61, [1, 1], 0), (0, [], -1), (70, [], 0)],
  [(4, [0], 0), (42, [1, 5, 6, 0, 0], 0), (4, [0], 0), (42, [1, 6, 52, 0, 0], 0), (4, [0], 0), (40, [1, 7], 0), (4, [0], 0), (42, [1, 2, 51, 0, 0], 0), (2, [1], 0), (56, [], 0), (80, [199, 4, 6], 0), (4, [0], 0), (0, [], 1), (47, [1, 8], 0), (4, [0], 0), (0, [], 0), (44, [1, 7], 0), (4, [0], 0), (42, [1, 5, 6, 0, 0], 0), (40, [6, 4], 0), (61, [0, 2], 0), (0, [], -1), (70, [], 0)],
  [(4, [0], 0), (42, [1, 0, 2, 0, 0], 0), (2, [1], 0), (0, [], 1), (10, [], 0), (44, [2, 11], 0), (2, [1], 0), (70, [], 0)]]
def cd_C_fault : List (List qm_Ins) := [
  [(4, [0], 0), (40, [1, 8], 0), (61, [0, 1], 0), (2, [1], 0), (0, [], 0), (0, [], 1), (80, [53, 3, 0], 0), (61, [1, 2], 0), (64, [1], 0)],
  [(0, [], -1), (70, [], 0)],
  [(2, [1], 0), (61, [1, 3], 0), (4, [0], 0), (42, [1, 5, 6, 0, 0], 0), (40, [6, 4], 0), (63, [4], 0)],
  [(4, [0], 0), (42, [1, 5, 6, 0, 0], 0), (40, [6, 5], 0), (64, [4], 0)],
  [(70, [], 0)]]
def cd_C_by : List (List qm_Ins) := [
  [(2, [1], 0), (0, [], -1), (60, [0, 1], 0), (4, [0], 0), (2, [1], 0), (80, [48, 2, 1], 0), (61, [1, 1], 0), (0, [], 0), (73, [], 0)],
  [(4, [0], 0), (42, [1, 0, 2, 0, 0], 0), (2, [1], 0), (44, [2, 12], 0), (4, [0], 0), (80, [14, 1, 1], 0), (0, [], 1), (73, [], 0)]]
def cd_C_obey : List (List qm_Ins) := [
  [(4, [0], 0), (42, [1, 4, 5, 0, 0], 0), (4, [0], 0), (4, [0], 0), (42, [1, 0, 2, 0, 0], 0), (40, [2, 12], 0), (80, [48, 2, 1], 0), (61, [0, 1], 0), (4, [0], 0), (42, [1, 2, 51, 0, 0], 0), (4, [0], 0), (42, [1, 0, 2, 0, 0], 0), (40, [2, 12], 0), (56, [], 0), (63, [2], 0)],
  [(4, [0], 0), (42, [1, 3, 4, 0, 4], 0), (64, [2], 0)],
  [(46, [5, 0, 4], 0), (72, [], 0)]]
def cd_C_laid : List (List qm_Ins) := [
  [(4, [0], 0), (2, [1], 0), (80, [48, 2, 1], 0), (61, [1, 1], 0), (0, [], -2), (70, [], 0)],
  [(4, [0], 0), (42, [1, 2, 51, 0, 0], 0), (2, [1], 0), (56, [], 0), (7, [2], 0), (4, [0], 0), (42, [1, 0, 2, 0, 0], 0), (42, [2, 0, 3, 1, 0], 0), (80, [187, 1, 3], 0), (0, [], 0), (5, [3], 0), (64, [2], 0)],
  [(2, [3], 0), (4, [2], 0), (40, [4, 6], 0), (60, [3, 4], 0), (4, [2], 0), (42, [4, 1, 32, 1, 0], 0), (2, [3], 0), (50, [], 0), (0, [], 23), (60, [1, 3], 0), (4, [0], 0), (4, [2], 0), (2, [3], 0), (80, [16, 3, 1], 0), (61, [1, 3], 0), (2, [3], 0), (70, [], 0)],
  [(8, [3], 1), (63, [2], 0)],
  [(0, [], -1), (70, [], 0)]]
def cd_C_layClause : List (List qm_Ins) := [
  [(4, [1], 0), (2, [2], 0), (0, [], 0), (80, [226, 3, 4], 0), (5, [3], 0), (4, [1], 0), (2, [2], 0), (0, [], 1), (80, [226, 3, 4], 0), (5, [4], 0), (4, [1], 0), (2, [2], 0), (0, [], 2), (80, [226, 3, 4], 0), (5, [5], 0), (4, [0], 0), (42, [1, 0, 2, 0, 0], 0), (42, [2, 0, 3, 1, 0], 0), (4, [1], 0), (2, [2], 0), (0, [], 3), (80, [226, 3, 4], 0), (2, [3], 0), (2, [4], 0), (2, [5], 0), (80, [188, 5, 3], 0), (0, [], -1), (60, [0, 1], 0), (0, [], 1), (63, [2], 0)],
  [(0, [], 0), (64, [2], 0)],
  [(73, [], 0)]]
def cd_C_of : List (List qm_Ins) := [
  [(4, [0], 0), (42, [1, 0, 2, 0, 0], 0), (42, [2, 0, 3, 1, 0], 0), (7, [4], 0), (4, [4], 0), (2, [1], 0), (2, [2], 0), (80, [186, 3, 3], 0), (61, [1, 1], 0), (0, [], -1), (70, [], 0)],
  [(2, [1], 0), (2, [2], 0), (80, [54, 2, 0], 0), (5, [5], 0), (2, [3], 0), (65, [13, 2, 3, 4, 5, 6, 7, 8, 9, 10], 0)],
  [(4, [4], 0), (42, [3, 1, 11, 1, 0], 0), (2, [5], 0), (50, [], 0), (70, [], 0)],
  [(4, [4], 0), (42, [3, 2, 12, 1, 0], 0), (2, [5], 0), (50, [], 0), (70, [], 0)],
  [(4, [4], 0), (42, [3, 3, 13, 1, 0], 0), (2, [5], 0), (50, [], 0), (70, [], 0)],
  [(4, [4], 0), (42, [3, 4, 14, 1, 0], 0), (2, [5], 0), (50, [], 0), (70, [], 0)],
  [(4, [4], 0), (42, [3, 5, 15, 1, 0], 0), (2, [5], 0), (50, [], 0), (70, [], 0)],
  [(4, [4], 0), (42, [3, 6, 16, 1, 0], 0), (2, [5], 0), (50, [], 0), (70, [], 0)],
  [(4, [0], 0), (42, [1, 4, 5, 0, 0], 0), (4, [4], 0), (2, [1], 0), (2, [2], 0), (80, [166, 4, 5], 0), (70, [], 0)],
  [(4, [0], 0), (42, [1, 4, 5, 0, 0], 0), (4, [4], 0), (2, [1], 0), (2, [2], 0), (80, [167, 4, 5], 0), (70, [], 0)],
  [(4, [4], 0), (42, [3, 3, 13, 1, 0], 0), (2, [5], 0), (50, [], 0), (80, [52, 1, 0], 0), (61, [0, 11], 0), (0, [], 1), (63, [12], 0)],
  [(0, [], 0), (64, [12], 0)],
  [(70, [], 0)],
  [(0, [], -1), (70, [], 0)]]
def cd_C_stack : List (List qm_Ins) := [
  [(4, [0], 0), (42, [1, 0, 2, 0, 0], 0), (42, [2, 0, 3, 1, 0], 0), (7, [2], 0), (2, [1], 0), (0, [], 10), (0, [], 9), (4, [2], 0), (40, [3, 0], 0), (10, [], 0), (80, [53, 3, 0], 0), (61, [0, 1], 0), (4, [0], 0), (42, [1, 4, 5, 0, 0], 0), (4, [2], 0), (2, [1], 0), (0, [], 10), (11, [], 0), (80, [170, 3, 5], 0), (70, [], 0)],
  [(2, [1], 0), (0, [], 20), (0, [], 19), (4, [2], 0), (40, [3, 0], 0), (10, [], 0), (80, [53, 3, 0], 0), (61, [0, 2], 0), (4, [2], 0), (42, [3, 7, 17, 1, 0], 0), (2, [1], 0), (0, [], 20), (11, [], 0), (50, [], 0), (70, [], 0)],
  [(2, [1], 0), (65, [10, 3, 4, 5, 6, 7, 8, 9], 0)],
  [(4, [0], 0), (42, [1, 4, 5, 0, 0], 0), (4, [2], 0), (80, [171, 2, 5], 0), (70, [], 0)],
  [(4, [0], 0), (42, [1, 4, 5, 0, 0], 0), (4, [2], 0), (80, [169, 2, 5], 0), (70, [], 0)],
  [(4, [2], 0), (40, [3, 9], 0), (70, [], 0)],
  [(4, [2], 0), (80, [192, 1, 3], 0), (70, [], 0)],
  [(4, [2], 0), (80, [193, 1, 3], 0), (70, [], 0)],
  [(4, [0], 0), (42, [1, 4, 5, 0, 0], 0), (4, [2], 0), (80, [172, 2, 5], 0), (70, [], 0)],
  [(4, [0], 0), (42, [1, 4, 5, 0, 0], 0), (4, [2], 0), (80, [173, 2, 5], 0), (70, [], 0)],
  [(0, [], -100000), (70, [], 0)]]
def cd_C_week : List (List qm_Ins) := [
  [(4, [0], 0), (2, [1], 0), (80, [47, 2, 1], 0), (61, [0, 1], 0), (4, [0], 0), (42, [1, 0, 2, 0, 0], 0), (42, [2, 0, 3, 1, 0], 0), (40, [3, 8], 0), (0, [], 399), (60, [2, 2], 0), (64, [1], 0)],
  [(0, [], -1), (70, [], 0)],
  [(4, [0], 0), (42, [1, 4, 5, 0, 0], 0), (4, [0], 0), (42, [1, 0, 2, 0, 0], 0), (42, [2, 0, 3, 1, 0], 0), (4, [0], 0), (42, [1, 0, 2, 0, 0], 0), (2, [1], 0), (80, [175, 4, 5], 0), (4, [0], 0), (42, [1, 0, 2, 0, 0], 0), (42, [2, 0, 3, 1, 0], 0), (40, [3, 8], 0), (70, [], 0)]]
def cd_C_take : List (List qm_Ins) := [
  [(2, [1], 0), (0, [], 1), (0, [], 48), (80, [53, 3, 0], 0), (61, [0, 1], 0), (2, [1], 0), (4, [0], 0), (42, [1, 0, 2, 0, 0], 0), (42, [2, 0, 3, 1, 0], 0), (80, [192, 1, 3], 0), (60, [5, 2], 0), (64, [1], 0)],
  [(0, [], -1), (70, [], 0)],
  [(0, [], 0), (5, [2], 0), (0, [], 0), (5, [3], 0), (64, [3], 0)],
  [(2, [3], 0), (2, [1], 0), (60, [3, 4], 0), (2, [2], 0), (4, [0], 0), (80, [21, 1, 1], 0), (10, [], 0), (5, [2], 0), (8, [3], 1), (63, [3], 0)],
  [(2, [2], 0), (70, [], 0)]]
def cd_C_takeOne : List (List qm_Ins) := [
  [(4, [0], 0), (42, [1, 0, 2, 0, 0], 0), (42, [2, 0, 3, 1, 0], 0), (7, [1], 0), (0, [], -1), (5, [2], 0), (0, [], -1), (5, [3], 0), (0, [], 0), (5, [4], 0), (0, [], 0), (5, [5], 0), (64, [1], 0)],
  [(2, [5], 0), (4, [1], 0), (40, [3, 0], 0), (60, [3, 8], 0), (4, [1], 0), (80, [185, 1, 3], 0), (61, [0, 2], 0), (0, [], 0), (63, [3], 0)],
  [(0, [], 0), (4, [1], 0), (42, [3, 7, 17, 1, 0], 0), (2, [5], 0), (50, [], 0), (0, [], 1), (11, [], 0), (81, [], 0), (64, [3], 0)],
  [(5, [6], 0), (2, [6], 0), (5, [7], 0), (64, [4], 0)],
  [(2, [7], 0), (4, [1], 0), (42, [3, 7, 17, 1, 0], 0), (2, [5], 0), (50, [], 0), (60, [3, 7], 0), (4, [0], 0), (42, [1, 4, 5, 0, 0], 0), (4, [1], 0), (2, [5], 0), (2, [7], 0), (80, [168, 4, 5], 0), (5, [8], 0), (2, [2], 0), (0, [], -1), (60, [0, 5], 0), (2, [8], 0), (2, [4], 0), (60, [5, 6], 0), (64, [5], 0)],
  [(2, [8], 0), (5, [4], 0), (2, [5], 0), (5, [2], 0), (2, [7], 0), (5, [3], 0), (64, [6], 0)],
  [(8, [7], 1), (63, [4], 0)],
  [(8, [5], 1), (63, [1], 0)],
  [(4, [1], 0), (2, [2], 0), (2, [3], 0), (80, [186, 3, 3], 0), (61, [1, 9], 0), (0, [], 0), (70, [], 0)],
  [(4, [0], 0), (42, [1, 4, 5, 0, 0], 0), (4, [1], 0), (2, [2], 0), (2, [3], 0), (80, [167, 4, 5], 0), (5, [5], 0), (4, [1], 0), (2, [2], 0), (2, [3], 0), (80, [189, 3, 3], 0), (2, [5], 0), (70, [], 0)]]
def cd_C_order : List (List qm_Ins) := [
  [(2, [2], 0), (61, [0, 1], 0), (2, [2], 0), (0, [], 10), (0, [], 14), (80, [53, 3, 0], 0), (61, [0, 2], 0), (64, [1], 0)],
  [(0, [], 1), (63, [3], 0)],
  [(0, [], 0), (64, [3], 0)],
  [(5, [3], 0), (2, [3], 0), (61, [0, 4], 0), (2, [1], 0), (0, [], 1), (0, [], 5), (80, [53, 3, 0], 0), (61, [0, 4], 0), (4, [0], 0), (2, [1], 0), (80, [46, 2, 1], 0), (61, [1, 5], 0), (64, [4], 0)],
  [(0, [], -1), (70, [], 0)],
  [(4, [0], 0), (42, [1, 11, 8, 0, 0], 0), (4, [0], 0), (42, [1, 0, 2, 0, 0], 0), (42, [2, 0, 3, 1, 0], 0), (80, [218, 2, 8], 0), (4, [0], 0), (42, [1, 11, 8, 0, 0], 0), (0, [], 0), (0, [], 0), (2, [1], 0), (4, [0], 0), (42, [1, 0, 2, 0, 0], 0), (42, [2, 0, 3, 1, 0], 0), (80, [192, 1, 3], 0), (82, [], 0), (4, [0], 0), (42, [1, 0, 2, 0, 0], 0), (4, [0], 0), (42, [1, 4, 5, 0, 0], 0), (80, [219, 6, 8], 0), (2, [2], 0), (61, [1, 6], 0), (4, [0], 0), (42, [1, 11, 8, 0, 0], 0), (40, [8, 3], 0), (70, [], 0)],
  [(2, [2], 0), (0, [], 10), (11, [], 0), (4, [0], 0), (42, [1, 11, 8, 0, 0], 0), (40, [8, 4], 0), (60, [3, 7], 0), (4, [0], 0), (42, [1, 11, 8, 0, 0], 0), (42, [8, 2, 48, 0, 0], 0), (2, [2], 0), (0, [], 10), (11, [], 0), (50, [], 0), (63, [8], 0)],
  [(0, [], -1), (64, [8], 0)],
  [(70, [], 0)]]
def cd_C_way : List (List qm_Ins) := [
  [(2, [2], 0), (0, [], 0), (0, [], 7), (80, [53, 3, 0], 0), (61, [0, 1], 0), (2, [3], 0), (0, [], 0), (0, [], 1), (80, [53, 3, 0], 0), (61, [0, 1], 0), (0, [], 1), (63, [2], 0)],
  [(0, [], 0), (64, [2], 0)],
  [(5, [4], 0), (2, [2], 0), (0, [], -1), (60, [1, 3], 0), (2, [3], 0), (0, [], 0), (0, [], 2), (80, [53, 3, 0], 0), (61, [0, 3], 0), (0, [], 1), (63, [4], 0)],
  [(0, [], 0), (64, [4], 0)],
  [(5, [5], 0), (2, [4], 0), (61, [1, 5], 0), (2, [5], 0), (61, [0, 6], 0), (64, [5], 0)],
  [(2, [1], 0), (0, [], 1), (0, [], 40), (80, [53, 3, 0], 0), (61, [0, 6], 0), (4, [0], 0), (2, [1], 0), (80, [46, 2, 1], 0), (61, [1, 7], 0), (64, [6], 0)],
  [(0, [], -1), (70, [], 0)],
  [(2, [4], 0), (61, [0, 10], 0), (4, [0], 0), (2, [1], 0), (2, [2], 0), (80, [24, 3, 1], 0), (2, [3], 0), (61, [1, 8], 0), (4, [0], 0), (42, [1, 13, 54, 0, 0], 0), (2, [2], 0), (50, [], 0), (63, [9], 0)],
  [(4, [0], 0), (42, [1, 14, 55, 0, 0], 0), (2, [2], 0), (50, [], 0), (64, [9], 0)],
  [(70, [], 0)],
  [(0, [], 0), (5, [6], 0), (64, [11], 0)],
  [(2, [6], 0), (0, [], 8), (60, [3, 12], 0), (4, [0], 0), (2, [1], 0), (2, [6], 0), (80, [24, 3, 1], 0), (8, [6], 1), (63, [11], 0)],
  [(4, [0], 0), (42, [1, 13, 54, 0, 0], 0), (80, [25, 1, 0], 0), (5, [6], 0), (4, [0], 0), (42, [1, 14, 55, 0, 0], 0), (80, [25, 1, 0], 0), (5, [7], 0), (2, [3], 0), (0, [], 2), (60, [1, 13], 0), (4, [0], 0), (4, [0], 0), (42, [1, 13, 54, 0, 0], 0), (2, [6], 0), (50, [], 0), (4, [0], 0), (42, [1, 14, 55, 0, 0], 0), (2, [7], 0), (50, [], 0), (80, [26, 3, 1], 0), (70, [], 0)],
  [(2, [3], 0), (61, [1, 14], 0), (2, [6], 0), (63, [15], 0)],
  [(2, [7], 0), (64, [15], 0)],
  [(70, [], 0)]]
def cd_C_tryWay : List (List qm_Ins) := [
  [(4, [0], 0), (42, [1, 9, 3, 0, 2], 0), (4, [0], 0), (42, [1, 0, 2, 0, 0], 0), (42, [2, 0, 3, 1, 0], 0), (80, [184, 2, 3], 0), (4, [0], 0), (42, [1, 9, 3, 0, 2], 0), (2, [2], 0), (0, [], 2), (14, [], 0), (61, [1, 1], 0), (0, [], 1), (63, [2], 0)],
  [(0, [], 0), (64, [2], 0)],
  [(80, [191, 2, 3], 0), (4, [0], 0), (42, [1, 9, 3, 0, 2], 0), (2, [2], 0), (0, [], 2), (13, [], 0), (0, [], 2), (14, [], 0), (44, [3, 11], 0), (4, [0], 0), (42, [1, 9, 3, 0, 2], 0), (2, [2], 0), (0, [], 4), (13, [], 0), (44, [3, 12], 0), (4, [0], 0), (42, [1, 9, 3, 0, 2], 0), (80, [185, 1, 3], 0), (61, [0, 3], 0), (0, [], 0), (63, [4], 0)],
  [(2, [1], 0), (0, [], 1), (10, [], 0), (64, [4], 0)],
  [(5, [3], 0), (0, [], 0), (5, [4], 0), (64, [5], 0)],
  [(2, [4], 0), (2, [1], 0), (60, [3, 9], 0), (2, [4], 0), (0, [], 40), (60, [3, 9], 0), (4, [0], 0), (42, [1, 9, 3, 0, 2], 0), (80, [185, 1, 3], 0), (61, [1, 6], 0), (0, [], 1), (63, [7], 0)],
  [(0, [], 0), (64, [7], 0)],
  [(5, [5], 0), (4, [0], 0), (42, [1, 4, 5, 0, 0], 0), (4, [0], 0), (42, [1, 9, 3, 0, 2], 0), (4, [0], 0), (42, [1, 0, 2, 0, 0], 0), (4, [0], 0), (42, [1, 0, 2, 0, 0], 0), (42, [2, 6, 25, 1, 0], 0), (2, [4], 0), (50, [], 0), (80, [175, 4, 5], 0), (2, [5], 0), (61, [0, 8], 0), (4, [0], 0), (42, [1, 9, 3, 0, 2], 0), (80, [185, 1, 3], 0), (61, [0, 8], 0), (2, [4], 0), (0, [], 1), (10, [], 0), (5, [3], 0), (64, [8], 0)],
  [(8, [4], 1), (63, [5], 0)],
  [(4, [0], 0), (42, [1, 13, 54, 0, 0], 0), (2, [2], 0), (4, [0], 0), (42, [1, 9, 3, 0, 2], 0), (80, [193, 1, 3], 0), (51, [], 0), (4, [0], 0), (42, [1, 14, 55, 0, 0], 0), (2, [2], 0), (2, [3], 0), (51, [], 0), (72, [], 0)]]
def cd_C_bestOf : List (List qm_Ins) := [
  [(0, [], 0), (5, [1], 0), (0, [], 1), (5, [2], 0), (64, [1], 0)],
  [(2, [2], 0), (4, [0], 0), (57, [], 0), (60, [3, 3], 0), (4, [0], 0), (2, [2], 0), (50, [], 0), (4, [0], 0), (2, [1], 0), (50, [], 0), (60, [5, 2], 0), (2, [2], 0), (5, [1], 0), (64, [2], 0)],
  [(8, [2], 1), (63, [1], 0)],
  [(2, [1], 0), (70, [], 0)]]
def cd_C_bestInBoth : List (List qm_Ins) := [
  [(0, [], 0), (5, [3], 0), (64, [1], 0)],
  [(2, [3], 0), (0, [], 8), (60, [3, 3], 0), (4, [0], 0), (42, [1, 13, 54, 0, 0], 0), (2, [3], 0), (50, [], 0), (2, [1], 0), (60, [1, 2], 0), (4, [0], 0), (42, [1, 14, 55, 0, 0], 0), (2, [3], 0), (50, [], 0), (2, [2], 0), (60, [1, 2], 0), (2, [3], 0), (70, [], 0)],
  [(8, [3], 1), (63, [1], 0)],
  [(0, [], -1), (70, [], 0)]]
def cd_C_spans : List (List qm_Ins) := [
  [(4, [0], 0), (42, [1, 0, 2, 0, 0], 0), (42, [2, 0, 3, 1, 0], 0), (2, [2], 0), (2, [3], 0), (80, [186, 3, 3], 0), (61, [0, 1], 0), (2, [4], 0), (0, [], 0), (0, [], 1), (80, [53, 3, 0], 0), (61, [0, 1], 0), (4, [0], 0), (2, [1], 0), (80, [45, 2, 1], 0), (61, [1, 2], 0), (64, [1], 0)],
  [(0, [], -1), (70, [], 0)],
  [(4, [0], 0), (2, [1], 0), (80, [29, 2, 1], 0), (2, [4], 0), (61, [1, 3], 0), (4, [0], 0), (2, [2], 0), (2, [3], 0), (80, [54, 2, 0], 0), (80, [30, 2, 1], 0), (63, [4], 0)],
  [(4, [0], 0), (2, [2], 0), (2, [3], 0), (80, [54, 2, 0], 0), (80, [31, 2, 1], 0), (64, [4], 0)],
  [(70, [], 0)]]
def cd_C_sure : List (List qm_Ins) := [
  [(2, [2], 0), (0, [], 0), (0, [], 2), (80, [53, 3, 0], 0), (61, [0, 1], 0), (4, [0], 0), (2, [1], 0), (80, [45, 2, 1], 0), (61, [1, 2], 0), (64, [1], 0)],
  [(0, [], -1), (70, [], 0)],
  [(4, [0], 0), (2, [1], 0), (80, [29, 2, 1], 0), (2, [2], 0), (0, [], 2), (60, [1, 3], 0), (4, [0], 0), (80, [32, 1, 1], 0), (70, [], 0)],
  [(0, [], 0), (5, [3], 0), (0, [], 0), (5, [4], 0), (64, [4], 0)],
  [(2, [4], 0), (4, [0], 0), (42, [1, 0, 2, 0, 0], 0), (42, [2, 0, 3, 1, 0], 0), (40, [3, 0], 0), (60, [3, 11], 0), (0, [], 0), (5, [5], 0), (64, [5], 0)],
  [(2, [5], 0), (4, [0], 0), (42, [1, 0, 2, 0, 0], 0), (42, [2, 0, 3, 1, 0], 0), (42, [3, 7, 17, 1, 0], 0), (2, [4], 0), (50, [], 0), (60, [3, 10], 0), (2, [4], 0), (2, [5], 0), (80, [54, 2, 0], 0), (5, [6], 0), (2, [3], 0), (2, [2], 0), (61, [1, 6], 0), (4, [0], 0), (2, [6], 0), (80, [31, 2, 1], 0), (63, [7], 0)],
  [(4, [0], 0), (2, [6], 0), (80, [30, 2, 1], 0), (64, [7], 0)],
  [(80, [52, 1, 0], 0), (61, [0, 8], 0), (0, [], 1), (63, [9], 0)],
  [(0, [], 0), (64, [9], 0)],
  [(10, [], 0), (5, [3], 0), (8, [5], 1), (63, [5], 0)],
  [(8, [4], 1), (63, [4], 0)],
  [(2, [3], 0), (70, [], 0)]]
def cd_C_trySpans : List (List qm_Ins) := [
  [(4, [0], 0), (42, [1, 9, 3, 0, 2], 0), (4, [0], 0), (42, [1, 0, 2, 0, 0], 0), (42, [2, 0, 3, 1, 0], 0), (80, [184, 2, 3], 0), (4, [0], 0), (42, [1, 10, 3, 0, 3], 0), (4, [0], 0), (42, [1, 0, 2, 0, 0], 0), (42, [2, 0, 3, 1, 0], 0), (80, [184, 2, 3], 0), (0, [], 0), (5, [2], 0), (64, [1], 0)],
  [(2, [2], 0), (4, [0], 0), (42, [1, 0, 2, 0, 0], 0), (42, [2, 0, 3, 1, 0], 0), (40, [3, 0], 0), (60, [3, 10], 0), (0, [], 0), (5, [3], 0), (64, [2], 0)],
  [(2, [3], 0), (4, [0], 0), (42, [1, 0, 2, 0, 0], 0), (42, [2, 0, 3, 1, 0], 0), (42, [3, 7, 17, 1, 0], 0), (2, [2], 0), (50, [], 0), (60, [3, 9], 0), (2, [2], 0), (2, [3], 0), (80, [54, 2, 0], 0), (5, [4], 0), (4, [0], 0), (42, [1, 9, 3, 0, 2], 0), (42, [3, 1, 11, 1, 0], 0), (2, [4], 0), (50, [], 0), (5, [5], 0), (4, [0], 0), (42, [1, 9, 3, 0, 2], 0), (42, [3, 5, 15, 1, 0], 0), (2, [4], 0), (50, [], 0), (0, [], -1), (60, [0, 3], 0), (0, [], 1), (63, [4], 0)],
  [(0, [], 0), (64, [4], 0)],
  [(5, [6], 0), (4, [0], 0), (42, [1, 9, 3, 0, 2], 0), (42, [3, 3, 13, 1, 0], 0), (2, [4], 0), (2, [6], 0), (61, [0, 5], 0), (4, [0], 0), (42, [1, 9, 3, 0, 2], 0), (42, [3, 5, 15, 1, 0], 0), (2, [4], 0), (50, [], 0), (63, [6], 0)],
  [(4, [0], 0), (42, [1, 0, 2, 0, 0], 0), (42, [2, 7, 26, 1, 0], 0), (2, [5], 0), (50, [], 0), (64, [6], 0)],
  [(51, [], 0), (4, [0], 0), (42, [1, 10, 3, 0, 3], 0), (42, [3, 3, 13, 1, 0], 0), (2, [4], 0), (2, [6], 0), (61, [0, 7], 0), (4, [0], 0), (42, [1, 9, 3, 0, 2], 0), (42, [3, 6, 16, 1, 0], 0), (2, [4], 0), (50, [], 0), (63, [8], 0)],
  [(4, [0], 0), (42, [1, 0, 2, 0, 0], 0), (42, [2, 8, 27, 1, 0], 0), (2, [5], 0), (50, [], 0), (64, [8], 0)],
  [(51, [], 0), (8, [3], 1), (63, [2], 0)],
  [(8, [2], 1), (63, [1], 0)],
  [(0, [], 0), (5, [2], 0), (64, [11], 0)],
  [(2, [2], 0), (2, [1], 0), (60, [3, 12], 0), (2, [2], 0), (0, [], 40), (60, [3, 12], 0), (4, [0], 0), (42, [1, 4, 5, 0, 0], 0), (4, [0], 0), (42, [1, 9, 3, 0, 2], 0), (4, [0], 0), (42, [1, 0, 2, 0, 0], 0), (4, [0], 0), (42, [1, 0, 2, 0, 0], 0), (42, [2, 6, 25, 1, 0], 0), (2, [2], 0), (50, [], 0), (80, [175, 4, 5], 0), (4, [0], 0), (42, [1, 4, 5, 0, 0], 0), (4, [0], 0), (42, [1, 10, 3, 0, 3], 0), (4, [0], 0), (42, [1, 0, 2, 0, 0], 0), (4, [0], 0), (42, [1, 0, 2, 0, 0], 0), (42, [2, 6, 25, 1, 0], 0), (2, [2], 0), (50, [], 0), (80, [175, 4, 5], 0), (8, [2], 1), (63, [11], 0)],
  [(72, [], 0)]]
def cd_C_lesser : List (List qm_Ins) := [
  [(4, [0], 0), (42, [1, 9, 3, 0, 2], 0), (42, [3, 3, 13, 1, 0], 0), (2, [1], 0), (50, [], 0), (4, [0], 0), (42, [1, 10, 3, 0, 3], 0), (42, [3, 3, 13, 1, 0], 0), (2, [1], 0), (50, [], 0), (82, [], 0), (70, [], 0)]]
def cd_C_greater : List (List qm_Ins) := [
  [(4, [0], 0), (42, [1, 9, 3, 0, 2], 0), (42, [3, 3, 13, 1, 0], 0), (2, [1], 0), (50, [], 0), (4, [0], 0), (42, [1, 10, 3, 0, 3], 0), (42, [3, 3, 13, 1, 0], 0), (2, [1], 0), (50, [], 0), (81, [], 0), (70, [], 0)]]
def cd_C_nextToMeasure : List (List qm_Ins) := [
  [(0, [], 0), (5, [1], 0), (0, [], -1), (5, [2], 0), (0, [], 0), (5, [3], 0), (64, [1], 0)],
  [(2, [3], 0), (4, [0], 0), (42, [1, 0, 2, 0, 0], 0), (42, [2, 0, 3, 1, 0], 0), (40, [3, 0], 0), (60, [3, 5], 0), (0, [], 0), (5, [4], 0), (64, [2], 0)],
  [(2, [4], 0), (4, [0], 0), (42, [1, 0, 2, 0, 0], 0), (42, [2, 0, 3, 1, 0], 0), (42, [3, 7, 17, 1, 0], 0), (2, [3], 0), (50, [], 0), (60, [3, 4], 0), (2, [3], 0), (2, [4], 0), (80, [54, 2, 0], 0), (5, [5], 0), (4, [0], 0), (2, [5], 0), (80, [31, 2, 1], 0), (4, [0], 0), (2, [5], 0), (80, [30, 2, 1], 0), (11, [], 0), (5, [6], 0), (4, [0], 0), (42, [1, 0, 2, 0, 0], 0), (42, [2, 0, 3, 1, 0], 0), (42, [3, 5, 15, 1, 0], 0), (2, [5], 0), (50, [], 0), (0, [], -1), (60, [1, 3], 0), (2, [6], 0), (2, [1], 0), (60, [5, 3], 0), (2, [6], 0), (5, [1], 0), (0, [], 10), (2, [3], 0), (12, [], 0), (2, [4], 0), (10, [], 0), (5, [2], 0), (64, [3], 0)],
  [(8, [4], 1), (63, [2], 0)],
  [(8, [3], 1), (63, [1], 0)],
  [(2, [2], 0), (70, [], 0)]]
def cd_C_small : List (List qm_Ins) := [
  [(2, [1], 0), (80, [49, 1, 0], 0), (61, [0, 1], 0), (2, [2], 0), (80, [50, 1, 0], 0), (61, [0, 1], 0), (4, [0], 0), (2, [3], 0), (80, [45, 2, 1], 0), (61, [1, 2], 0), (64, [1], 0)],
  [(0, [], -1), (70, [], 0)],
  [(0, [], 20), (5, [4], 0), (64, [3], 0)],
  [(2, [4], 0), (0, [], 1), (60, [2, 7], 0), (4, [0], 0), (42, [1, 9, 3, 0, 2], 0), (4, [0], 0), (42, [1, 0, 2, 0, 0], 0), (42, [2, 0, 3, 1, 0], 0), (80, [184, 2, 3], 0), (4, [0], 0), (42, [1, 9, 3, 0, 2], 0), (80, [187, 1, 3], 0), (4, [0], 0), (42, [1, 9, 3, 0, 2], 0), (0, [], 0), (2, [1], 0), (2, [4], 0), (2, [2], 0), (80, [188, 5, 3], 0), (34, [], 0), (0, [], 0), (5, [5], 0), (64, [4], 0)],
  [(2, [5], 0), (2, [3], 0), (60, [3, 5], 0), (2, [5], 0), (0, [], 40), (60, [3, 5], 0), (4, [0], 0), (42, [1, 4, 5, 0, 0], 0), (4, [0], 0), (42, [1, 9, 3, 0, 2], 0), (4, [0], 0), (42, [1, 0, 2, 0, 0], 0), (4, [0], 0), (42, [1, 0, 2, 0, 0], 0), (42, [2, 6, 25, 1, 0], 0), (2, [5], 0), (50, [], 0), (80, [176, 4, 5], 0), (8, [5], 1), (63, [4], 0)],
  [(4, [0], 0), (42, [1, 9, 3, 0, 2], 0), (42, [3, 3, 13, 1, 0], 0), (0, [], 0), (50, [], 0), (80, [52, 1, 0], 0), (61, [0, 6], 0), (2, [4], 0), (70, [], 0)],
  [(8, [4], -1), (63, [3], 0)],
  [(0, [], -1), (70, [], 0)]]
def cd_C_winter : List (List qm_Ins) := [
  [(2, [1], 0), (0, [], 1), (0, [], 999999), (80, [53, 3, 0], 0), (61, [1, 1], 0), (0, [], -1), (70, [], 0)],
  [(4, [0], 0), (80, [35, 1, 1], 0), (5, [2], 0), (0, [], 0), (5, [3], 0), (0, [], 1), (5, [4], 0), (64, [2], 0)],
  [(2, [4], 0), (2, [2], 0), (60, [4, 4], 0), (2, [3], 0), (4, [0], 0), (2, [2], 0), (80, [36, 2, 1], 0), (10, [], 0), (5, [3], 0), (2, [3], 0), (2, [1], 0), (60, [2, 3], 0), (2, [4], 0), (70, [], 0)],
  [(8, [4], 1), (63, [2], 0)],
  [(0, [], -1), (70, [], 0)]]
def cd_C_listHeats : List (List qm_Ins) := [
  [(0, [], 0), (5, [1], 0), (0, [], 0), (5, [2], 0), (64, [1], 0)],
  [(2, [2], 0), (4, [0], 0), (42, [1, 0, 2, 0, 0], 0), (42, [2, 0, 3, 1, 0], 0), (40, [3, 0], 0), (60, [3, 4], 0), (0, [], 0), (5, [3], 0), (64, [2], 0)],
  [(2, [3], 0), (4, [0], 0), (42, [1, 0, 2, 0, 0], 0), (42, [2, 0, 3, 1, 0], 0), (42, [3, 7, 17, 1, 0], 0), (2, [2], 0), (50, [], 0), (60, [3, 3], 0), (2, [1], 0), (0, [], 48), (60, [3, 3], 0), (4, [0], 0), (42, [1, 12, 53, 0, 0], 0), (2, [1], 0), (4, [0], 0), (42, [1, 4, 5, 0, 0], 0), (4, [0], 0), (42, [1, 0, 2, 0, 0], 0), (42, [2, 0, 3, 1, 0], 0), (2, [2], 0), (2, [3], 0), (80, [167, 4, 5], 0), (51, [], 0), (8, [1], 1), (8, [3], 1), (63, [2], 0)],
  [(8, [2], 1), (63, [1], 0)],
  [(2, [1], 0), (70, [], 0)]]
def cd_C_pullGreatest : List (List qm_Ins) := [
  [(0, [], 0), (5, [2], 0), (0, [], 1), (5, [3], 0), (64, [1], 0)],
  [(2, [3], 0), (2, [1], 0), (60, [3, 3], 0), (4, [0], 0), (42, [1, 12, 53, 0, 0], 0), (2, [3], 0), (50, [], 0), (4, [0], 0), (42, [1, 12, 53, 0, 0], 0), (2, [2], 0), (50, [], 0), (60, [5, 2], 0), (2, [3], 0), (5, [2], 0), (64, [2], 0)],
  [(8, [3], 1), (63, [1], 0)],
  [(4, [0], 0), (42, [1, 12, 53, 0, 0], 0), (2, [2], 0), (50, [], 0), (5, [3], 0), (4, [0], 0), (42, [1, 12, 53, 0, 0], 0), (2, [2], 0), (0, [], 0), (51, [], 0), (2, [3], 0), (70, [], 0)]]
def cd_C_remember : List (List qm_Ins) := [
  [(4, [0], 0), (42, [1, 0, 2, 0, 0], 0), (42, [2, 0, 3, 1, 0], 0), (42, [3, 7, 17, 1, 0], 0), (0, [], 0), (4, [0], 0), (42, [1, 0, 2, 0, 0], 0), (42, [2, 9, 28, 1, 0], 0), (0, [], 0), (0, [], 6), (86, [], 0), (4, [0], 0), (42, [1, 0, 2, 0, 0], 0), (0, [], 1), (47, [2, 10], 0), (4, [0], 0), (42, [1, 0, 2, 0, 0], 0), (42, [2, 0, 3, 1, 0], 0), (80, [192, 1, 3], 0), (70, [], 0)]]
def cd_C_missing : List (List qm_Ins) := [
  [(4, [0], 0), (42, [1, 0, 2, 0, 0], 0), (40, [2, 10], 0), (61, [1, 1], 0), (0, [], -1), (70, [], 0)],
  [(2, [2], 0), (61, [1, 2], 0), (2, [1], 0), (0, [], 0), (4, [0], 0), (42, [1, 0, 2, 0, 0], 0), (42, [2, 0, 3, 1, 0], 0), (40, [3, 0], 0), (0, [], 1), (11, [], 0), (80, [53, 3, 0], 0), (61, [0, 2], 0), (4, [0], 0), (2, [1], 0), (80, [39, 2, 1], 0), (70, [], 0)],
  [(2, [1], 0), (0, [], -1), (60, [1, 3], 0), (2, [2], 0), (0, [], 1), (0, [], 48), (80, [53, 3, 0], 0), (61, [1, 4], 0), (64, [3], 0)],
  [(0, [], -1), (70, [], 0)],
  [(0, [], 0), (5, [3], 0), (0, [], 0), (5, [4], 0), (64, [5], 0)],
  [(2, [4], 0), (4, [0], 0), (42, [1, 0, 2, 0, 0], 0), (42, [2, 0, 3, 1, 0], 0), (40, [3, 0], 0), (60, [3, 6], 0), (2, [3], 0), (4, [0], 0), (2, [4], 0), (80, [39, 2, 1], 0), (10, [], 0), (5, [3], 0), (8, [4], 1), (63, [5], 0)],
  [(2, [3], 0), (2, [2], 0), (10, [], 0), (0, [], 1), (11, [], 0), (2, [2], 0), (13, [], 0), (70, [], 0)]]
def cd_C_missingOf : List (List qm_Ins) := [
  [(0, [], 0), (4, [0], 0), (42, [1, 0, 2, 0, 0], 0), (42, [2, 9, 28, 1, 0], 0), (2, [1], 0), (50, [], 0), (4, [0], 0), (42, [1, 0, 2, 0, 0], 0), (42, [2, 0, 3, 1, 0], 0), (42, [3, 7, 17, 1, 0], 0), (2, [1], 0), (50, [], 0), (11, [], 0), (81, [], 0), (70, [], 0)]]
def cd_C_falls : List (List qm_Ins) := [
  [(2, [1], 0), (0, [], 0), (0, [], 9999), (80, [53, 3, 0], 0), (61, [0, 1], 0), (2, [2], 0), (0, [], 1), (0, [], 20), (80, [53, 3, 0], 0), (61, [0, 1], 0), (2, [3], 0), (0, [], 1), (0, [], 40), (80, [53, 3, 0], 0), (61, [0, 1], 0), (0, [], 1), (63, [2], 0)],
  [(0, [], 0), (64, [2], 0)],
  [(5, [4], 0), (2, [4], 0), (61, [0, 3], 0), (2, [1], 0), (2, [2], 0), (10, [], 0), (0, [], 1), (11, [], 0), (0, [], 9999), (60, [4, 3], 0), (4, [0], 0), (2, [3], 0), (80, [46, 2, 1], 0), (61, [1, 4], 0), (64, [3], 0)],
  [(0, [], -1), (70, [], 0)],
  [(0, [], 0), (5, [5], 0), (0, [], 0), (5, [6], 0), (64, [5], 0)],
  [(2, [6], 0), (2, [2], 0), (60, [3, 8], 0), (2, [5], 0), (4, [0], 0), (2, [1], 0), (2, [6], 0), (10, [], 0), (2, [3], 0), (80, [41, 3, 1], 0), (61, [0, 6], 0), (0, [], 1), (63, [7], 0)],
  [(0, [], 0), (64, [7], 0)],
  [(10, [], 0), (5, [5], 0), (8, [6], 1), (63, [5], 0)],
  [(2, [5], 0), (70, [], 0)]]
def cd_C_fallsBy : List (List qm_Ins) := [
  [(4, [0], 0), (42, [1, 9, 3, 0, 2], 0), (4, [0], 0), (42, [1, 0, 2, 0, 0], 0), (42, [2, 0, 3, 1, 0], 0), (80, [184, 2, 3], 0), (2, [1], 0), (0, [], 7), (12, [], 0), (0, [], 4), (10, [], 0), (5, [3], 0), (0, [], 0), (5, [4], 0), (64, [1], 0)],
  [(2, [4], 0), (2, [2], 0), (60, [3, 2], 0), (4, [0], 0), (42, [1, 0, 2, 0, 0], 0), (40, [2, 5], 0), (61, [5, 2], 0), (4, [0], 0), (42, [1, 9, 3, 0, 2], 0), (80, [185, 1, 3], 0), (61, [1, 2], 0), (4, [0], 0), (42, [1, 4, 5, 0, 0], 0), (4, [0], 0), (42, [1, 9, 3, 0, 2], 0), (4, [0], 0), (42, [1, 0, 2, 0, 0], 0), (2, [3], 0), (4, [0], 0), (42, [1, 0, 2, 0, 0], 0), (40, [2, 5], 0), (14, [], 0), (80, [175, 4, 5], 0), (2, [3], 0), (0, [], 163), (12, [], 0), (0, [], 31), (10, [], 0), (0, [], 30097), (14, [], 0), (5, [3], 0), (8, [4], 1), (63, [1], 0)],
  [(4, [0], 0), (42, [1, 9, 3, 0, 2], 0), (80, [185, 1, 3], 0), (73, [], 0)]]
def cd_C_image : List (List qm_Ins) := [
  [(4, [0], 0), (42, [1, 1, 2, 0, 1], 0), (4, [0], 0), (42, [1, 0, 2, 0, 0], 0), (80, [239, 2, 2], 0), (4, [0], 0), (42, [1, 0, 2, 0, 0], 0), (42, [2, 0, 3, 1, 0], 0), (80, [192, 1, 3], 0), (70, [], 0)]]
def cd_C_back : List (List qm_Ins) := [
  [(4, [0], 0), (42, [1, 0, 2, 0, 0], 0), (4, [0], 0), (42, [1, 1, 2, 0, 1], 0), (80, [239, 2, 2], 0), (4, [0], 0), (80, [14, 1, 1], 0), (4, [0], 0), (42, [1, 0, 2, 0, 0], 0), (42, [2, 0, 3, 1, 0], 0), (80, [192, 1, 3], 0), (70, [], 0)]]
def cd_C_about : List (List qm_Ins) := [
  [(2, [1], 0), (0, [], 10), (0, [], 49), (80, [53, 3, 0], 0), (61, [0, 1], 0), (4, [0], 0), (42, [1, 0, 2, 0, 0], 0), (42, [2, 6, 25, 1, 0], 0), (2, [1], 0), (0, [], 10), (11, [], 0), (50, [], 0), (70, [], 0)],
  [(2, [1], 0), (65, [11, 2, 3, 4, 5, 6, 7, 8, 9, 10], 0)],
  [(4, [0], 0), (42, [1, 0, 2, 0, 0], 0), (42, [2, 0, 3, 1, 0], 0), (40, [3, 0], 0), (70, [], 0)],
  [(4, [0], 0), (42, [1, 0, 2, 0, 0], 0), (42, [2, 0, 3, 1, 0], 0), (40, [3, 8], 0), (70, [], 0)],
  [(4, [0], 0), (42, [1, 0, 2, 0, 0], 0), (40, [2, 5], 0), (70, [], 0)],
  [(4, [0], 0), (42, [1, 0, 2, 0, 0], 0), (40, [2, 11], 0), (70, [], 0)],
  [(4, [0], 0), (42, [1, 0, 2, 0, 0], 0), (40, [2, 12], 0), (70, [], 0)],
  [(4, [0], 0), (42, [1, 0, 2, 0, 0], 0), (42, [2, 0, 3, 1, 0], 0), (40, [3, 10], 0), (70, [], 0)],
  [(4, [0], 0), (42, [1, 0, 2, 0, 0], 0), (42, [2, 0, 3, 1, 0], 0), (40, [3, 11], 0), (70, [], 0)],
  [(4, [0], 0), (42, [1, 0, 2, 0, 0], 0), (42, [2, 0, 3, 1, 0], 0), (40, [3, 12], 0), (70, [], 0)],
  [(4, [0], 0), (40, [1, 7], 0), (70, [], 0)],
  [(0, [], -1), (70, [], 0)]]
def cd_C_canTry : List (List qm_Ins) := [
  [(2, [1], 0), (61, [0, 1], 0), (2, [1], 0), (0, [], 1), (0, [], 40), (80, [53, 3, 0], 0), (61, [0, 2], 0), (4, [0], 0), (2, [1], 0), (80, [46, 2, 1], 0), (61, [0, 2], 0), (64, [1], 0)],
  [(0, [], 1), (63, [3], 0)],
  [(0, [], 0), (64, [3], 0)],
  [(73, [], 0)]]
def cd_C_canPass : List (List qm_Ins) := [
  [(4, [0], 0), (42, [1, 0, 2, 0, 0], 0), (40, [2, 5], 0), (61, [5, 1], 0), (4, [0], 0), (42, [1, 0, 2, 0, 0], 0), (42, [2, 0, 3, 1, 0], 0), (40, [3, 8], 0), (2, [1], 0), (10, [], 0), (0, [], 399), (60, [4, 1], 0), (0, [], 1), (63, [2], 0)],
  [(0, [], 0), (64, [2], 0)],
  [(73, [], 0)]]
def cd_C_isWeather : List (List qm_Ins) := [
  [(2, [1], 0), (0, [], 0), (4, [0], 0), (42, [1, 0, 2, 0, 0], 0), (40, [2, 5], 0), (0, [], 1), (11, [], 0), (80, [53, 3, 0], 0), (73, [], 0)]]
def cd_C_isText : List (List qm_Ins) := [
  [(2, [1], 0), (0, [], 0), (4, [0], 0), (42, [1, 0, 2, 0, 0], 0), (40, [2, 11], 0), (0, [], 1), (11, [], 0), (80, [53, 3, 0], 0), (73, [], 0)]]
def cd_C_isKind : List (List qm_Ins) := [
  [(2, [0], 0), (0, [], 0), (0, [], 3), (80, [53, 3, 0], 0), (73, [], 0)]]
def cd_C_isWater : List (List qm_Ins) := [
  [(2, [0], 0), (0, [], 0), (0, [], 2000), (80, [53, 3, 0], 0), (73, [], 0)]]
def cd_C_isSpan : List (List qm_Ins) := [
  [(2, [0], 0), (80, [50, 1, 0], 0), (61, [0, 1], 0), (2, [1], 0), (80, [50, 1, 0], 0), (61, [0, 1], 0), (2, [0], 0), (2, [1], 0), (60, [4, 1], 0), (0, [], 1), (63, [2], 0)],
  [(0, [], 0), (64, [2], 0)],
  [(73, [], 0)]]
def cd_C_isDry : List (List qm_Ins) := [
  [(2, [0], 0), (0, [], 200), (60, [4, 1], 0), (0, [], 1), (63, [2], 0)],
  [(0, [], 0), (64, [2], 0)],
  [(73, [], 0)]]
def cd_C_within : List (List qm_Ins) := [
  [(2, [0], 0), (2, [1], 0), (60, [2, 1], 0), (2, [0], 0), (2, [2], 0), (60, [4, 1], 0), (0, [], 1), (63, [2], 0)],
  [(0, [], 0), (64, [2], 0)],
  [(73, [], 0)]]
def cd_C_placeOf : List (List qm_Ins) := [
  [(2, [0], 0), (0, [], 8), (12, [], 0), (2, [1], 0), (10, [], 0), (70, [], 0)]]
def cd_M_copy : List (List qm_Ins) := [
  [(0, [], 0), (5, [3], 0), (64, [1], 0)],
  [(2, [3], 0), (0, [], 420), (60, [3, 2], 0), (4, [0], 0), (42, [9, 0, 61, 0, 0], 0), (0, [], 420), (2, [2], 0), (12, [], 0), (2, [3], 0), (10, [], 0), (4, [0], 0), (42, [9, 0, 61, 0, 0], 0), (0, [], 420), (2, [1], 0), (12, [], 0), (2, [3], 0), (10, [], 0), (50, [], 0), (51, [], 0), (8, [3], 1), (63, [1], 0)],
  [(72, [], 0)]]
def cd_M_isIn : List (List qm_Ins) := [
  [(2, [0], 0), (2, [1], 0), (60, [2, 1], 0), (2, [0], 0), (2, [2], 0), (60, [4, 1], 0), (0, [], 1), (63, [2], 0)],
  [(0, [], 0), (64, [2], 0)],
  [(73, [], 0)]]
def cd_M_held : List (List qm_Ins) := [
  [(3, [0], 0), (2, [2], 0), (30, [], 0), (29, [], 0), (61, [3, 1], 0), (2, [2], 0), (63, [3], 0)],
  [(3, [0], 0), (2, [3], 0), (30, [], 0), (29, [], 0), (61, [5, 2], 0), (2, [3], 0), (63, [3], 0)],
  [(3, [0], 0), (31, [], 0), (64, [3], 0)],
  [(70, [], 0)]]
def cd_M_count : List (List qm_Ins) := [
  [(4, [0], 0), (42, [9, 0, 61, 0, 0], 0), (4, [0], 0), (40, [9, 2], 0), (0, [], 120), (10, [], 0), (2, [1], 0), (10, [], 0), (50, [], 0), (70, [], 0)]]
def cd_M_at0 : List (List qm_Ins) := [
  [(4, [0], 0), (40, [9, 2], 0), (0, [], 130), (10, [], 0), (0, [], 6), (0, [], 8), (2, [1], 0), (12, [], 0), (2, [2], 0), (10, [], 0), (12, [], 0), (10, [], 0), (70, [], 0)]]
def cd_M_isColumn : List (List qm_Ins) := [
  [(2, [1], 0), (0, [], 0), (4, [0], 0), (40, [9, 1], 0), (0, [], 1), (11, [], 0), (80, [57, 3, 0], 0), (73, [], 0)]]
def cd_M_isSplit : List (List qm_Ins) := [
  [(4, [0], 0), (2, [1], 0), (80, [61, 2, 9], 0), (61, [0, 1], 0), (2, [2], 0), (0, [], 0), (4, [0], 0), (2, [1], 0), (80, [59, 2, 9], 0), (0, [], 1), (11, [], 0), (80, [57, 3, 0], 0), (61, [0, 1], 0), (0, [], 1), (63, [2], 0)],
  [(0, [], 0), (64, [2], 0)],
  [(73, [], 0)]]
def cd_M_splits : List (List qm_Ins) := [
  [(0, [], 0), (5, [1], 0), (0, [], 0), (5, [2], 0), (64, [1], 0)],
  [(2, [2], 0), (4, [0], 0), (40, [9, 1], 0), (60, [3, 2], 0), (2, [1], 0), (4, [0], 0), (2, [2], 0), (80, [59, 2, 9], 0), (10, [], 0), (5, [1], 0), (8, [2], 1), (63, [1], 0)],
  [(2, [1], 0), (70, [], 0)]]
def cd_M_lay : List (List qm_Ins) := [
  [(4, [0], 0), (2, [1], 0), (80, [61, 2, 9], 0), (61, [0, 1], 0), (2, [2], 0), (0, [], 0), (0, [], 3), (80, [57, 3, 0], 0), (61, [0, 1], 0), (2, [3], 0), (0, [], 1), (0, [], 20), (80, [57, 3, 0], 0), (61, [0, 1], 0), (2, [4], 0), (0, [], 0), (0, [], 2000), (80, [57, 3, 0], 0), (61, [0, 1], 0), (4, [0], 0), (2, [1], 0), (80, [59, 2, 9], 0), (0, [], 8), (60, [0, 1], 0), (4, [0], 0), (42, [9, 0, 61, 0, 0], 0), (0, [], 7), (50, [], 0), (61, [2, 2], 0), (64, [1], 0)],
  [(0, [], -1), (70, [], 0)],
  [(4, [0], 0), (2, [1], 0), (2, [2], 0), (2, [3], 0), (2, [4], 0), (80, [65, 5, 9], 0), (4, [0], 0), (2, [1], 0), (80, [59, 2, 9], 0), (0, [], 1), (11, [], 0), (70, [], 0)]]
def cd_M_put : List (List qm_Ins) := [
  [(4, [0], 0), (2, [1], 0), (4, [0], 0), (2, [1], 0), (80, [59, 2, 9], 0), (80, [60, 3, 9], 0), (5, [5], 0), (4, [0], 0), (42, [9, 0, 61, 0, 0], 0), (2, [5], 0), (2, [2], 0), (51, [], 0), (4, [0], 0), (42, [9, 0, 61, 0, 0], 0), (2, [5], 0), (0, [], 1), (10, [], 0), (2, [3], 0), (51, [], 0), (4, [0], 0), (42, [9, 0, 61, 0, 0], 0), (2, [5], 0), (0, [], 2), (10, [], 0), (2, [4], 0), (51, [], 0), (4, [0], 0), (42, [9, 0, 61, 0, 0], 0), (2, [5], 0), (0, [], 3), (10, [], 0), (0, [], 1), (51, [], 0), (4, [0], 0), (42, [9, 0, 61, 0, 0], 0), (2, [5], 0), (0, [], 4), (10, [], 0), (0, [], -1), (51, [], 0), (4, [0], 0), (42, [9, 0, 61, 0, 0], 0), (2, [5], 0), (0, [], 5), (10, [], 0), (0, [], -1), (51, [], 0), (4, [0], 0), (42, [9, 0, 61, 0, 0], 0), (4, [0], 0), (40, [9, 2], 0), (0, [], 120), (10, [], 0), (2, [1], 0), (10, [], 0), (33, [], 0), (50, [], 0), (0, [], 1), (10, [], 0), (51, [], 0), (72, [], 0)]]
def cd_M_bark : List (List qm_Ins) := [
  [(4, [0], 0), (2, [1], 0), (2, [2], 0), (80, [62, 3, 9], 0), (61, [1, 1], 0), (0, [], 0), (73, [], 0)],
  [(4, [0], 0), (42, [9, 0, 61, 0, 0], 0), (4, [0], 0), (2, [1], 0), (2, [2], 0), (80, [60, 3, 9], 0), (0, [], 3), (10, [], 0), (2, [3], 0), (61, [0, 2], 0), (0, [], 1), (63, [3], 0)],
  [(0, [], 0), (64, [3], 0)],
  [(51, [], 0), (0, [], 1), (73, [], 0)]]
def cd_M_isSpan : List (List qm_Ins) := [
  [(2, [0], 0), (0, [], 0), (2, [1], 0), (80, [57, 3, 0], 0), (61, [0, 1], 0), (2, [1], 0), (2, [0], 0), (0, [], 2000), (80, [57, 3, 0], 0), (61, [0, 1], 0), (0, [], 1), (63, [2], 0)],
  [(0, [], 0), (64, [2], 0)],
  [(73, [], 0)]]
def cd_M_measure : List (List qm_Ins) := [
  [(4, [0], 0), (2, [1], 0), (2, [2], 0), (80, [62, 3, 9], 0), (61, [0, 1], 0), (2, [3], 0), (0, [], -1), (60, [0, 2], 0), (2, [3], 0), (2, [4], 0), (80, [67, 2, 0], 0), (61, [1, 2], 0), (64, [1], 0)],
  [(0, [], 0), (73, [], 0)],
  [(4, [0], 0), (42, [9, 0, 61, 0, 0], 0), (4, [0], 0), (2, [1], 0), (2, [2], 0), (80, [60, 3, 9], 0), (0, [], 4), (10, [], 0), (2, [3], 0), (51, [], 0), (4, [0], 0), (42, [9, 0, 61, 0, 0], 0), (4, [0], 0), (2, [1], 0), (2, [2], 0), (80, [60, 3, 9], 0), (0, [], 5), (10, [], 0), (2, [3], 0), (0, [], -1), (60, [1, 3], 0), (0, [], -1), (63, [4], 0)],
  [(2, [4], 0), (64, [4], 0)],
  [(51, [], 0), (0, [], 1), (73, [], 0)]]
def cd_M_span : List (List qm_Ins) := [
  [(2, [1], 0), (0, [], 0), (0, [], 3), (80, [57, 3, 0], 0), (61, [0, 1], 0), (2, [2], 0), (2, [3], 0), (80, [67, 2, 0], 0), (61, [1, 2], 0), (64, [1], 0)],
  [(0, [], 0), (73, [], 0)],
  [(4, [0], 0), (42, [9, 0, 61, 0, 0], 0), (0, [], 10), (0, [], 2), (2, [1], 0), (12, [], 0), (10, [], 0), (2, [2], 0), (51, [], 0), (4, [0], 0), (42, [9, 0, 61, 0, 0], 0), (0, [], 10), (0, [], 2), (2, [1], 0), (12, [], 0), (10, [], 0), (0, [], 1), (10, [], 0), (2, [3], 0), (51, [], 0), (0, [], 1), (73, [], 0)]]
def cd_M_weather : List (List qm_Ins) := [
  [(2, [1], 0), (0, [], 0), (0, [], 9), (80, [57, 3, 0], 0), (61, [0, 1], 0), (2, [2], 0), (0, [], 0), (0, [], 9), (80, [57, 3, 0], 0), (61, [0, 1], 0), (2, [3], 0), (0, [], 0), (0, [], 9), (80, [57, 3, 0], 0), (61, [0, 1], 0), (2, [4], 0), (0, [], 0), (0, [], 40), (80, [57, 3, 0], 0), (61, [0, 1], 0), (4, [0], 0), (42, [9, 0, 61, 0, 0], 0), (0, [], 1), (50, [], 0), (0, [], 12), (60, [1, 2], 0), (64, [1], 0)],
  [(0, [], -1), (70, [], 0)],
  [(0, [], 20), (0, [], 4), (4, [0], 0), (42, [9, 0, 61, 0, 0], 0), (0, [], 1), (50, [], 0), (12, [], 0), (10, [], 0), (5, [5], 0), (4, [0], 0), (42, [9, 0, 61, 0, 0], 0), (2, [5], 0), (2, [1], 0), (51, [], 0), (4, [0], 0), (42, [9, 0, 61, 0, 0], 0), (2, [5], 0), (0, [], 1), (10, [], 0), (2, [2], 0), (51, [], 0), (4, [0], 0), (42, [9, 0, 61, 0, 0], 0), (2, [5], 0), (0, [], 2), (10, [], 0), (2, [3], 0), (51, [], 0), (4, [0], 0), (42, [9, 0, 61, 0, 0], 0), (2, [5], 0), (0, [], 3), (10, [], 0), (2, [4], 0), (51, [], 0), (4, [0], 0), (42, [9, 0, 61, 0, 0], 0), (0, [], 1), (33, [], 0), (50, [], 0), (0, [], 1), (10, [], 0), (51, [], 0), (4, [0], 0), (42, [9, 0, 61, 0, 0], 0), (0, [], 1), (50, [], 0), (0, [], 1), (11, [], 0), (70, [], 0)]]
def cd_M_isWeather : List (List qm_Ins) := [
  [(2, [1], 0), (0, [], 0), (4, [0], 0), (42, [9, 0, 61, 0, 0], 0), (0, [], 1), (50, [], 0), (0, [], 1), (11, [], 0), (80, [57, 3, 0], 0), (73, [], 0)]]
def cd_M_plan : List (List qm_Ins) := [
  [(2, [1], 0), (0, [], 0), (0, [], 39), (80, [57, 3, 0], 0), (61, [0, 1], 0), (4, [0], 0), (2, [2], 0), (80, [71, 2, 9], 0), (61, [1, 2], 0), (64, [1], 0)],
  [(0, [], 0), (73, [], 0)],
  [(4, [0], 0), (42, [9, 0, 61, 0, 0], 0), (0, [], 70), (2, [1], 0), (10, [], 0), (2, [2], 0), (51, [], 0), (0, [], 1), (73, [], 0)]]
def cd_M_ends : List (List qm_Ins) := [
  [(2, [1], 0), (0, [], 0), (0, [], 9), (80, [57, 3, 0], 0), (61, [0, 1], 0), (2, [3], 0), (0, [], 0), (0, [], 1), (80, [57, 3, 0], 0), (61, [1, 2], 0), (64, [1], 0)],
  [(0, [], 0), (73, [], 0)],
  [(4, [0], 0), (42, [9, 0, 61, 0, 0], 0), (0, [], 4), (2, [1], 0), (51, [], 0), (4, [0], 0), (42, [9, 0, 61, 0, 0], 0), (0, [], 5), (2, [2], 0), (61, [0, 3], 0), (0, [], 1), (63, [4], 0)],
  [(0, [], 0), (64, [4], 0)],
  [(51, [], 0), (4, [0], 0), (42, [9, 0, 61, 0, 0], 0), (0, [], 6), (2, [3], 0), (51, [], 0), (0, [], 1), (73, [], 0)]]
def cd_M_four : List (List qm_Ins) := [
  [(0, [], 24), (5, [2], 0), (64, [1], 0)],
  [(2, [2], 0), (61, [2, 2], 0), (4, [0], 0), (42, [9, 4, 63, 0, 0], 0), (4, [0], 0), (40, [9, 5], 0), (2, [1], 0), (2, [2], 0), (19, [], 0), (0, [], 255), (16, [], 0), (51, [], 0), (4, [0], 0), (32, [], 0), (40, [9, 5], 0), (0, [], 1), (10, [], 0), (44, [9, 5], 0), (8, [2], -8), (63, [1], 0)],
  [(72, [], 0)]]
def cd_M_feed : List (List qm_Ins) := [
  [(4, [0], 0), (40, [9, 5], 0), (0, [], 20), (10, [], 0), (0, [], 300), (60, [5, 1], 0), (0, [], -1), (70, [], 0)],
  [(4, [0], 0), (2, [1], 0), (80, [74, 2, 9], 0), (4, [0], 0), (2, [2], 0), (80, [74, 2, 9], 0), (4, [0], 0), (2, [3], 0), (80, [74, 2, 9], 0), (4, [0], 0), (2, [4], 0), (80, [74, 2, 9], 0), (4, [0], 0), (2, [5], 0), (80, [74, 2, 9], 0), (4, [0], 0), (40, [9, 5], 0), (70, [], 0)]]
def cd_M_end : List (List qm_Ins) := [
  [(2, [1], 0), (0, [], 0), (4, [0], 0), (40, [9, 5], 0), (80, [57, 3, 0], 0), (61, [1, 1], 0), (0, [], -1), (70, [], 0)],
  [(4, [0], 0), (2, [1], 0), (44, [9, 5], 0), (2, [1], 0), (70, [], 0)]]
def cd_M_byteAt : List (List qm_Ins) := [
  [(2, [1], 0), (4, [0], 0), (40, [9, 5], 0), (60, [3, 1], 0), (4, [0], 0), (42, [9, 4, 63, 0, 0], 0), (2, [1], 0), (50, [], 0), (63, [2], 0)],
  [(0, [], -1), (64, [2], 0)],
  [(70, [], 0)]]
def cd_M_isLetter : List (List qm_Ins) := [
  [(2, [0], 0), (0, [], 97), (0, [], 122), (80, [57, 3, 0], 0), (61, [1, 1], 0), (2, [0], 0), (0, [], 65), (0, [], 90), (80, [57, 3, 0], 0), (61, [0, 2], 0), (64, [1], 0)],
  [(0, [], 1), (63, [3], 0)],
  [(0, [], 0), (64, [3], 0)],
  [(73, [], 0)]]
def cd_M_isDigit : List (List qm_Ins) := [
  [(2, [0], 0), (0, [], 48), (0, [], 57), (80, [57, 3, 0], 0), (73, [], 0)]]
def cd_M_nextToken : List (List qm_Ins) := [
  [(4, [0], 0), (4, [0], 0), (40, [9, 8], 0), (80, [77, 2, 9], 0), (0, [], 32), (60, [0, 1], 0), (4, [0], 0), (4, [0], 0), (40, [9, 8], 0), (80, [77, 2, 9], 0), (0, [], 10), (60, [1, 2], 0), (64, [1], 0)],
  [(4, [0], 0), (32, [], 0), (40, [9, 8], 0), (0, [], 1), (10, [], 0), (44, [9, 8], 0), (63, [0], 0)],
  [(4, [0], 0), (4, [0], 0), (40, [9, 8], 0), (44, [9, 9], 0), (4, [0], 0), (4, [0], 0), (40, [9, 8], 0), (80, [77, 2, 9], 0), (5, [1], 0), (2, [1], 0), (61, [3, 3], 0), (4, [0], 0), (0, [], 0), (44, [9, 10], 0), (63, [19], 0)],
  [(2, [1], 0), (80, [79, 1, 0], 0), (61, [0, 6], 0), (4, [0], 0), (0, [], 1), (44, [9, 10], 0), (4, [0], 0), (0, [], 0), (44, [9, 11], 0), (64, [4], 0)],
  [(4, [0], 0), (4, [0], 0), (40, [9, 8], 0), (80, [77, 2, 9], 0), (80, [79, 1, 0], 0), (61, [0, 19], 0), (4, [0], 0), (40, [9, 11], 0), (0, [], 100000), (60, [3, 5], 0), (4, [0], 0), (0, [], 10), (4, [0], 0), (40, [9, 11], 0), (12, [], 0), (4, [0], 0), (4, [0], 0), (40, [9, 8], 0), (80, [77, 2, 9], 0), (10, [], 0), (0, [], 48), (11, [], 0), (44, [9, 11], 0), (64, [5], 0)],
  [(4, [0], 0), (32, [], 0), (40, [9, 8], 0), (0, [], 1), (10, [], 0), (44, [9, 8], 0), (63, [4], 0)],
  [(2, [1], 0), (80, [78, 1, 0], 0), (61, [0, 10], 0), (4, [0], 0), (0, [], 2), (44, [9, 10], 0), (4, [0], 0), (1, [], 0), (45, [9, 12], 0), (64, [7], 0)],
  [(4, [0], 0), (4, [0], 0), (40, [9, 8], 0), (80, [77, 2, 9], 0), (80, [78, 1, 0], 0), (61, [0, 9], 0), (4, [0], 0), (40, [9, 8], 0), (4, [0], 0), (40, [9, 9], 0), (11, [], 0), (0, [], 7), (60, [3, 8], 0), (4, [0], 0), (4, [0], 0), (41, [9, 12], 0), (0, [], 8), (28, [], 0), (4, [0], 0), (4, [0], 0), (40, [9, 8], 0), (80, [77, 2, 9], 0), (30, [], 0), (27, [], 0), (45, [9, 12], 0), (64, [8], 0)],
  [(4, [0], 0), (32, [], 0), (40, [9, 8], 0), (0, [], 1), (10, [], 0), (44, [9, 8], 0), (63, [7], 0)],
  [(4, [0], 0), (40, [9, 8], 0), (4, [0], 0), (40, [9, 9], 0), (11, [], 0), (0, [], 7), (60, [5, 19], 0), (4, [0], 0), (1, [], 0), (45, [9, 12], 0), (63, [19], 0)],
  [(4, [0], 0), (32, [], 0), (40, [9, 8], 0), (0, [], 1), (10, [], 0), (44, [9, 8], 0), (2, [1], 0), (0, [], 60), (60, [0, 11], 0), (2, [1], 0), (0, [], 62), (60, [0, 11], 0), (2, [1], 0), (0, [], 61), (60, [0, 11], 0), (2, [1], 0), (0, [], 35), (60, [0, 11], 0), (2, [1], 0), (0, [], 43), (60, [0, 11], 0), (2, [1], 0), (0, [], 45), (60, [0, 11], 0), (2, [1], 0), (0, [], 42), (60, [0, 11], 0), (2, [1], 0), (0, [], 47), (60, [0, 11], 0), (2, [1], 0), (0, [], 40), (60, [0, 11], 0), (2, [1], 0), (0, [], 41), (60, [0, 11], 0), (2, [1], 0), (0, [], 59), (60, [0, 11], 0), (2, [1], 0), (0, [], 44), (60, [1, 12], 0), (64, [11], 0)],
  [(0, [], 1), (63, [13], 0)],
  [(0, [], 0), (64, [13], 0)],
  [(5, [2], 0), (4, [0], 0), (2, [2], 0), (61, [0, 14], 0), (2, [1], 0), (63, [15], 0)],
  [(0, [], 3), (64, [15], 0)],
  [(44, [9, 10], 0), (2, [1], 0), (0, [], 60), (60, [0, 16], 0), (2, [1], 0), (0, [], 62), (60, [1, 19], 0), (64, [16], 0)],
  [(4, [0], 0), (4, [0], 0), (40, [9, 8], 0), (80, [77, 2, 9], 0), (0, [], 61), (60, [1, 19], 0), (4, [0], 0), (32, [], 0), (40, [9, 8], 0), (0, [], 1), (10, [], 0), (44, [9, 8], 0), (4, [0], 0), (2, [1], 0), (0, [], 60), (60, [1, 17], 0), (0, [], 4), (63, [18], 0)],
  [(0, [], 5), (64, [18], 0)],
  [(44, [9, 10], 0), (64, [19], 0)],
  [(72, [], 0)]]
def cd_M_w3 : List (List qm_Ins) := [
  [(2, [0], 0), (30, [], 0), (0, [], 8), (28, [], 0), (2, [1], 0), (30, [], 0), (27, [], 0), (0, [], 8), (28, [], 0), (2, [2], 0), (30, [], 0), (27, [], 0), (71, [], 0)]]
def cd_M_w5 : List (List qm_Ins) := [
  [(2, [0], 0), (2, [1], 0), (2, [2], 0), (80, [81, 3, 0], 0), (0, [], 8), (28, [], 0), (2, [3], 0), (30, [], 0), (27, [], 0), (0, [], 8), (28, [], 0), (2, [4], 0), (30, [], 0), (27, [], 0), (71, [], 0)]]
def cd_M_w4 : List (List qm_Ins) := [
  [(2, [0], 0), (2, [1], 0), (2, [2], 0), (80, [81, 3, 0], 0), (0, [], 8), (28, [], 0), (2, [3], 0), (30, [], 0), (27, [], 0), (71, [], 0)]]
def cd_M_w6 : List (List qm_Ins) := [
  [(2, [0], 0), (2, [1], 0), (2, [2], 0), (2, [3], 0), (2, [4], 0), (80, [82, 5, 0], 0), (0, [], 8), (28, [], 0), (2, [5], 0), (30, [], 0), (27, [], 0), (71, [], 0)]]
def cd_M_isWord : List (List qm_Ins) := [
  [(4, [0], 0), (40, [9, 10], 0), (0, [], 2), (60, [1, 1], 0), (4, [0], 0), (41, [9, 12], 0), (3, [1], 0), (29, [], 0), (61, [1, 1], 0), (0, [], 1), (63, [2], 0)],
  [(0, [], 0), (64, [2], 0)],
  [(73, [], 0)]]
def cd_M_emit : List (List qm_Ins) := [
  [(4, [0], 0), (42, [9, 3, 62, 0, 0], 0), (4, [0], 0), (40, [9, 13], 0), (0, [], 110), (10, [], 0), (0, [], 2), (4, [0], 0), (40, [9, 15], 0), (12, [], 0), (10, [], 0), (2, [1], 0), (51, [], 0), (4, [0], 0), (42, [9, 3, 62, 0, 0], 0), (4, [0], 0), (40, [9, 13], 0), (0, [], 110), (10, [], 0), (0, [], 2), (4, [0], 0), (40, [9, 15], 0), (12, [], 0), (10, [], 0), (0, [], 1), (10, [], 0), (2, [2], 0), (51, [], 0), (4, [0], 0), (32, [], 0), (40, [9, 15], 0), (0, [], 1), (10, [], 0), (44, [9, 15], 0), (72, [], 0)]]
def cd_M_push : List (List qm_Ins) := [
  [(4, [0], 0), (42, [9, 17, 64, 0, 0], 0), (4, [0], 0), (40, [9, 18], 0), (2, [1], 0), (51, [], 0), (4, [0], 0), (32, [], 0), (40, [9, 18], 0), (0, [], 1), (10, [], 0), (44, [9, 18], 0), (72, [], 0)]]
def cd_M_rank : List (List qm_Ins) := [
  [(2, [0], 0), (0, [], 40), (60, [2, 1], 0), (0, [], 0), (63, [8], 0)],
  [(2, [0], 0), (0, [], 22), (60, [1, 2], 0), (0, [], 1), (63, [8], 0)],
  [(2, [0], 0), (0, [], 21), (60, [1, 3], 0), (0, [], 2), (63, [8], 0)],
  [(2, [0], 0), (0, [], 20), (60, [1, 4], 0), (0, [], 3), (63, [8], 0)],
  [(2, [0], 0), (0, [], 10), (60, [2, 5], 0), (0, [], 4), (63, [8], 0)],
  [(2, [0], 0), (0, [], 2), (60, [1, 6], 0), (0, [], 7), (63, [8], 0)],
  [(2, [0], 0), (0, [], 5), (60, [2, 7], 0), (0, [], 6), (63, [8], 0)],
  [(0, [], 5), (64, [8], 0)],
  [(70, [], 0)]]
def cd_M_settle : List (List qm_Ins) := [
  [(4, [0], 0), (40, [9, 18], 0), (61, [5, 2], 0), (4, [0], 0), (42, [9, 17, 64, 0, 0], 0), (4, [0], 0), (40, [9, 18], 0), (0, [], 1), (11, [], 0), (50, [], 0), (80, [88, 1, 0], 0), (2, [1], 0), (60, [2, 2], 0), (4, [0], 0), (32, [], 0), (40, [9, 18], 0), (0, [], 1), (11, [], 0), (44, [9, 18], 0), (4, [0], 0), (4, [0], 0), (42, [9, 17, 64, 0, 0], 0), (4, [0], 0), (40, [9, 18], 0), (50, [], 0), (0, [], 0), (80, [86, 3, 9], 0), (4, [0], 0), (42, [9, 17, 64, 0, 0], 0), (4, [0], 0), (40, [9, 18], 0), (50, [], 0), (0, [], 2), (60, [0, 1], 0), (4, [0], 0), (42, [9, 17, 64, 0, 0], 0), (4, [0], 0), (40, [9, 18], 0), (50, [], 0), (0, [], 20), (60, [1, 0], 0), (64, [1], 0)],
  [(4, [0], 0), (32, [], 0), (40, [9, 19], 0), (0, [], 1), (11, [], 0), (44, [9, 19], 0), (63, [0], 0)],
  [(72, [], 0)]]
def cd_M_whole : List (List qm_Ins) := [
  [(4, [0], 0), (0, [], 1), (47, [9, 20], 0), (4, [0], 0), (0, [], 7), (80, [89, 2, 9], 0), (72, [], 0)]]
def cd_M_marker : List (List qm_Ins) := [
  [(4, [0], 0), (40, [9, 18], 0), (0, [], 1), (11, [], 0), (5, [1], 0), (64, [1], 0)],
  [(2, [1], 0), (61, [2, 2], 0), (4, [0], 0), (42, [9, 17, 64, 0, 0], 0), (2, [1], 0), (50, [], 0), (0, [], 40), (60, [3, 2], 0), (8, [1], -1), (63, [1], 0)],
  [(2, [1], 0), (70, [], 0)]]
def cd_M_isCompared : List (List qm_Ins) := [
  [(4, [0], 0), (40, [9, 18], 0), (0, [], 1), (11, [], 0), (5, [1], 0), (64, [1], 0)],
  [(2, [1], 0), (61, [2, 2], 0), (4, [0], 0), (42, [9, 17, 64, 0, 0], 0), (2, [1], 0), (50, [], 0), (80, [88, 1, 0], 0), (0, [], 4), (60, [5, 2], 0), (8, [1], -1), (63, [1], 0)],
  [(2, [1], 0), (61, [2, 3], 0), (4, [0], 0), (42, [9, 17, 64, 0, 0], 0), (2, [1], 0), (50, [], 0), (80, [88, 1, 0], 0), (0, [], 4), (60, [1, 3], 0), (0, [], 1), (63, [4], 0)],
  [(0, [], 0), (64, [4], 0)],
  [(73, [], 0)]]
def cd_M_isAskAhead : List (List qm_Ins) := [
  [(2, [1], 0), (61, [0, 2], 0), (4, [0], 0), (80, [91, 1, 9], 0), (61, [3, 2], 0), (4, [0], 0), (40, [9, 18], 0), (61, [0, 1], 0), (4, [0], 0), (42, [9, 17, 64, 0, 0], 0), (4, [0], 0), (40, [9, 18], 0), (0, [], 1), (11, [], 0), (50, [], 0), (80, [88, 1, 0], 0), (0, [], 1), (0, [], 3), (80, [57, 3, 0], 0), (61, [0, 2], 0), (64, [1], 0)],
  [(0, [], 1), (63, [3], 0)],
  [(0, [], 0), (64, [3], 0)],
  [(73, [], 0)]]
def cd_M_opensBy : List (List qm_Ins) := [
  [(2, [1], 0), (0, [], 41), (60, [0, 1], 0), (2, [1], 0), (0, [], 42), (60, [1, 2], 0), (64, [1], 0)],
  [(4, [0], 0), (80, [80, 1, 9], 0), (64, [2], 0)],
  [(2, [1], 0), (0, [], 41), (60, [0, 3], 0), (2, [1], 0), (0, [], 42), (60, [1, 4], 0), (64, [3], 0)],
  [(4, [0], 0), (40, [9, 10], 0), (0, [], 40), (60, [0, 4], 0), (0, [], 1), (70, [], 0)],
  [(4, [0], 0), (40, [9, 19], 0), (0, [], 8), (60, [1, 5], 0), (0, [], 3), (70, [], 0)],
  [(4, [0], 0), (32, [], 0), (40, [9, 19], 0), (0, [], 1), (10, [], 0), (44, [9, 19], 0), (4, [0], 0), (2, [1], 0), (80, [87, 2, 9], 0), (4, [0], 0), (80, [80, 1, 9], 0), (0, [], 0), (70, [], 0)]]
def cd_M_beginOne : List (List qm_Ins) := [
  [(4, [0], 0), (40, [9, 10], 0), (0, [], 1), (60, [1, 1], 0), (4, [0], 0), (40, [9, 11], 0), (0, [], 9999), (60, [5, 1], 0), (0, [], 2), (70, [], 0)],
  [(4, [0], 0), (80, [101, 1, 9], 0), (5, [2], 0), (2, [2], 0), (61, [2, 2], 0), (4, [0], 0), (2, [2], 0), (80, [103, 2, 9], 0), (61, [1, 2], 0), (0, [], 5), (70, [], 0)],
  [(4, [0], 0), (40, [9, 10], 0), (0, [], 1), (60, [0, 3], 0), (2, [2], 0), (61, [2, 8], 0), (64, [3], 0)],
  [(4, [0], 0), (4, [0], 0), (40, [9, 10], 0), (0, [], 1), (60, [1, 4], 0), (0, [], 0), (63, [5], 0)],
  [(0, [], 1), (64, [5], 0)],
  [(4, [0], 0), (40, [9, 10], 0), (0, [], 1), (60, [1, 6], 0), (4, [0], 0), (40, [9, 11], 0), (63, [7], 0)],
  [(2, [2], 0), (64, [7], 0)],
  [(80, [86, 3, 9], 0), (4, [0], 0), (80, [80, 1, 9], 0), (4, [0], 0), (80, [90, 1, 9], 0), (0, [], 0), (70, [], 0)],
  [(4, [0], 0), (40, [9, 10], 0), (0, [], 40), (60, [1, 9], 0), (4, [0], 0), (0, [], 40), (80, [94, 2, 9], 0), (70, [], 0)],
  [(4, [0], 0), (40, [9, 10], 0), (0, [], 45), (60, [1, 10], 0), (4, [0], 0), (0, [], 2), (80, [94, 2, 9], 0), (70, [], 0)],
  [(4, [0], 0), (0, [], 109), (0, [], 105), (0, [], 110), (80, [81, 3, 0], 0), (80, [85, 2, 9], 0), (61, [0, 11], 0), (4, [0], 0), (0, [], 41), (80, [94, 2, 9], 0), (70, [], 0)],
  [(4, [0], 0), (0, [], 109), (0, [], 97), (0, [], 120), (80, [81, 3, 0], 0), (80, [85, 2, 9], 0), (61, [0, 12], 0), (4, [0], 0), (0, [], 42), (80, [94, 2, 9], 0), (70, [], 0)],
  [(4, [0], 0), (0, [], 110), (0, [], 111), (0, [], 116), (80, [81, 3, 0], 0), (80, [85, 2, 9], 0), (61, [0, 13], 0), (4, [0], 0), (2, [1], 0), (80, [93, 2, 9], 0), (61, [0, 13], 0), (4, [0], 0), (0, [], 20), (80, [94, 2, 9], 0), (63, [14], 0)],
  [(0, [], 1), (64, [14], 0)],
  [(70, [], 0)]]
def cd_M_compareOf : List (List qm_Ins) := [
  [(4, [0], 0), (40, [9, 10], 0), (0, [], 60), (60, [1, 1], 0), (0, [], 10), (63, [7], 0)],
  [(4, [0], 0), (40, [9, 10], 0), (0, [], 4), (60, [1, 2], 0), (0, [], 11), (63, [7], 0)],
  [(4, [0], 0), (40, [9, 10], 0), (0, [], 62), (60, [1, 3], 0), (0, [], 12), (63, [7], 0)],
  [(4, [0], 0), (40, [9, 10], 0), (0, [], 5), (60, [1, 4], 0), (0, [], 13), (63, [7], 0)],
  [(4, [0], 0), (40, [9, 10], 0), (0, [], 61), (60, [1, 5], 0), (0, [], 14), (63, [7], 0)],
  [(4, [0], 0), (40, [9, 10], 0), (0, [], 35), (60, [1, 6], 0), (0, [], 15), (63, [7], 0)],
  [(0, [], -1), (64, [7], 0)],
  [(70, [], 0)]]
def cd_M_betweenOf : List (List qm_Ins) := [
  [(4, [0], 0), (40, [9, 10], 0), (0, [], 43), (60, [1, 1], 0), (0, [], 3), (70, [], 0)],
  [(4, [0], 0), (40, [9, 10], 0), (0, [], 45), (60, [1, 2], 0), (0, [], 4), (70, [], 0)],
  [(4, [0], 0), (40, [9, 10], 0), (0, [], 42), (60, [1, 3], 0), (0, [], 5), (70, [], 0)],
  [(4, [0], 0), (40, [9, 10], 0), (0, [], 47), (60, [1, 4], 0), (0, [], 6), (70, [], 0)],
  [(2, [1], 0), (61, [0, 5], 0), (4, [0], 0), (80, [91, 1, 9], 0), (61, [2, 6], 0), (64, [5], 0)],
  [(0, [], -1), (70, [], 0)],
  [(4, [0], 0), (80, [92, 1, 9], 0), (61, [1, 7], 0), (4, [0], 0), (80, [96, 1, 9], 0), (70, [], 0)],
  [(4, [0], 0), (0, [], 97), (0, [], 110), (0, [], 100), (80, [81, 3, 0], 0), (80, [85, 2, 9], 0), (61, [0, 8], 0), (0, [], 21), (63, [10], 0)],
  [(4, [0], 0), (40, [9, 10], 0), (0, [], 2), (60, [1, 9], 0), (4, [0], 0), (41, [9, 12], 0), (1, [], 28530), (29, [], 0), (61, [1, 9], 0), (0, [], 22), (63, [10], 0)],
  [(0, [], -1), (64, [10], 0)],
  [(70, [], 0)]]
def cd_M_behindOne : List (List qm_Ins) := [
  [(4, [0], 0), (2, [1], 0), (80, [97, 2, 9], 0), (5, [2], 0), (4, [0], 0), (80, [91, 1, 9], 0), (5, [3], 0), (2, [3], 0), (61, [3, 1], 0), (0, [], -1), (63, [2], 0)],
  [(4, [0], 0), (42, [9, 17, 64, 0, 0], 0), (2, [3], 0), (50, [], 0), (64, [2], 0)],
  [(5, [4], 0), (2, [2], 0), (61, [2, 3], 0), (4, [0], 0), (2, [2], 0), (80, [88, 1, 0], 0), (80, [89, 2, 9], 0), (4, [0], 0), (2, [2], 0), (80, [87, 2, 9], 0), (4, [0], 0), (0, [], 0), (47, [9, 20], 0), (63, [11], 0)],
  [(4, [0], 0), (40, [9, 10], 0), (0, [], 41), (60, [1, 8], 0), (2, [4], 0), (0, [], 40), (60, [0, 4], 0), (2, [4], 0), (0, [], 43), (60, [2, 8], 0), (64, [4], 0)],
  [(4, [0], 0), (0, [], 1), (80, [89, 2, 9], 0), (4, [0], 0), (32, [], 0), (40, [9, 18], 0), (0, [], 1), (11, [], 0), (44, [9, 18], 0), (4, [0], 0), (32, [], 0), (40, [9, 19], 0), (0, [], 1), (11, [], 0), (44, [9, 19], 0), (2, [4], 0), (0, [], 43), (60, [2, 7], 0), (4, [0], 0), (2, [4], 0), (0, [], 43), (60, [1, 5], 0), (0, [], 7), (63, [6], 0)],
  [(0, [], 8), (64, [6], 0)],
  [(0, [], 0), (80, [86, 3, 9], 0), (64, [7], 0)],
  [(4, [0], 0), (80, [90, 1, 9], 0), (63, [11], 0)],
  [(4, [0], 0), (40, [9, 10], 0), (0, [], 44), (60, [1, 10], 0), (2, [4], 0), (0, [], 41), (60, [0, 9], 0), (2, [4], 0), (0, [], 42), (60, [1, 10], 0), (64, [9], 0)],
  [(4, [0], 0), (0, [], 1), (80, [89, 2, 9], 0), (4, [0], 0), (42, [9, 17, 64, 0, 0], 0), (2, [3], 0), (2, [4], 0), (0, [], 2), (10, [], 0), (51, [], 0), (4, [0], 0), (0, [], 0), (47, [9, 20], 0), (63, [11], 0)],
  [(0, [], 0), (73, [], 0)],
  [(4, [0], 0), (80, [80, 1, 9], 0), (0, [], 1), (73, [], 0)]]
def cd_M_parsed : List (List qm_Ins) := [
  [(4, [0], 0), (0, [], 0), (44, [9, 18], 0), (4, [0], 0), (0, [], 0), (47, [9, 20], 0), (0, [], 1), (5, [2], 0), (64, [1], 0)],
  [(2, [2], 0), (61, [0, 4], 0), (4, [0], 0), (40, [9, 20], 0), (61, [0, 2], 0), (4, [0], 0), (2, [1], 0), (80, [98, 2, 9], 0), (5, [2], 0), (63, [1], 0)],
  [(4, [0], 0), (2, [1], 0), (80, [95, 2, 9], 0), (5, [3], 0), (2, [3], 0), (61, [0, 3], 0), (2, [3], 0), (70, [], 0)],
  [(63, [1], 0)],
  [(4, [0], 0), (80, [91, 1, 9], 0), (61, [3, 5], 0), (2, [1], 0), (61, [0, 6], 0), (4, [0], 0), (80, [92, 1, 9], 0), (61, [1, 6], 0), (64, [5], 0)],
  [(0, [], 1), (70, [], 0)],
  [(4, [0], 0), (0, [], 1), (80, [89, 2, 9], 0), (0, [], 0), (70, [], 0)]]
def cd_M_w7 : List (List qm_Ins) := [
  [(2, [0], 0), (2, [1], 0), (2, [2], 0), (2, [3], 0), (2, [4], 0), (2, [5], 0), (80, [84, 6, 0], 0), (0, [], 8), (28, [], 0), (2, [6], 0), (30, [], 0), (27, [], 0), (71, [], 0)]]
def cd_M_nameOf : List (List qm_Ins) := [
  [(4, [0], 0), (40, [9, 10], 0), (0, [], 2), (60, [0, 1], 0), (0, [], -1), (70, [], 0)],
  [(4, [0], 0), (41, [9, 12], 0), (0, [], 119), (0, [], 97), (0, [], 116), (0, [], 101), (0, [], 114), (80, [82, 5, 0], 0), (29, [], 0), (61, [1, 2], 0), (0, [], 0), (70, [], 0)],
  [(4, [0], 0), (41, [9, 12], 0), (0, [], 115), (0, [], 105), (0, [], 122), (0, [], 101), (80, [83, 4, 0], 0), (29, [], 0), (61, [1, 3], 0), (0, [], 1), (70, [], 0)],
  [(4, [0], 0), (41, [9, 12], 0), (0, [], 107), (0, [], 105), (0, [], 110), (0, [], 100), (80, [83, 4, 0], 0), (29, [], 0), (61, [1, 4], 0), (0, [], 2), (70, [], 0)],
  [(4, [0], 0), (41, [9, 12], 0), (0, [], 98), (0, [], 97), (0, [], 114), (0, [], 107), (80, [83, 4, 0], 0), (29, [], 0), (61, [1, 5], 0), (0, [], 3), (70, [], 0)],
  [(4, [0], 0), (41, [9, 12], 0), (0, [], 104), (0, [], 105), (0, [], 103), (0, [], 104), (80, [83, 4, 0], 0), (29, [], 0), (61, [1, 6], 0), (0, [], 4), (70, [], 0)],
  [(4, [0], 0), (41, [9, 12], 0), (0, [], 116), (0, [], 111), (0, [], 112), (80, [81, 3, 0], 0), (29, [], 0), (61, [1, 7], 0), (0, [], 5), (70, [], 0)],
  [(4, [0], 0), (41, [9, 12], 0), (0, [], 98), (0, [], 101), (0, [], 115), (0, [], 105), (0, [], 100), (0, [], 101), (80, [84, 6, 0], 0), (29, [], 0), (61, [1, 8], 0), (0, [], 6), (70, [], 0)],
  [(4, [0], 0), (41, [9, 12], 0), (0, [], 115), (0, [], 117), (0, [], 110), (0, [], 110), (0, [], 121), (80, [82, 5, 0], 0), (29, [], 0), (61, [1, 9], 0), (0, [], 7), (70, [], 0)],
  [(4, [0], 0), (41, [9, 12], 0), (0, [], 119), (0, [], 105), (0, [], 110), (0, [], 100), (80, [83, 4, 0], 0), (29, [], 0), (61, [1, 10], 0), (0, [], 8), (70, [], 0)],
  [(4, [0], 0), (41, [9, 12], 0), (0, [], 115), (0, [], 117), (0, [], 110), (80, [81, 3, 0], 0), (29, [], 0), (61, [1, 11], 0), (0, [], 9), (70, [], 0)],
  [(4, [0], 0), (80, [102, 1, 9], 0), (70, [], 0)]]
def cd_M_farName : List (List qm_Ins) := [
  [(4, [0], 0), (41, [9, 12], 0), (0, [], 114), (0, [], 97), (0, [], 105), (0, [], 110), (80, [83, 4, 0], 0), (29, [], 0), (61, [1, 1], 0), (0, [], 10), (70, [], 0)],
  [(4, [0], 0), (41, [9, 12], 0), (0, [], 97), (0, [], 105), (0, [], 114), (80, [81, 3, 0], 0), (29, [], 0), (61, [1, 2], 0), (0, [], 11), (70, [], 0)],
  [(4, [0], 0), (41, [9, 12], 0), (0, [], 119), (0, [], 101), (0, [], 101), (0, [], 107), (80, [83, 4, 0], 0), (29, [], 0), (61, [1, 3], 0), (0, [], 12), (70, [], 0)],
  [(4, [0], 0), (41, [9, 12], 0), (0, [], 119), (0, [], 105), (0, [], 100), (0, [], 101), (80, [83, 4, 0], 0), (29, [], 0), (61, [1, 4], 0), (0, [], 13), (70, [], 0)],
  [(4, [0], 0), (41, [9, 12], 0), (0, [], 116), (0, [], 97), (0, [], 108), (0, [], 108), (80, [83, 4, 0], 0), (29, [], 0), (61, [1, 5], 0), (0, [], 14), (70, [], 0)],
  [(4, [0], 0), (41, [9, 12], 0), (0, [], 112), (0, [], 111), (0, [], 115), (0, [], 116), (0, [], 115), (80, [82, 5, 0], 0), (29, [], 0), (61, [1, 6], 0), (0, [], 15), (70, [], 0)],
  [(4, [0], 0), (41, [9, 12], 0), (0, [], 99), (0, [], 114), (0, [], 111), (0, [], 115), (0, [], 115), (0, [], 101), (0, [], 100), (80, [100, 7, 0], 0), (29, [], 0), (61, [1, 7], 0), (0, [], 16), (63, [8], 0)],
  [(0, [], -1), (64, [8], 0)],
  [(70, [], 0)]]
def cd_M_isOf : List (List qm_Ins) := [
  [(2, [1], 0), (0, [], 12), (60, [0, 2], 0), (4, [0], 0), (40, [9, 21], 0), (0, [], 2), (60, [1, 1], 0), (2, [1], 0), (0, [], 12), (60, [5, 3], 0), (63, [2], 0)],
  [(2, [1], 0), (0, [], 8), (60, [2, 2], 0), (4, [0], 0), (40, [9, 21], 0), (61, [1, 3], 0), (2, [1], 0), (0, [], 12), (60, [3, 3], 0), (64, [2], 0)],
  [(0, [], 1), (63, [4], 0)],
  [(0, [], 0), (64, [4], 0)],
  [(73, [], 0)]]
def cd_M_sortOf : List (List qm_Ins) := [
  [(4, [0], 0), (0, [], 100), (0, [], 114), (0, [], 121), (80, [81, 3, 0], 0), (80, [85, 2, 9], 0), (61, [0, 1], 0), (0, [], 0), (70, [], 0)],
  [(4, [0], 0), (0, [], 116), (0, [], 104), (0, [], 105), (0, [], 99), (0, [], 107), (80, [82, 5, 0], 0), (80, [85, 2, 9], 0), (61, [0, 2], 0), (0, [], 1), (70, [], 0)],
  [(4, [0], 0), (0, [], 115), (0, [], 116), (0, [], 97), (0, [], 110), (0, [], 100), (80, [82, 5, 0], 0), (80, [85, 2, 9], 0), (61, [0, 3], 0), (0, [], 2), (70, [], 0)],
  [(4, [0], 0), (0, [], 116), (0, [], 97), (0, [], 107), (0, [], 101), (80, [83, 4, 0], 0), (80, [85, 2, 9], 0), (61, [0, 4], 0), (0, [], 3), (70, [], 0)],
  [(4, [0], 0), (0, [], 104), (0, [], 101), (0, [], 97), (0, [], 116), (80, [83, 4, 0], 0), (80, [85, 2, 9], 0), (61, [0, 5], 0), (0, [], 4), (70, [], 0)],
  [(4, [0], 0), (0, [], 98), (0, [], 101), (0, [], 101), (0, [], 116), (0, [], 108), (0, [], 101), (80, [84, 6, 0], 0), (80, [85, 2, 9], 0), (61, [0, 6], 0), (0, [], 5), (63, [8], 0)],
  [(4, [0], 0), (0, [], 108), (0, [], 97), (0, [], 121), (80, [81, 3, 0], 0), (80, [85, 2, 9], 0), (61, [0, 7], 0), (0, [], 6), (63, [8], 0)],
  [(0, [], -1), (64, [8], 0)],
  [(70, [], 0)]]
def cd_M_figure : List (List qm_Ins) := [
  [(4, [0], 0), (40, [9, 10], 0), (0, [], 1), (60, [0, 1], 0), (0, [], 1), (70, [], 0)],
  [(4, [0], 0), (40, [9, 11], 0), (2, [2], 0), (2, [3], 0), (80, [57, 3, 0], 0), (61, [1, 2], 0), (0, [], 2), (70, [], 0)],
  [(4, [0], 0), (42, [9, 3, 62, 0, 0], 0), (2, [1], 0), (4, [0], 0), (40, [9, 11], 0), (51, [], 0), (4, [0], 0), (80, [80, 1, 9], 0), (0, [], 0), (70, [], 0)]]
def cd_M_expects : List (List qm_Ins) := [
  [(2, [1], 0), (61, [1, 1], 0), (0, [], 1), (70, [], 0)],
  [(4, [0], 0), (80, [80, 1, 9], 0), (0, [], 0), (70, [], 0)]]
def cd_M_laidBy : List (List qm_Ins) := [
  [(4, [0], 0), (2, [1], 0), (0, [], 1), (10, [], 0), (0, [], 0), (0, [], 3), (80, [105, 4, 9], 0), (5, [2], 0), (2, [2], 0), (61, [1, 3], 0), (4, [0], 0), (4, [0], 0), (40, [9, 10], 0), (0, [], 44), (60, [1, 1], 0), (0, [], 1), (63, [2], 0)],
  [(0, [], 0), (64, [2], 0)],
  [(80, [106, 2, 9], 0), (5, [2], 0), (64, [3], 0)],
  [(2, [2], 0), (61, [1, 4], 0), (4, [0], 0), (2, [1], 0), (0, [], 2), (10, [], 0), (0, [], 1), (0, [], 20), (80, [105, 4, 9], 0), (5, [2], 0), (64, [4], 0)],
  [(2, [2], 0), (61, [1, 7], 0), (4, [0], 0), (4, [0], 0), (40, [9, 10], 0), (0, [], 44), (60, [1, 5], 0), (0, [], 1), (63, [6], 0)],
  [(0, [], 0), (64, [6], 0)],
  [(80, [106, 2, 9], 0), (5, [2], 0), (64, [7], 0)],
  [(2, [2], 0), (61, [1, 8], 0), (4, [0], 0), (2, [1], 0), (0, [], 3), (10, [], 0), (0, [], 0), (0, [], 2000), (80, [105, 4, 9], 0), (5, [2], 0), (64, [8], 0)],
  [(2, [2], 0), (61, [1, 11], 0), (4, [0], 0), (4, [0], 0), (40, [9, 10], 0), (0, [], 2), (60, [1, 9], 0), (4, [0], 0), (41, [9, 12], 0), (1, [], 28526), (29, [], 0), (61, [1, 9], 0), (0, [], 1), (63, [10], 0)],
  [(0, [], 0), (64, [10], 0)],
  [(80, [106, 2, 9], 0), (5, [2], 0), (64, [11], 0)],
  [(2, [2], 0), (61, [1, 12], 0), (4, [0], 0), (2, [1], 0), (0, [], 4), (10, [], 0), (0, [], 0), (0, [], 5), (80, [105, 4, 9], 0), (63, [13], 0)],
  [(2, [2], 0), (64, [13], 0)],
  [(70, [], 0)]]
def cd_M_clause : List (List qm_Ins) := [
  [(4, [0], 0), (80, [104, 1, 9], 0), (5, [1], 0), (2, [1], 0), (61, [3, 1], 0), (0, [], 1), (70, [], 0)],
  [(2, [1], 0), (0, [], 5), (60, [3, 2], 0), (4, [0], 0), (40, [9, 22], 0), (2, [1], 0), (19, [], 0), (0, [], 1), (16, [], 0), (0, [], 1), (60, [1, 2], 0), (0, [], 4), (70, [], 0)],
  [(4, [0], 0), (42, [9, 3, 62, 0, 0], 0), (4, [0], 0), (40, [9, 13], 0), (50, [], 0), (5, [2], 0), (2, [2], 0), (0, [], 20), (60, [1, 3], 0), (0, [], 6), (70, [], 0)],
  [(2, [1], 0), (0, [], 5), (60, [3, 4], 0), (4, [0], 0), (32, [], 0), (40, [9, 22], 0), (0, [], 1), (2, [1], 0), (18, [], 0), (17, [], 0), (44, [9, 22], 0), (64, [4], 0)],
  [(4, [0], 0), (2, [1], 0), (44, [9, 21], 0), (4, [0], 0), (80, [80, 1, 9], 0), (4, [0], 0), (40, [9, 13], 0), (0, [], 1), (10, [], 0), (0, [], 5), (2, [2], 0), (12, [], 0), (10, [], 0), (5, [3], 0), (4, [0], 0), (42, [9, 3, 62, 0, 0], 0), (2, [3], 0), (2, [1], 0), (51, [], 0), (4, [0], 0), (40, [9, 15], 0), (5, [4], 0), (2, [1], 0), (0, [], 6), (60, [1, 5], 0), (4, [0], 0), (2, [3], 0), (80, [107, 2, 9], 0), (63, [8], 0)],
  [(4, [0], 0), (2, [1], 0), (0, [], 5), (60, [1, 6], 0), (0, [], 1), (63, [7], 0)],
  [(0, [], 0), (64, [7], 0)],
  [(80, [99, 2, 9], 0), (64, [8], 0)],
  [(5, [5], 0), (2, [5], 0), (61, [0, 9], 0), (2, [5], 0), (70, [], 0)],
  [(2, [1], 0), (0, [], 6), (60, [0, 10], 0), (4, [0], 0), (42, [9, 3, 62, 0, 0], 0), (2, [3], 0), (0, [], 1), (10, [], 0), (2, [4], 0), (51, [], 0), (4, [0], 0), (42, [9, 3, 62, 0, 0], 0), (2, [3], 0), (0, [], 2), (10, [], 0), (4, [0], 0), (40, [9, 15], 0), (51, [], 0), (64, [10], 0)],
  [(4, [0], 0), (42, [9, 3, 62, 0, 0], 0), (4, [0], 0), (40, [9, 13], 0), (33, [], 0), (50, [], 0), (0, [], 1), (10, [], 0), (51, [], 0), (4, [0], 0), (40, [9, 10], 0), (0, [], 59), (60, [0, 11], 0), (0, [], 1), (70, [], 0)],
  [(4, [0], 0), (80, [80, 1, 9], 0), (0, [], 0), (70, [], 0)]]
def cd_M_readText : List (List qm_Ins) := [
  [(4, [0], 0), (0, [], 720), (4, [0], 0), (42, [9, 0, 61, 0, 0], 0), (0, [], 2), (50, [], 0), (12, [], 0), (44, [9, 13], 0), (4, [0], 0), (42, [9, 3, 62, 0, 0], 0), (4, [0], 0), (40, [9, 13], 0), (0, [], 0), (51, [], 0), (4, [0], 0), (0, [], 0), (44, [9, 15], 0), (4, [0], 0), (0, [], 0), (44, [9, 19], 0), (4, [0], 0), (0, [], 0), (44, [9, 22], 0), (4, [0], 0), (0, [], 0), (44, [9, 8], 0), (4, [0], 0), (80, [80, 1, 9], 0), (64, [1], 0)],
  [(4, [0], 0), (40, [9, 10], 0), (61, [0, 3], 0), (4, [0], 0), (80, [108, 1, 9], 0), (5, [1], 0), (2, [1], 0), (61, [0, 2], 0), (2, [1], 0), (70, [], 0)],
  [(63, [1], 0)],
  [(0, [], 0), (70, [], 0)]]
def cd_M_text : List (List qm_Ins) := [
  [(4, [0], 0), (42, [9, 0, 61, 0, 0], 0), (0, [], 2), (50, [], 0), (0, [], 4), (60, [1, 1], 0), (0, [], -1), (70, [], 0)],
  [(4, [0], 0), (4, [0], 0), (80, [109, 1, 9], 0), (44, [9, 6], 0), (4, [0], 0), (4, [0], 0), (40, [9, 6], 0), (61, [1, 2], 0), (0, [], -1), (63, [3], 0)],
  [(4, [0], 0), (40, [9, 9], 0), (64, [3], 0)],
  [(44, [9, 7], 0), (4, [0], 0), (0, [], 0), (44, [9, 5], 0), (4, [0], 0), (40, [9, 6], 0), (61, [0, 4], 0), (0, [], -1), (70, [], 0)],
  [(4, [0], 0), (42, [9, 0, 61, 0, 0], 0), (0, [], 2), (33, [], 0), (50, [], 0), (0, [], 1), (10, [], 0), (51, [], 0), (4, [0], 0), (42, [9, 0, 61, 0, 0], 0), (0, [], 2), (50, [], 0), (0, [], 1), (11, [], 0), (70, [], 0)]]
def cd_M_fault : List (List qm_Ins) := [
  [(2, [1], 0), (61, [1, 1], 0), (4, [0], 0), (40, [9, 6], 0), (63, [3], 0)],
  [(2, [1], 0), (0, [], 1), (60, [1, 2], 0), (4, [0], 0), (40, [9, 7], 0), (63, [3], 0)],
  [(0, [], -1), (64, [3], 0)],
  [(70, [], 0)]]
def cd_M_by : List (List qm_Ins) := [
  [(2, [1], 0), (0, [], -1), (4, [0], 0), (42, [9, 0, 61, 0, 0], 0), (0, [], 2), (50, [], 0), (0, [], 1), (11, [], 0), (80, [57, 3, 0], 0), (61, [1, 1], 0), (0, [], 0), (73, [], 0)],
  [(4, [0], 0), (42, [9, 0, 61, 0, 0], 0), (0, [], 3), (2, [1], 0), (51, [], 0), (0, [], 1), (73, [], 0)]]
def cd_M_laid : List (List qm_Ins) := [
  [(2, [1], 0), (0, [], 0), (4, [0], 0), (42, [9, 0, 61, 0, 0], 0), (0, [], 2), (50, [], 0), (0, [], 1), (11, [], 0), (80, [57, 3, 0], 0), (61, [1, 1], 0), (0, [], -2), (70, [], 0)],
  [(0, [], 0), (5, [2], 0), (64, [2], 0)],
  [(2, [2], 0), (4, [0], 0), (40, [9, 1], 0), (60, [3, 3], 0), (4, [0], 0), (42, [9, 0, 61, 0, 0], 0), (0, [], 120), (2, [2], 0), (10, [], 0), (0, [], 0), (51, [], 0), (8, [2], 1), (63, [2], 0)],
  [(4, [0], 0), (42, [9, 0, 61, 0, 0], 0), (0, [], 7), (0, [], -1), (51, [], 0), (0, [], 0), (5, [2], 0), (64, [4], 0)],
  [(2, [2], 0), (4, [0], 0), (42, [9, 3, 62, 0, 0], 0), (0, [], 720), (2, [1], 0), (12, [], 0), (50, [], 0), (60, [3, 6], 0), (0, [], 720), (2, [1], 0), (12, [], 0), (0, [], 1), (10, [], 0), (0, [], 5), (2, [2], 0), (12, [], 0), (10, [], 0), (5, [3], 0), (4, [0], 0), (42, [9, 3, 62, 0, 0], 0), (2, [3], 0), (50, [], 0), (0, [], 6), (60, [1, 5], 0), (4, [0], 0), (4, [0], 0), (42, [9, 3, 62, 0, 0], 0), (2, [3], 0), (0, [], 4), (10, [], 0), (50, [], 0), (4, [0], 0), (42, [9, 3, 62, 0, 0], 0), (2, [3], 0), (0, [], 1), (10, [], 0), (50, [], 0), (4, [0], 0), (42, [9, 3, 62, 0, 0], 0), (2, [3], 0), (0, [], 2), (10, [], 0), (50, [], 0), (4, [0], 0), (42, [9, 3, 62, 0, 0], 0), (2, [3], 0), (0, [], 3), (10, [], 0), (50, [], 0), (80, [64, 5, 9], 0), (61, [3, 5], 0), (2, [2], 0), (70, [], 0)],
  [(8, [2], 1), (63, [4], 0)],
  [(0, [], -1), (70, [], 0)]]
def cd_M_clip : List (List qm_Ins) := [
  [(3, [0], 0), (1, [], 1000000), (29, [], 0), (61, [5, 1], 0), (1, [], 1000000), (63, [3], 0)],
  [(3, [0], 0), (1, [], -1000000), (29, [], 0), (61, [3, 2], 0), (1, [], -1000000), (63, [3], 0)],
  [(3, [0], 0), (64, [3], 0)],
  [(71, [], 0)]]
def cd_M_two : List (List qm_Ins) := [
  [(2, [0], 0), (65, [10, 1, 2, 3, 10, 4, 7], 3)],
  [(3, [1], 0), (3, [3], 0), (21, [], 0), (80, [114, 1, 0], 0), (71, [], 0)],
  [(3, [1], 0), (3, [3], 0), (22, [], 0), (80, [114, 1, 0], 0), (71, [], 0)],
  [(3, [1], 0), (3, [3], 0), (23, [], 0), (80, [114, 1, 0], 0), (71, [], 0)],
  [(3, [1], 0), (3, [3], 0), (29, [], 0), (61, [3, 5], 0), (3, [1], 0), (63, [6], 0)],
  [(3, [3], 0), (64, [6], 0)],
  [(71, [], 0)],
  [(3, [1], 0), (3, [3], 0), (29, [], 0), (61, [5, 8], 0), (3, [1], 0), (63, [9], 0)],
  [(3, [3], 0), (64, [9], 0)],
  [(71, [], 0)],
  [(3, [3], 0), (1, [], 0), (29, [], 0), (61, [1, 11], 0), (1, [], 0), (63, [12], 0)],
  [(3, [1], 0), (3, [3], 0), (24, [], 0), (80, [114, 1, 0], 0), (64, [12], 0)],
  [(71, [], 0)]]
def cd_M_isAsked : List (List qm_Ins) := [
  [(2, [0], 0), (0, [], 10), (60, [1, 2], 0), (3, [1], 0), (3, [3], 0), (29, [], 0), (61, [3, 1], 0), (0, [], 1), (63, [12], 0)],
  [(0, [], 0), (63, [12], 0)],
  [(2, [0], 0), (0, [], 11), (60, [1, 4], 0), (3, [1], 0), (3, [3], 0), (29, [], 0), (61, [4, 3], 0), (0, [], 1), (63, [12], 0)],
  [(0, [], 0), (63, [12], 0)],
  [(2, [0], 0), (0, [], 12), (60, [1, 6], 0), (3, [1], 0), (3, [3], 0), (29, [], 0), (61, [5, 5], 0), (0, [], 1), (63, [12], 0)],
  [(0, [], 0), (63, [12], 0)],
  [(2, [0], 0), (0, [], 13), (60, [1, 8], 0), (3, [1], 0), (3, [3], 0), (29, [], 0), (61, [2, 7], 0), (0, [], 1), (63, [12], 0)],
  [(0, [], 0), (63, [12], 0)],
  [(2, [0], 0), (0, [], 14), (60, [1, 10], 0), (3, [1], 0), (3, [3], 0), (29, [], 0), (61, [1, 9], 0), (0, [], 1), (63, [12], 0)],
  [(0, [], 0), (63, [12], 0)],
  [(3, [1], 0), (3, [3], 0), (29, [], 0), (61, [0, 11], 0), (0, [], 1), (63, [12], 0)],
  [(0, [], 0), (64, [12], 0)],
  [(73, [], 0)]]
def cd_M_work : List (List qm_Ins) := [
  [(0, [], 720), (4, [0], 0), (42, [9, 0, 61, 0, 0], 0), (0, [], 3), (50, [], 0), (12, [], 0), (0, [], 1), (10, [], 0), (0, [], 5), (2, [1], 0), (12, [], 0), (10, [], 0), (5, [2], 0), (0, [], 720), (4, [0], 0), (42, [9, 0, 61, 0, 0], 0), (0, [], 3), (50, [], 0), (12, [], 0), (0, [], 110), (10, [], 0), (5, [3], 0), (0, [], 0), (5, [4], 0), (0, [], 0), (5, [5], 0), (4, [0], 0), (42, [9, 3, 62, 0, 0], 0), (2, [2], 0), (0, [], 1), (10, [], 0), (50, [], 0), (5, [6], 0), (64, [1], 0)],
  [(2, [6], 0), (4, [0], 0), (42, [9, 3, 62, 0, 0], 0), (2, [2], 0), (0, [], 2), (10, [], 0), (50, [], 0), (60, [3, 17], 0), (4, [0], 0), (42, [9, 3, 62, 0, 0], 0), (2, [3], 0), (0, [], 2), (2, [6], 0), (12, [], 0), (10, [], 0), (50, [], 0), (5, [7], 0), (4, [0], 0), (42, [9, 3, 62, 0, 0], 0), (2, [3], 0), (0, [], 2), (2, [6], 0), (12, [], 0), (10, [], 0), (0, [], 1), (10, [], 0), (50, [], 0), (5, [8], 0), (2, [7], 0), (0, [], 1), (60, [4, 4], 0), (4, [0], 0), (42, [9, 24, 66, 0, 0], 0), (2, [4], 0), (2, [7], 0), (61, [1, 2], 0), (2, [8], 0), (30, [], 0), (63, [3], 0)],
  [(4, [0], 0), (42, [9, 23, 65, 0, 0], 0), (2, [8], 0), (50, [], 0), (30, [], 0), (64, [3], 0)],
  [(53, [], 0), (8, [4], 1), (63, [16], 0)],
  [(2, [7], 0), (0, [], 2), (60, [1, 5], 0), (4, [0], 0), (42, [9, 24, 66, 0, 0], 0), (2, [4], 0), (0, [], 1), (11, [], 0), (4, [0], 0), (42, [9, 24, 66, 0, 0], 0), (2, [4], 0), (0, [], 1), (11, [], 0), (52, [], 0), (25, [], 0), (53, [], 0), (63, [16], 0)],
  [(2, [7], 0), (0, [], 10), (60, [3, 6], 0), (8, [4], -1), (4, [0], 0), (42, [9, 24, 66, 0, 0], 0), (2, [4], 0), (0, [], 1), (11, [], 0), (2, [7], 0), (4, [0], 0), (42, [9, 24, 66, 0, 0], 0), (2, [4], 0), (0, [], 1), (11, [], 0), (52, [], 0), (4, [0], 0), (42, [9, 24, 66, 0, 0], 0), (2, [4], 0), (52, [], 0), (80, [115, 3, 0], 0), (53, [], 0), (63, [16], 0)],
  [(2, [7], 0), (0, [], 20), (60, [3, 7], 0), (8, [4], -2), (4, [0], 0), (42, [9, 25, 67, 0, 0], 0), (2, [5], 0), (2, [7], 0), (4, [0], 0), (42, [9, 24, 66, 0, 0], 0), (2, [4], 0), (52, [], 0), (4, [0], 0), (42, [9, 24, 66, 0, 0], 0), (2, [4], 0), (0, [], 1), (10, [], 0), (52, [], 0), (80, [116, 3, 0], 0), (55, [], 0), (8, [5], 1), (63, [16], 0)],
  [(2, [7], 0), (0, [], 20), (60, [1, 10], 0), (4, [0], 0), (42, [9, 25, 67, 0, 0], 0), (2, [5], 0), (0, [], 1), (11, [], 0), (4, [0], 0), (42, [9, 25, 67, 0, 0], 0), (2, [5], 0), (0, [], 1), (11, [], 0), (54, [], 0), (61, [1, 8], 0), (0, [], 1), (63, [9], 0)],
  [(0, [], 0), (64, [9], 0)],
  [(55, [], 0), (63, [16], 0)],
  [(8, [5], -1), (4, [0], 0), (42, [9, 25, 67, 0, 0], 0), (2, [5], 0), (0, [], 1), (11, [], 0), (2, [7], 0), (0, [], 21), (60, [1, 12], 0), (4, [0], 0), (42, [9, 25, 67, 0, 0], 0), (2, [5], 0), (0, [], 1), (11, [], 0), (54, [], 0), (61, [0, 11], 0), (4, [0], 0), (42, [9, 25, 67, 0, 0], 0), (2, [5], 0), (54, [], 0), (61, [0, 11], 0), (0, [], 1), (63, [15], 0)],
  [(0, [], 0), (63, [15], 0)],
  [(4, [0], 0), (42, [9, 25, 67, 0, 0], 0), (2, [5], 0), (0, [], 1), (11, [], 0), (54, [], 0), (61, [1, 13], 0), (4, [0], 0), (42, [9, 25, 67, 0, 0], 0), (2, [5], 0), (54, [], 0), (61, [0, 14], 0), (64, [13], 0)],
  [(0, [], 1), (63, [15], 0)],
  [(0, [], 0), (64, [15], 0)],
  [(55, [], 0), (64, [16], 0)],
  [(8, [6], 1), (63, [1], 0)],
  [(72, [], 0)]]
def cd_M_clauses : List (List qm_Ins) := [
  [(4, [0], 0), (42, [9, 0, 61, 0, 0], 0), (0, [], 3), (50, [], 0), (61, [3, 1], 0), (0, [], 0), (63, [2], 0)],
  [(4, [0], 0), (42, [9, 3, 62, 0, 0], 0), (0, [], 720), (4, [0], 0), (42, [9, 0, 61, 0, 0], 0), (0, [], 3), (50, [], 0), (12, [], 0), (50, [], 0), (64, [2], 0)],
  [(70, [], 0)]]
def cd_M_clauseOf : List (List qm_Ins) := [
  [(0, [], 0), (5, [2], 0), (64, [1], 0)],
  [(2, [2], 0), (4, [0], 0), (80, [118, 1, 9], 0), (60, [3, 3], 0), (4, [0], 0), (42, [9, 3, 62, 0, 0], 0), (0, [], 720), (4, [0], 0), (42, [9, 0, 61, 0, 0], 0), (0, [], 3), (50, [], 0), (12, [], 0), (0, [], 1), (10, [], 0), (0, [], 5), (2, [2], 0), (12, [], 0), (10, [], 0), (50, [], 0), (2, [1], 0), (60, [1, 2], 0), (2, [2], 0), (70, [], 0)],
  [(8, [2], 1), (63, [1], 0)],
  [(0, [], -1), (70, [], 0)]]
def cd_M_sumOf : List (List qm_Ins) := [
  [(4, [0], 0), (2, [1], 0), (80, [119, 2, 9], 0), (5, [5], 0), (2, [5], 0), (61, [3, 1], 0), (2, [4], 0), (70, [], 0)],
  [(4, [0], 0), (2, [5], 0), (80, [117, 2, 9], 0), (4, [0], 0), (42, [9, 24, 66, 0, 0], 0), (0, [], 0), (52, [], 0), (2, [2], 0), (2, [3], 0), (80, [58, 3, 0], 0), (70, [], 0)]]
def cd_M_besideOf : List (List qm_Ins) := [
  [(2, [1], 0), (61, [5, 1], 0), (4, [0], 0), (2, [1], 0), (0, [], 1), (11, [], 0), (80, [59, 2, 9], 0), (2, [2], 0), (60, [5, 1], 0), (0, [], 1), (63, [2], 0)],
  [(0, [], 0), (64, [2], 0)],
  [(5, [3], 0), (2, [3], 0), (2, [1], 0), (0, [], 1), (10, [], 0), (4, [0], 0), (40, [9, 1], 0), (60, [3, 3], 0), (4, [0], 0), (2, [1], 0), (0, [], 1), (10, [], 0), (80, [59, 2, 9], 0), (2, [2], 0), (60, [5, 3], 0), (0, [], 1), (63, [4], 0)],
  [(0, [], 0), (64, [4], 0)],
  [(10, [], 0), (5, [3], 0), (2, [3], 0), (2, [2], 0), (61, [5, 5], 0), (0, [], 1), (63, [6], 0)],
  [(0, [], 0), (64, [6], 0)],
  [(10, [], 0), (5, [3], 0), (2, [3], 0), (4, [0], 0), (2, [1], 0), (80, [59, 2, 9], 0), (2, [2], 0), (0, [], 1), (10, [], 0), (60, [5, 7], 0), (0, [], 1), (63, [8], 0)],
  [(0, [], 0), (64, [8], 0)],
  [(10, [], 0), (70, [], 0)]]
def cd_M_name : List (List qm_Ins) := [
  [(4, [0], 0), (2, [1], 0), (2, [2], 0), (80, [60, 3, 9], 0), (5, [3], 0), (4, [0], 0), (42, [9, 0, 61, 0, 0], 0), (4, [0], 0), (40, [9, 2], 0), (0, [], 7), (10, [], 0), (50, [], 0), (61, [2, 1], 0), (0, [], 1), (63, [2], 0)],
  [(0, [], 0), (64, [2], 0)],
  [(5, [4], 0), (4, [0], 0), (42, [9, 23, 65, 0, 0], 0), (0, [], 0), (4, [0], 0), (42, [9, 0, 61, 0, 0], 0), (2, [3], 0), (0, [], 2), (10, [], 0), (50, [], 0), (51, [], 0), (4, [0], 0), (42, [9, 23, 65, 0, 0], 0), (0, [], 1), (4, [0], 0), (42, [9, 0, 61, 0, 0], 0), (2, [3], 0), (0, [], 1), (10, [], 0), (50, [], 0), (51, [], 0), (4, [0], 0), (42, [9, 23, 65, 0, 0], 0), (0, [], 2), (4, [0], 0), (42, [9, 0, 61, 0, 0], 0), (2, [3], 0), (50, [], 0), (51, [], 0), (4, [0], 0), (42, [9, 23, 65, 0, 0], 0), (0, [], 3), (4, [0], 0), (42, [9, 0, 61, 0, 0], 0), (2, [3], 0), (0, [], 3), (10, [], 0), (50, [], 0), (51, [], 0), (4, [0], 0), (42, [9, 23, 65, 0, 0], 0), (0, [], 4), (2, [4], 0), (61, [0, 3], 0), (0, [], 0), (63, [4], 0)],
  [(2, [2], 0), (64, [4], 0)],
  [(51, [], 0), (4, [0], 0), (42, [9, 23, 65, 0, 0], 0), (0, [], 5), (2, [4], 0), (61, [1, 5], 0), (2, [2], 0), (0, [], 1), (10, [], 0), (4, [0], 0), (2, [1], 0), (80, [59, 2, 9], 0), (60, [1, 6], 0), (64, [5], 0)],
  [(0, [], 1), (63, [7], 0)],
  [(0, [], 0), (64, [7], 0)],
  [(51, [], 0), (4, [0], 0), (42, [9, 23, 65, 0, 0], 0), (0, [], 6), (2, [4], 0), (61, [0, 8], 0), (0, [], 4), (63, [9], 0)],
  [(4, [0], 0), (2, [1], 0), (2, [2], 0), (80, [121, 3, 9], 0), (64, [9], 0)],
  [(51, [], 0), (4, [0], 0), (42, [9, 23, 65, 0, 0], 0), (0, [], 7), (2, [1], 0), (4, [0], 0), (42, [9, 0, 61, 0, 0], 0), (4, [0], 0), (40, [9, 2], 0), (0, [], 6), (10, [], 0), (50, [], 0), (61, [1, 10], 0), (0, [], 0), (63, [11], 0)],
  [(4, [0], 0), (40, [9, 1], 0), (0, [], 1), (11, [], 0), (64, [11], 0)],
  [(60, [1, 12], 0), (0, [], 1), (63, [13], 0)],
  [(0, [], 0), (64, [13], 0)],
  [(51, [], 0), (4, [0], 0), (42, [9, 23, 65, 0, 0], 0), (0, [], 12), (4, [0], 0), (42, [9, 0, 61, 0, 0], 0), (4, [0], 0), (40, [9, 2], 0), (0, [], 0), (10, [], 0), (50, [], 0), (51, [], 0), (72, [], 0)]]
def cd_M_thickOf : List (List qm_Ins) := [
  [(4, [0], 0), (2, [1], 0), (2, [2], 0), (80, [122, 3, 9], 0), (4, [0], 0), (42, [9, 23, 65, 0, 0], 0), (0, [], 0), (50, [], 0), (5, [3], 0), (4, [0], 0), (42, [9, 23, 65, 0, 0], 0), (0, [], 1), (50, [], 0), (5, [4], 0), (4, [0], 0), (0, [], 1), (0, [], 1), (0, [], 999), (0, [], 10), (2, [4], 0), (12, [], 0), (2, [3], 0), (0, [], 300), (60, [3, 1], 0), (2, [4], 0), (0, [], 300), (2, [3], 0), (11, [], 0), (12, [], 0), (0, [], 100), (13, [], 0), (63, [2], 0)],
  [(0, [], 0), (64, [2], 0)],
  [(11, [], 0), (80, [120, 5, 9], 0), (70, [], 0)]]
def cd_M_heatOf : List (List qm_Ins) := [
  [(4, [0], 0), (2, [1], 0), (2, [2], 0), (80, [122, 3, 9], 0), (4, [0], 0), (0, [], 4), (0, [], 0), (0, [], 9999), (4, [0], 0), (42, [9, 23, 65, 0, 0], 0), (0, [], 1), (50, [], 0), (0, [], 2500), (4, [0], 0), (42, [9, 23, 65, 0, 0], 0), (0, [], 0), (50, [], 0), (11, [], 0), (12, [], 0), (0, [], 100), (13, [], 0), (80, [120, 5, 9], 0), (70, [], 0)]]
def cd_M_isDry : List (List qm_Ins) := [
  [(4, [0], 0), (42, [9, 0, 61, 0, 0], 0), (4, [0], 0), (2, [1], 0), (2, [2], 0), (80, [60, 3, 9], 0), (0, [], 2), (10, [], 0), (50, [], 0), (0, [], 200), (60, [4, 1], 0), (0, [], 1), (63, [2], 0)],
  [(0, [], 0), (64, [2], 0)],
  [(73, [], 0)]]
def cd_M_heightOf : List (List qm_Ins) := [
  [(0, [], 0), (5, [2], 0), (0, [], 0), (5, [3], 0), (64, [1], 0)],
  [(2, [3], 0), (4, [0], 0), (2, [1], 0), (80, [59, 2, 9], 0), (60, [3, 2], 0), (2, [2], 0), (4, [0], 0), (2, [1], 0), (2, [3], 0), (80, [123, 3, 9], 0), (10, [], 0), (5, [2], 0), (8, [3], 1), (63, [1], 0)],
  [(2, [2], 0), (70, [], 0)]]
def cd_M_leanOf : List (List qm_Ins) := [
  [(4, [0], 0), (4, [0], 0), (40, [9, 1], 0), (0, [], 1), (11, [], 0), (80, [126, 2, 9], 0), (4, [0], 0), (0, [], 0), (80, [126, 2, 9], 0), (11, [], 0), (70, [], 0)]]
def cd_M_standOf : List (List qm_Ins) := [
  [(0, [], 0), (5, [1], 0), (0, [], 0), (5, [2], 0), (64, [1], 0)],
  [(2, [2], 0), (4, [0], 0), (40, [9, 1], 0), (60, [3, 4], 0), (4, [0], 0), (2, [2], 0), (80, [59, 2, 9], 0), (2, [1], 0), (60, [5, 2], 0), (4, [0], 0), (2, [2], 0), (80, [59, 2, 9], 0), (63, [3], 0)],
  [(2, [1], 0), (64, [3], 0)],
  [(5, [1], 0), (8, [2], 1), (63, [1], 0)],
  [(4, [0], 0), (42, [9, 23, 65, 0, 0], 0), (0, [], 12), (4, [0], 0), (42, [9, 0, 61, 0, 0], 0), (4, [0], 0), (40, [9, 2], 0), (0, [], 0), (10, [], 0), (50, [], 0), (51, [], 0), (4, [0], 0), (42, [9, 23, 65, 0, 0], 0), (0, [], 13), (4, [0], 0), (40, [9, 1], 0), (51, [], 0), (4, [0], 0), (42, [9, 23, 65, 0, 0], 0), (0, [], 14), (2, [1], 0), (51, [], 0), (4, [0], 0), (42, [9, 23, 65, 0, 0], 0), (0, [], 15), (4, [0], 0), (42, [9, 0, 61, 0, 0], 0), (4, [0], 0), (40, [9, 2], 0), (0, [], 4), (10, [], 0), (50, [], 0), (51, [], 0), (4, [0], 0), (42, [9, 23, 65, 0, 0], 0), (0, [], 16), (4, [0], 0), (42, [9, 0, 61, 0, 0], 0), (4, [0], 0), (40, [9, 2], 0), (0, [], 5), (10, [], 0), (50, [], 0), (51, [], 0), (4, [0], 0), (0, [], 2), (0, [], 0), (0, [], 9999), (0, [], 10), (4, [0], 0), (40, [9, 1], 0), (12, [], 0), (0, [], 20), (4, [0], 0), (42, [9, 23, 65, 0, 0], 0), (0, [], 15), (50, [], 0), (12, [], 0), (10, [], 0), (0, [], 15), (4, [0], 0), (42, [9, 23, 65, 0, 0], 0), (0, [], 16), (50, [], 0), (12, [], 0), (10, [], 0), (80, [120, 5, 9], 0), (70, [], 0)]]
def cd_M_dryMany : List (List qm_Ins) := [
  [(0, [], 0), (5, [1], 0), (0, [], 0), (5, [2], 0), (64, [1], 0)],
  [(2, [2], 0), (4, [0], 0), (40, [9, 1], 0), (60, [3, 6], 0), (0, [], 0), (5, [3], 0), (64, [2], 0)],
  [(2, [3], 0), (4, [0], 0), (2, [2], 0), (80, [59, 2, 9], 0), (60, [3, 5], 0), (2, [1], 0), (4, [0], 0), (2, [2], 0), (2, [3], 0), (80, [125, 3, 9], 0), (61, [0, 3], 0), (0, [], 1), (63, [4], 0)],
  [(0, [], 0), (64, [4], 0)],
  [(10, [], 0), (5, [1], 0), (8, [3], 1), (63, [2], 0)],
  [(8, [2], 1), (63, [1], 0)],
  [(2, [1], 0), (70, [], 0)]]
def cd_M_isBeetle : List (List qm_Ins) := [
  [(4, [0], 0), (2, [1], 0), (2, [2], 0), (80, [122, 3, 9], 0), (0, [], 0), (5, [3], 0), (64, [1], 0)],
  [(2, [3], 0), (4, [0], 0), (80, [118, 1, 9], 0), (60, [3, 4], 0), (4, [0], 0), (42, [9, 3, 62, 0, 0], 0), (0, [], 720), (4, [0], 0), (42, [9, 0, 61, 0, 0], 0), (0, [], 3), (50, [], 0), (12, [], 0), (0, [], 1), (10, [], 0), (0, [], 5), (2, [3], 0), (12, [], 0), (10, [], 0), (50, [], 0), (0, [], 5), (60, [0, 2], 0), (63, [3], 0)],
  [(4, [0], 0), (2, [3], 0), (80, [117, 2, 9], 0), (4, [0], 0), (42, [9, 25, 67, 0, 0], 0), (0, [], 0), (54, [], 0), (61, [0, 3], 0), (0, [], 1), (73, [], 0)],
  [(8, [3], 1), (63, [1], 0)],
  [(0, [], 0), (73, [], 0)]]
def cd_M_of : List (List qm_Ins) := [
  [(4, [0], 0), (2, [1], 0), (2, [2], 0), (80, [62, 3, 9], 0), (61, [1, 1], 0), (0, [], -1), (70, [], 0)],
  [(2, [3], 0), (0, [], 0), (0, [], 5), (80, [57, 3, 0], 0), (61, [0, 2], 0), (4, [0], 0), (42, [9, 0, 61, 0, 0], 0), (4, [0], 0), (2, [1], 0), (2, [2], 0), (80, [60, 3, 9], 0), (2, [3], 0), (10, [], 0), (50, [], 0), (70, [], 0)],
  [(2, [3], 0), (0, [], 6), (60, [1, 3], 0), (4, [0], 0), (2, [1], 0), (2, [2], 0), (80, [123, 3, 9], 0), (70, [], 0)],
  [(2, [3], 0), (0, [], 7), (60, [1, 4], 0), (4, [0], 0), (2, [1], 0), (2, [2], 0), (80, [124, 3, 9], 0), (70, [], 0)],
  [(2, [3], 0), (0, [], 8), (60, [1, 6], 0), (4, [0], 0), (2, [1], 0), (2, [2], 0), (80, [125, 3, 9], 0), (61, [0, 5], 0), (0, [], 1), (63, [7], 0)],
  [(0, [], 0), (63, [7], 0)],
  [(0, [], -1), (64, [7], 0)],
  [(70, [], 0)]]
def cd_M_airIn : List (List qm_Ins) := [
  [(1, [], 0), (6, [1], 0), (0, [], 0), (5, [3], 0), (0, [], 0), (5, [4], 0), (0, [], 0), (5, [5], 0), (64, [1], 0)],
  [(2, [5], 0), (4, [0], 0), (40, [9, 1], 0), (60, [3, 8], 0), (0, [], 0), (5, [6], 0), (0, [], 0), (5, [7], 0), (64, [2], 0)],
  [(2, [7], 0), (4, [0], 0), (2, [5], 0), (80, [59, 2, 9], 0), (60, [3, 5], 0), (4, [0], 0), (2, [5], 0), (2, [7], 0), (80, [123, 3, 9], 0), (5, [8], 0), (3, [1], 0), (2, [8], 0), (30, [], 0), (2, [8], 0), (30, [], 0), (23, [], 0), (21, [], 0), (6, [1], 0), (2, [8], 0), (2, [6], 0), (60, [5, 3], 0), (2, [8], 0), (63, [4], 0)],
  [(2, [6], 0), (64, [4], 0)],
  [(5, [6], 0), (8, [7], 1), (63, [2], 0)],
  [(2, [3], 0), (2, [6], 0), (10, [], 0), (5, [3], 0), (4, [0], 0), (2, [5], 0), (80, [126, 2, 9], 0), (5, [7], 0), (2, [7], 0), (2, [4], 0), (60, [5, 6], 0), (2, [7], 0), (63, [7], 0)],
  [(2, [4], 0), (64, [7], 0)],
  [(5, [4], 0), (8, [5], 1), (63, [1], 0)],
  [(2, [4], 0), (61, [1, 9], 0), (0, [], 0), (63, [10], 0)],
  [(1, [], 1000), (1, [], 785), (3, [1], 0), (23, [], 0), (2, [3], 0), (30, [], 0), (2, [4], 0), (30, [], 0), (23, [], 0), (24, [], 0), (22, [], 0), (31, [], 0), (64, [10], 0)],
  [(70, [], 0)]]
def cd_M_beetles : List (List qm_Ins) := [
  [(0, [], 0), (5, [1], 0), (0, [], 0), (5, [2], 0), (64, [1], 0)],
  [(2, [2], 0), (4, [0], 0), (40, [9, 1], 0), (60, [3, 6], 0), (0, [], 0), (5, [3], 0), (64, [2], 0)],
  [(2, [3], 0), (4, [0], 0), (2, [2], 0), (80, [59, 2, 9], 0), (60, [3, 5], 0), (2, [1], 0), (4, [0], 0), (2, [2], 0), (2, [3], 0), (80, [130, 3, 9], 0), (61, [0, 3], 0), (0, [], 1), (63, [4], 0)],
  [(0, [], 0), (64, [4], 0)],
  [(10, [], 0), (5, [1], 0), (8, [3], 1), (63, [2], 0)],
  [(8, [2], 1), (63, [1], 0)],
  [(2, [1], 0), (70, [], 0)]]
def cd_M_stack : List (List qm_Ins) := [
  [(2, [1], 0), (0, [], 10), (0, [], 9), (4, [0], 0), (40, [9, 1], 0), (10, [], 0), (80, [57, 3, 0], 0), (61, [0, 1], 0), (4, [0], 0), (2, [1], 0), (0, [], 10), (11, [], 0), (80, [126, 2, 9], 0), (70, [], 0)],
  [(2, [1], 0), (0, [], 20), (0, [], 19), (4, [0], 0), (40, [9, 1], 0), (10, [], 0), (80, [57, 3, 0], 0), (61, [0, 2], 0), (4, [0], 0), (2, [1], 0), (0, [], 20), (11, [], 0), (80, [59, 2, 9], 0), (70, [], 0)],
  [(2, [1], 0), (65, [10, 3, 4, 5, 6, 7, 8, 9], 0)],
  [(4, [0], 0), (80, [127, 1, 9], 0), (70, [], 0)],
  [(4, [0], 0), (80, [128, 1, 9], 0), (70, [], 0)],
  [(4, [0], 0), (42, [9, 0, 61, 0, 0], 0), (0, [], 7), (50, [], 0), (70, [], 0)],
  [(4, [0], 0), (80, [63, 1, 9], 0), (70, [], 0)],
  [(4, [0], 0), (80, [129, 1, 9], 0), (70, [], 0)],
  [(4, [0], 0), (80, [132, 1, 9], 0), (70, [], 0)],
  [(4, [0], 0), (80, [133, 1, 9], 0), (70, [], 0)],
  [(0, [], -100000), (70, [], 0)]]
def cd_M_driedOf : List (List qm_Ins) := [
  [(4, [0], 0), (2, [1], 0), (2, [2], 0), (80, [122, 3, 9], 0), (0, [], 0), (5, [4], 0), (64, [1], 0)],
  [(2, [4], 0), (0, [], 4), (60, [3, 2], 0), (4, [0], 0), (42, [9, 23, 65, 0, 0], 0), (0, [], 8), (2, [4], 0), (10, [], 0), (4, [0], 0), (42, [9, 0, 61, 0, 0], 0), (2, [3], 0), (2, [4], 0), (10, [], 0), (50, [], 0), (51, [], 0), (8, [4], 1), (63, [1], 0)],
  [(4, [0], 0), (0, [], 0), (80, [119, 2, 9], 0), (5, [4], 0), (2, [4], 0), (61, [2, 3], 0), (4, [0], 0), (2, [4], 0), (80, [117, 2, 9], 0), (4, [0], 0), (42, [9, 23, 65, 0, 0], 0), (0, [], 0), (50, [], 0), (30, [], 0), (4, [0], 0), (42, [9, 24, 66, 0, 0], 0), (0, [], 0), (52, [], 0), (22, [], 0), (0, [], 0), (0, [], 2000), (80, [58, 3, 0], 0), (70, [], 0)],
  [(4, [0], 0), (42, [9, 23, 65, 0, 0], 0), (0, [], 0), (50, [], 0), (0, [], 10), (4, [0], 0), (42, [9, 23, 65, 0, 0], 0), (0, [], 11), (50, [], 0), (12, [], 0), (11, [], 0), (0, [], 2), (4, [0], 0), (42, [9, 23, 65, 0, 0], 0), (0, [], 8), (50, [], 0), (10, [], 0), (4, [0], 0), (42, [9, 23, 65, 0, 0], 0), (0, [], 9), (50, [], 0), (10, [], 0), (4, [0], 0), (42, [9, 23, 65, 0, 0], 0), (0, [], 6), (50, [], 0), (11, [], 0), (12, [], 0), (0, [], 40), (13, [], 0), (5, [5], 0), (4, [0], 0), (42, [9, 23, 65, 0, 0], 0), (0, [], 5), (50, [], 0), (0, [], 1), (60, [1, 4], 0), (4, [0], 0), (42, [9, 23, 65, 0, 0], 0), (0, [], 3), (50, [], 0), (61, [1, 4], 0), (0, [], 10), (4, [0], 0), (42, [9, 23, 65, 0, 0], 0), (0, [], 10), (50, [], 0), (12, [], 0), (63, [5], 0)],
  [(0, [], 0), (64, [5], 0)],
  [(5, [6], 0), (4, [0], 0), (42, [9, 23, 65, 0, 0], 0), (0, [], 0), (50, [], 0), (2, [5], 0), (11, [], 0), (2, [6], 0), (10, [], 0), (30, [], 0), (0, [], 0), (0, [], 2000), (80, [58, 3, 0], 0), (70, [], 0)]]
def cd_M_goBy : List (List qm_Ins) := [
  [(0, [], 20), (0, [], 4), (2, [1], 0), (12, [], 0), (10, [], 0), (5, [2], 0), (0, [], 0), (5, [3], 0), (64, [1], 0)],
  [(2, [3], 0), (4, [0], 0), (40, [9, 1], 0), (60, [3, 4], 0), (0, [], 0), (5, [4], 0), (64, [2], 0)],
  [(2, [4], 0), (4, [0], 0), (2, [3], 0), (80, [59, 2, 9], 0), (60, [3, 3], 0), (4, [0], 0), (42, [9, 26, 68, 0, 0], 0), (0, [], 8), (2, [3], 0), (12, [], 0), (2, [4], 0), (10, [], 0), (4, [0], 0), (2, [3], 0), (2, [4], 0), (2, [2], 0), (80, [135, 4, 9], 0), (51, [], 0), (8, [4], 1), (63, [2], 0)],
  [(8, [3], 1), (63, [1], 0)],
  [(0, [], 0), (5, [3], 0), (64, [5], 0)],
  [(2, [3], 0), (4, [0], 0), (40, [9, 1], 0), (60, [3, 8], 0), (0, [], 0), (5, [4], 0), (64, [6], 0)],
  [(2, [4], 0), (4, [0], 0), (2, [3], 0), (80, [59, 2, 9], 0), (60, [3, 7], 0), (4, [0], 0), (42, [9, 0, 61, 0, 0], 0), (4, [0], 0), (2, [3], 0), (2, [4], 0), (80, [60, 3, 9], 0), (0, [], 2), (10, [], 0), (4, [0], 0), (42, [9, 26, 68, 0, 0], 0), (0, [], 8), (2, [3], 0), (12, [], 0), (2, [4], 0), (10, [], 0), (50, [], 0), (51, [], 0), (8, [4], 1), (63, [6], 0)],
  [(8, [3], 1), (63, [5], 0)],
  [(4, [0], 0), (42, [9, 0, 61, 0, 0], 0), (4, [0], 0), (40, [9, 2], 0), (0, [], 0), (10, [], 0), (33, [], 0), (50, [], 0), (0, [], 1), (10, [], 0), (51, [], 0), (4, [0], 0), (42, [9, 0, 61, 0, 0], 0), (4, [0], 0), (40, [9, 2], 0), (0, [], 7), (10, [], 0), (50, [], 0), (61, [3, 9], 0), (4, [0], 0), (40, [9, 27], 0), (61, [0, 10], 0), (64, [9], 0)],
  [(72, [], 0)],
  [(4, [0], 0), (80, [127, 1, 9], 0), (5, [3], 0), (4, [0], 0), (80, [128, 1, 9], 0), (5, [4], 0), (2, [3], 0), (2, [4], 0), (60, [4, 11], 0), (2, [3], 0), (2, [4], 0), (15, [], 0), (60, [3, 12], 0), (64, [11], 0)],
  [(4, [0], 0), (42, [9, 0, 61, 0, 0], 0), (4, [0], 0), (40, [9, 2], 0), (0, [], 7), (10, [], 0), (4, [0], 0), (42, [9, 0, 61, 0, 0], 0), (4, [0], 0), (40, [9, 2], 0), (0, [], 0), (10, [], 0), (50, [], 0), (51, [], 0), (64, [12], 0)],
  [(72, [], 0)]]
def cd_M_week : List (List qm_Ins) := [
  [(4, [0], 0), (2, [1], 0), (80, [71, 2, 9], 0), (61, [0, 1], 0), (4, [0], 0), (42, [9, 0, 61, 0, 0], 0), (0, [], 0), (50, [], 0), (0, [], 399), (60, [1, 2], 0), (64, [1], 0)],
  [(0, [], -1), (70, [], 0)],
  [(4, [0], 0), (2, [1], 0), (80, [136, 2, 9], 0), (4, [0], 0), (42, [9, 0, 61, 0, 0], 0), (0, [], 0), (50, [], 0), (70, [], 0)]]
def cd_M_takeOff : List (List qm_Ins) := [
  [(2, [2], 0), (5, [3], 0), (64, [1], 0)],
  [(2, [3], 0), (0, [], 1), (10, [], 0), (4, [0], 0), (2, [1], 0), (80, [59, 2, 9], 0), (60, [3, 4], 0), (0, [], 0), (5, [4], 0), (64, [2], 0)],
  [(2, [4], 0), (0, [], 6), (60, [3, 3], 0), (4, [0], 0), (42, [9, 0, 61, 0, 0], 0), (4, [0], 0), (2, [1], 0), (2, [3], 0), (80, [60, 3, 9], 0), (2, [4], 0), (10, [], 0), (4, [0], 0), (42, [9, 0, 61, 0, 0], 0), (4, [0], 0), (2, [1], 0), (2, [3], 0), (0, [], 1), (10, [], 0), (80, [60, 3, 9], 0), (2, [4], 0), (10, [], 0), (50, [], 0), (51, [], 0), (8, [4], 1), (63, [2], 0)],
  [(8, [3], 1), (63, [1], 0)],
  [(4, [0], 0), (42, [9, 0, 61, 0, 0], 0), (4, [0], 0), (40, [9, 2], 0), (0, [], 120), (10, [], 0), (2, [1], 0), (10, [], 0), (33, [], 0), (50, [], 0), (0, [], 1), (11, [], 0), (51, [], 0), (72, [], 0)]]
def cd_M_takeOne : List (List qm_Ins) := [
  [(0, [], -1), (5, [1], 0), (0, [], 0), (5, [2], 0), (1, [], 0), (6, [3], 0), (0, [], 0), (5, [5], 0), (64, [1], 0)],
  [(2, [5], 0), (4, [0], 0), (40, [9, 1], 0), (60, [3, 9], 0), (4, [0], 0), (42, [9, 0, 61, 0, 0], 0), (4, [0], 0), (40, [9, 2], 0), (0, [], 7), (10, [], 0), (50, [], 0), (61, [2, 2], 0), (0, [], 0), (63, [3], 0)],
  [(4, [0], 0), (2, [5], 0), (80, [59, 2, 9], 0), (0, [], 1), (11, [], 0), (64, [3], 0)],
  [(5, [6], 0), (64, [4], 0)],
  [(2, [6], 0), (61, [2, 8], 0), (2, [6], 0), (4, [0], 0), (2, [5], 0), (80, [59, 2, 9], 0), (60, [3, 8], 0), (4, [0], 0), (2, [5], 0), (2, [6], 0), (80, [122, 3, 9], 0), (4, [0], 0), (42, [9, 23, 65, 0, 0], 0), (0, [], 0), (50, [], 0), (15, [], 0), (30, [], 0), (6, [7], 0), (4, [0], 0), (0, [], 3), (80, [119, 2, 9], 0), (5, [9], 0), (2, [9], 0), (61, [2, 5], 0), (4, [0], 0), (2, [9], 0), (80, [117, 2, 9], 0), (4, [0], 0), (42, [9, 24, 66, 0, 0], 0), (0, [], 0), (52, [], 0), (6, [7], 0), (64, [5], 0)],
  [(2, [1], 0), (61, [2, 6], 0), (3, [7], 0), (3, [3], 0), (29, [], 0), (61, [4, 6], 0), (63, [7], 0)],
  [(2, [5], 0), (5, [1], 0), (2, [6], 0), (5, [2], 0), (3, [7], 0), (6, [3], 0), (64, [7], 0)],
  [(8, [6], 1), (63, [4], 0)],
  [(8, [5], 1), (63, [1], 0)],
  [(4, [0], 0), (2, [1], 0), (2, [2], 0), (80, [124, 3, 9], 0), (5, [5], 0), (4, [0], 0), (2, [1], 0), (2, [2], 0), (80, [138, 3, 9], 0), (2, [5], 0), (70, [], 0)]]
def cd_M_take : List (List qm_Ins) := [
  [(2, [1], 0), (0, [], 1), (0, [], 48), (80, [57, 3, 0], 0), (61, [0, 1], 0), (2, [1], 0), (4, [0], 0), (80, [63, 1, 9], 0), (60, [5, 2], 0), (64, [1], 0)],
  [(0, [], -1), (70, [], 0)],
  [(0, [], 0), (5, [2], 0), (0, [], 0), (5, [3], 0), (64, [3], 0)],
  [(2, [3], 0), (2, [1], 0), (60, [3, 4], 0), (2, [2], 0), (4, [0], 0), (80, [139, 1, 9], 0), (10, [], 0), (5, [2], 0), (8, [3], 1), (63, [3], 0)],
  [(2, [2], 0), (70, [], 0)]]
def cd_M_tries : List (List qm_Ins) := [
  [(4, [0], 0), (0, [], 420), (2, [1], 0), (12, [], 0), (44, [9, 2], 0), (72, [], 0)]]
def cd_M_isTried : List (List qm_Ins) := [
  [(2, [1], 0), (0, [], 0), (2, [2], 0), (80, [57, 3, 0], 0), (61, [0, 2], 0), (2, [1], 0), (61, [0, 1], 0), (4, [0], 0), (42, [9, 0, 61, 0, 0], 0), (0, [], 1), (50, [], 0), (61, [5, 2], 0), (64, [1], 0)],
  [(4, [0], 0), (42, [9, 0, 61, 0, 0], 0), (0, [], 0), (50, [], 0), (2, [1], 0), (10, [], 0), (0, [], 399), (60, [4, 2], 0), (0, [], 1), (63, [3], 0)],
  [(0, [], 0), (64, [3], 0)],
  [(73, [], 0)]]
def cd_M_keepOrder : List (List qm_Ins) := [
  [(4, [0], 0), (40, [9, 31], 0), (61, [2, 1], 0), (2, [2], 0), (4, [0], 0), (40, [9, 31], 0), (60, [4, 1], 0), (72, [], 0)],
  [(4, [0], 0), (2, [2], 0), (44, [9, 31], 0), (0, [], 0), (5, [3], 0), (64, [2], 0)],
  [(2, [3], 0), (0, [], 5), (60, [3, 5], 0), (4, [0], 0), (42, [9, 30, 71, 0, 0], 0), (2, [3], 0), (2, [3], 0), (2, [1], 0), (60, [3, 3], 0), (4, [0], 0), (42, [9, 28, 69, 0, 0], 0), (2, [3], 0), (50, [], 0), (63, [4], 0)],
  [(0, [], -1), (64, [4], 0)],
  [(51, [], 0), (8, [3], 1), (63, [2], 0)],
  [(72, [], 0)]]
def cd_M_choosesNext : List (List qm_Ins) := [
  [(4, [0], 0), (0, [], 2), (2, [1], 0), (10, [], 0), (80, [141, 2, 9], 0), (4, [0], 0), (42, [9, 28, 69, 0, 0], 0), (2, [1], 0), (50, [], 0), (0, [], 1), (10, [], 0), (5, [2], 0), (64, [1], 0)],
  [(2, [2], 0), (4, [0], 0), (40, [9, 1], 0), (60, [3, 2], 0), (4, [0], 0), (2, [2], 0), (80, [59, 2, 9], 0), (61, [1, 2], 0), (8, [2], 1), (63, [1], 0)],
  [(4, [0], 0), (42, [9, 28, 69, 0, 0], 0), (2, [1], 0), (2, [2], 0), (51, [], 0), (2, [2], 0), (4, [0], 0), (40, [9, 1], 0), (60, [3, 3], 0), (0, [], 1), (63, [4], 0)],
  [(0, [], 0), (64, [4], 0)],
  [(73, [], 0)]]
def cd_M_findOrder : List (List qm_Ins) := [
  [(4, [0], 0), (0, [], -1), (44, [9, 31], 0), (4, [0], 0), (0, [], 0), (0, [], 2), (80, [56, 3, 9], 0), (4, [0], 0), (42, [9, 29, 70, 0, 0], 0), (0, [], 0), (0, [], 0), (51, [], 0), (0, [], 0), (5, [2], 0), (4, [0], 0), (42, [9, 28, 69, 0, 0], 0), (0, [], 0), (0, [], -1), (51, [], 0), (64, [1], 0)],
  [(2, [2], 0), (61, [2, 7], 0), (4, [0], 0), (42, [9, 28, 69, 0, 0], 0), (2, [2], 0), (50, [], 0), (0, [], -1), (60, [1, 2], 0), (0, [], 1), (63, [3], 0)],
  [(0, [], 0), (64, [3], 0)],
  [(5, [3], 0), (4, [0], 0), (2, [2], 0), (80, [144, 2, 9], 0), (61, [1, 5], 0), (2, [3], 0), (61, [0, 4], 0), (4, [0], 0), (2, [2], 0), (4, [0], 0), (42, [9, 29, 70, 0, 0], 0), (2, [2], 0), (50, [], 0), (80, [143, 3, 9], 0), (64, [4], 0)],
  [(8, [2], -1), (63, [1], 0)],
  [(4, [0], 0), (42, [9, 29, 70, 0, 0], 0), (2, [2], 0), (0, [], 1), (10, [], 0), (4, [0], 0), (42, [9, 29, 70, 0, 0], 0), (2, [2], 0), (50, [], 0), (4, [0], 0), (4, [0], 0), (42, [9, 28, 69, 0, 0], 0), (2, [2], 0), (50, [], 0), (4, [0], 0), (4, [0], 0), (42, [9, 28, 69, 0, 0], 0), (2, [2], 0), (50, [], 0), (80, [59, 2, 9], 0), (0, [], 1), (11, [], 0), (80, [124, 3, 9], 0), (10, [], 0), (51, [], 0), (2, [2], 0), (0, [], 1), (10, [], 0), (2, [1], 0), (60, [1, 6], 0), (4, [0], 0), (2, [1], 0), (4, [0], 0), (42, [9, 29, 70, 0, 0], 0), (2, [1], 0), (50, [], 0), (80, [143, 3, 9], 0), (63, [1], 0)],
  [(4, [0], 0), (0, [], 2), (2, [2], 0), (10, [], 0), (0, [], 2), (2, [2], 0), (10, [], 0), (0, [], 1), (10, [], 0), (80, [56, 3, 9], 0), (4, [0], 0), (0, [], 2), (2, [2], 0), (10, [], 0), (0, [], 1), (10, [], 0), (80, [141, 2, 9], 0), (4, [0], 0), (42, [9, 0, 61, 0, 0], 0), (4, [0], 0), (40, [9, 2], 0), (0, [], 120), (10, [], 0), (4, [0], 0), (42, [9, 28, 69, 0, 0], 0), (2, [2], 0), (50, [], 0), (10, [], 0), (33, [], 0), (50, [], 0), (0, [], 1), (11, [], 0), (51, [], 0), (4, [0], 0), (4, [0], 0), (42, [9, 0, 61, 0, 0], 0), (0, [], 70), (2, [2], 0), (10, [], 0), (50, [], 0), (80, [136, 2, 9], 0), (8, [2], 1), (4, [0], 0), (42, [9, 28, 69, 0, 0], 0), (2, [2], 0), (0, [], -1), (51, [], 0), (63, [1], 0)],
  [(4, [0], 0), (0, [], 0), (80, [141, 2, 9], 0), (72, [], 0)]]
def cd_M_order : List (List qm_Ins) := [
  [(2, [1], 0), (0, [], 1), (0, [], 5), (80, [57, 3, 0], 0), (61, [0, 1], 0), (4, [0], 0), (2, [1], 0), (0, [], 5), (80, [142, 3, 9], 0), (61, [0, 1], 0), (2, [2], 0), (61, [0, 2], 0), (2, [2], 0), (0, [], 10), (0, [], 9), (2, [1], 0), (10, [], 0), (80, [57, 3, 0], 0), (61, [1, 2], 0), (64, [1], 0)],
  [(0, [], -1), (70, [], 0)],
  [(4, [0], 0), (2, [1], 0), (80, [145, 2, 9], 0), (2, [2], 0), (61, [1, 3], 0), (4, [0], 0), (40, [9, 31], 0), (63, [4], 0)],
  [(4, [0], 0), (42, [9, 30, 71, 0, 0], 0), (2, [2], 0), (0, [], 10), (11, [], 0), (50, [], 0), (64, [4], 0)],
  [(70, [], 0)]]
def cd_M_goOn : List (List qm_Ins) := [
  [(4, [0], 0), (42, [9, 0, 61, 0, 0], 0), (4, [0], 0), (40, [9, 2], 0), (0, [], 7), (10, [], 0), (50, [], 0), (61, [2, 1], 0), (0, [], 0), (63, [2], 0)],
  [(2, [1], 0), (0, [], 1), (10, [], 0), (64, [2], 0)],
  [(5, [2], 0), (0, [], 0), (5, [3], 0), (64, [3], 0)],
  [(2, [3], 0), (2, [1], 0), (60, [3, 5], 0), (4, [0], 0), (4, [0], 0), (42, [9, 0, 61, 0, 0], 0), (0, [], 70), (2, [3], 0), (10, [], 0), (50, [], 0), (80, [136, 2, 9], 0), (4, [0], 0), (42, [9, 0, 61, 0, 0], 0), (4, [0], 0), (40, [9, 2], 0), (0, [], 7), (10, [], 0), (50, [], 0), (61, [2, 4], 0), (2, [2], 0), (2, [1], 0), (60, [5, 4], 0), (2, [3], 0), (0, [], 1), (10, [], 0), (5, [2], 0), (64, [4], 0)],
  [(8, [3], 1), (63, [3], 0)],
  [(2, [2], 0), (70, [], 0)]]
def cd_M_tryWays : List (List qm_Ins) := [
  [(0, [], 0), (5, [2], 0), (64, [1], 0)],
  [(2, [2], 0), (0, [], 8), (60, [3, 8], 0), (4, [0], 0), (0, [], 0), (0, [], 2), (80, [56, 3, 9], 0), (4, [0], 0), (0, [], 2), (80, [141, 2, 9], 0), (0, [], 0), (5, [3], 0), (64, [2], 0)],
  [(2, [3], 0), (4, [0], 0), (40, [9, 1], 0), (60, [3, 7], 0), (0, [], 0), (5, [4], 0), (64, [3], 0)],
  [(2, [4], 0), (4, [0], 0), (2, [3], 0), (80, [59, 2, 9], 0), (60, [3, 6], 0), (4, [0], 0), (42, [9, 0, 61, 0, 0], 0), (4, [0], 0), (2, [3], 0), (2, [4], 0), (80, [60, 3, 9], 0), (0, [], 3), (10, [], 0), (2, [2], 0), (0, [], 2), (14, [], 0), (61, [1, 4], 0), (0, [], 1), (63, [5], 0)],
  [(0, [], 0), (64, [5], 0)],
  [(51, [], 0), (8, [4], 1), (63, [3], 0)],
  [(8, [3], 1), (63, [2], 0)],
  [(4, [0], 0), (42, [9, 0, 61, 0, 0], 0), (4, [0], 0), (40, [9, 2], 0), (0, [], 5), (10, [], 0), (2, [2], 0), (0, [], 2), (13, [], 0), (0, [], 2), (14, [], 0), (51, [], 0), (4, [0], 0), (42, [9, 0, 61, 0, 0], 0), (4, [0], 0), (40, [9, 2], 0), (0, [], 6), (10, [], 0), (2, [2], 0), (0, [], 4), (13, [], 0), (51, [], 0), (4, [0], 0), (42, [9, 33, 73, 0, 0], 0), (2, [2], 0), (4, [0], 0), (2, [1], 0), (80, [147, 2, 9], 0), (51, [], 0), (4, [0], 0), (42, [9, 32, 72, 0, 0], 0), (2, [2], 0), (4, [0], 0), (80, [129, 1, 9], 0), (51, [], 0), (8, [2], 1), (63, [1], 0)],
  [(4, [0], 0), (0, [], 0), (80, [141, 2, 9], 0), (72, [], 0)]]
def cd_M_bestOf : List (List qm_Ins) := [
  [(0, [], 0), (5, [1], 0), (0, [], 1), (5, [2], 0), (64, [1], 0)],
  [(2, [2], 0), (0, [], 8), (60, [3, 4], 0), (4, [0], 0), (2, [2], 0), (50, [], 0), (4, [0], 0), (2, [1], 0), (50, [], 0), (60, [5, 2], 0), (2, [2], 0), (63, [3], 0)],
  [(2, [1], 0), (64, [3], 0)],
  [(5, [1], 0), (8, [2], 1), (63, [1], 0)],
  [(2, [1], 0), (70, [], 0)]]
def cd_M_way : List (List qm_Ins) := [
  [(2, [1], 0), (0, [], 1), (0, [], 40), (80, [57, 3, 0], 0), (61, [0, 3], 0), (4, [0], 0), (2, [1], 0), (0, [], 40), (80, [142, 3, 9], 0), (61, [0, 3], 0), (2, [2], 0), (0, [], -1), (0, [], 7), (80, [57, 3, 0], 0), (61, [0, 3], 0), (2, [3], 0), (0, [], 0), (2, [2], 0), (61, [3, 1], 0), (0, [], 2), (63, [2], 0)],
  [(0, [], 1), (64, [2], 0)],
  [(80, [57, 3, 0], 0), (61, [1, 4], 0), (64, [3], 0)],
  [(0, [], -1), (70, [], 0)],
  [(4, [0], 0), (2, [1], 0), (80, [148, 2, 9], 0), (2, [2], 0), (61, [2, 7], 0), (2, [3], 0), (61, [1, 5], 0), (4, [0], 0), (42, [9, 32, 72, 0, 0], 0), (2, [2], 0), (50, [], 0), (63, [6], 0)],
  [(4, [0], 0), (42, [9, 33, 73, 0, 0], 0), (2, [2], 0), (50, [], 0), (64, [6], 0)],
  [(70, [], 0)],
  [(4, [0], 0), (42, [9, 32, 72, 0, 0], 0), (80, [149, 1, 0], 0), (5, [4], 0), (4, [0], 0), (42, [9, 33, 73, 0, 0], 0), (80, [149, 1, 0], 0), (5, [5], 0), (2, [3], 0), (0, [], 2), (60, [3, 10], 0), (2, [3], 0), (61, [1, 8], 0), (2, [4], 0), (63, [9], 0)],
  [(2, [5], 0), (64, [9], 0)],
  [(70, [], 0)],
  [(0, [], 0), (5, [6], 0), (64, [11], 0)],
  [(2, [6], 0), (0, [], 8), (60, [3, 13], 0), (4, [0], 0), (42, [9, 32, 72, 0, 0], 0), (2, [6], 0), (50, [], 0), (4, [0], 0), (42, [9, 32, 72, 0, 0], 0), (2, [4], 0), (50, [], 0), (60, [1, 12], 0), (4, [0], 0), (42, [9, 33, 73, 0, 0], 0), (2, [6], 0), (50, [], 0), (4, [0], 0), (42, [9, 33, 73, 0, 0], 0), (2, [5], 0), (50, [], 0), (60, [1, 12], 0), (2, [6], 0), (70, [], 0)],
  [(8, [6], 1), (63, [11], 0)],
  [(0, [], -1), (70, [], 0)]]
def cd_M_tryEnds : List (List qm_Ins) := [
  [(4, [0], 0), (0, [], 0), (0, [], 2), (80, [56, 3, 9], 0), (4, [0], 0), (0, [], 2), (80, [141, 2, 9], 0), (0, [], 0), (5, [4], 0), (64, [1], 0)],
  [(2, [4], 0), (4, [0], 0), (40, [9, 1], 0), (60, [3, 6], 0), (0, [], 0), (5, [5], 0), (64, [2], 0)],
  [(2, [5], 0), (4, [0], 0), (2, [4], 0), (80, [59, 2, 9], 0), (60, [3, 5], 0), (4, [0], 0), (2, [4], 0), (2, [5], 0), (80, [60, 3, 9], 0), (5, [6], 0), (4, [0], 0), (42, [9, 0, 61, 0, 0], 0), (2, [6], 0), (0, [], 2), (10, [], 0), (4, [0], 0), (42, [9, 0, 61, 0, 0], 0), (2, [6], 0), (0, [], 4), (10, [], 0), (50, [], 0), (0, [], -1), (60, [1, 3], 0), (4, [0], 0), (42, [9, 0, 61, 0, 0], 0), (0, [], 10), (0, [], 2), (4, [0], 0), (42, [9, 0, 61, 0, 0], 0), (2, [6], 0), (50, [], 0), (12, [], 0), (10, [], 0), (2, [2], 0), (10, [], 0), (50, [], 0), (63, [4], 0)],
  [(4, [0], 0), (42, [9, 0, 61, 0, 0], 0), (2, [6], 0), (0, [], 4), (10, [], 0), (2, [2], 0), (10, [], 0), (50, [], 0), (64, [4], 0)],
  [(51, [], 0), (8, [5], 1), (63, [2], 0)],
  [(8, [4], 1), (63, [1], 0)],
  [(4, [0], 0), (2, [1], 0), (80, [147, 2, 9], 0), (34, [], 0), (0, [], 0), (5, [4], 0), (64, [7], 0)],
  [(2, [4], 0), (4, [0], 0), (40, [9, 1], 0), (60, [3, 10], 0), (0, [], 0), (5, [5], 0), (64, [8], 0)],
  [(2, [5], 0), (4, [0], 0), (2, [4], 0), (80, [59, 2, 9], 0), (60, [3, 9], 0), (4, [3], 0), (0, [], 8), (2, [4], 0), (12, [], 0), (2, [5], 0), (10, [], 0), (4, [0], 0), (42, [9, 0, 61, 0, 0], 0), (4, [0], 0), (2, [4], 0), (2, [5], 0), (80, [60, 3, 9], 0), (0, [], 2), (10, [], 0), (50, [], 0), (51, [], 0), (8, [5], 1), (63, [8], 0)],
  [(8, [4], 1), (63, [7], 0)],
  [(4, [0], 0), (0, [], 0), (80, [141, 2, 9], 0), (72, [], 0)]]
def cd_M_lesser : List (List qm_Ins) := [
  [(4, [0], 0), (42, [9, 34, 74, 0, 0], 0), (2, [1], 0), (50, [], 0), (4, [0], 0), (42, [9, 35, 75, 0, 0], 0), (2, [1], 0), (50, [], 0), (60, [3, 1], 0), (4, [0], 0), (42, [9, 34, 74, 0, 0], 0), (2, [1], 0), (50, [], 0), (63, [2], 0)],
  [(4, [0], 0), (42, [9, 35, 75, 0, 0], 0), (2, [1], 0), (50, [], 0), (64, [2], 0)],
  [(70, [], 0)]]
def cd_M_greater : List (List qm_Ins) := [
  [(4, [0], 0), (42, [9, 34, 74, 0, 0], 0), (2, [1], 0), (50, [], 0), (4, [0], 0), (42, [9, 35, 75, 0, 0], 0), (2, [1], 0), (50, [], 0), (60, [5, 1], 0), (4, [0], 0), (42, [9, 34, 74, 0, 0], 0), (2, [1], 0), (50, [], 0), (63, [2], 0)],
  [(4, [0], 0), (42, [9, 35, 75, 0, 0], 0), (2, [1], 0), (50, [], 0), (64, [2], 0)],
  [(70, [], 0)]]
def cd_M_spans : List (List qm_Ins) := [
  [(4, [0], 0), (2, [1], 0), (0, [], 40), (80, [142, 3, 9], 0), (61, [0, 1], 0), (4, [0], 0), (2, [2], 0), (2, [3], 0), (80, [62, 3, 9], 0), (61, [0, 1], 0), (2, [4], 0), (0, [], 0), (0, [], 1), (80, [57, 3, 0], 0), (61, [1, 2], 0), (64, [1], 0)],
  [(0, [], -1), (70, [], 0)],
  [(4, [0], 0), (2, [1], 0), (0, [], 0), (4, [0], 0), (42, [9, 34, 74, 0, 0], 0), (80, [151, 4, 9], 0), (4, [0], 0), (2, [1], 0), (0, [], 1), (4, [0], 0), (42, [9, 35, 75, 0, 0], 0), (80, [151, 4, 9], 0), (2, [4], 0), (61, [1, 3], 0), (4, [0], 0), (0, [], 8), (2, [2], 0), (12, [], 0), (2, [3], 0), (10, [], 0), (80, [152, 2, 9], 0), (63, [4], 0)],
  [(4, [0], 0), (0, [], 8), (2, [2], 0), (12, [], 0), (2, [3], 0), (10, [], 0), (80, [153, 2, 9], 0), (64, [4], 0)],
  [(70, [], 0)]]
def cd_M_sure : List (List qm_Ins) := [
  [(4, [0], 0), (2, [1], 0), (0, [], 40), (80, [142, 3, 9], 0), (61, [0, 1], 0), (2, [2], 0), (0, [], 0), (0, [], 2), (80, [57, 3, 0], 0), (61, [1, 2], 0), (64, [1], 0)],
  [(0, [], -1), (70, [], 0)],
  [(4, [0], 0), (2, [1], 0), (0, [], 0), (4, [0], 0), (42, [9, 34, 74, 0, 0], 0), (80, [151, 4, 9], 0), (4, [0], 0), (2, [1], 0), (0, [], 1), (4, [0], 0), (42, [9, 35, 75, 0, 0], 0), (80, [151, 4, 9], 0), (0, [], 0), (5, [3], 0), (0, [], -1), (5, [4], 0), (0, [], 0), (5, [5], 0), (0, [], 0), (5, [6], 0), (64, [3], 0)],
  [(2, [6], 0), (4, [0], 0), (40, [9, 1], 0), (60, [3, 12], 0), (0, [], 0), (5, [7], 0), (64, [4], 0)],
  [(2, [7], 0), (4, [0], 0), (2, [6], 0), (80, [59, 2, 9], 0), (60, [3, 11], 0), (0, [], 8), (2, [6], 0), (12, [], 0), (2, [7], 0), (10, [], 0), (5, [8], 0), (2, [3], 0), (2, [2], 0), (61, [1, 5], 0), (4, [0], 0), (2, [8], 0), (80, [153, 2, 9], 0), (63, [6], 0)],
  [(4, [0], 0), (2, [8], 0), (80, [152, 2, 9], 0), (64, [6], 0)],
  [(0, [], 200), (60, [4, 7], 0), (0, [], 1), (63, [8], 0)],
  [(0, [], 0), (64, [8], 0)],
  [(10, [], 0), (5, [3], 0), (4, [0], 0), (2, [8], 0), (80, [153, 2, 9], 0), (4, [0], 0), (2, [8], 0), (80, [152, 2, 9], 0), (11, [], 0), (5, [9], 0), (4, [0], 0), (42, [9, 0, 61, 0, 0], 0), (4, [0], 0), (2, [6], 0), (2, [7], 0), (80, [60, 3, 9], 0), (0, [], 4), (10, [], 0), (50, [], 0), (0, [], -1), (60, [1, 10], 0), (2, [9], 0), (2, [5], 0), (60, [4, 9], 0), (63, [10], 0)],
  [(2, [9], 0), (5, [5], 0), (0, [], 10), (2, [6], 0), (12, [], 0), (2, [7], 0), (10, [], 0), (5, [4], 0), (64, [10], 0)],
  [(8, [7], 1), (63, [4], 0)],
  [(8, [6], 1), (63, [3], 0)],
  [(2, [2], 0), (0, [], 2), (60, [1, 13], 0), (2, [4], 0), (63, [14], 0)],
  [(2, [3], 0), (64, [14], 0)],
  [(70, [], 0)]]
def cd_M_small : List (List qm_Ins) := [
  [(4, [0], 0), (2, [3], 0), (0, [], 40), (80, [142, 3, 9], 0), (61, [0, 1], 0), (2, [1], 0), (0, [], 0), (0, [], 3), (80, [57, 3, 0], 0), (61, [0, 1], 0), (2, [2], 0), (0, [], 0), (0, [], 2000), (80, [57, 3, 0], 0), (61, [1, 2], 0), (64, [1], 0)],
  [(0, [], -1), (70, [], 0)],
  [(0, [], -1), (5, [4], 0), (0, [], 20), (5, [5], 0), (64, [3], 0)],
  [(2, [5], 0), (61, [5, 7], 0), (2, [4], 0), (61, [3, 7], 0), (4, [0], 0), (0, [], 0), (0, [], 2), (80, [56, 3, 9], 0), (4, [0], 0), (0, [], 2), (80, [141, 2, 9], 0), (0, [], 0), (5, [6], 0), (64, [4], 0)],
  [(2, [6], 0), (4, [0], 0), (40, [9, 1], 0), (60, [3, 5], 0), (4, [0], 0), (42, [9, 0, 61, 0, 0], 0), (4, [0], 0), (40, [9, 2], 0), (0, [], 120), (10, [], 0), (2, [6], 0), (10, [], 0), (0, [], 0), (51, [], 0), (8, [6], 1), (63, [4], 0)],
  [(4, [0], 0), (42, [9, 0, 61, 0, 0], 0), (4, [0], 0), (40, [9, 2], 0), (0, [], 7), (10, [], 0), (0, [], -1), (51, [], 0), (4, [0], 0), (0, [], 0), (2, [1], 0), (2, [5], 0), (2, [2], 0), (80, [65, 5, 9], 0), (4, [0], 0), (0, [], 1), (47, [9, 27], 0), (4, [0], 0), (2, [3], 0), (80, [147, 2, 9], 0), (34, [], 0), (4, [0], 0), (0, [], 0), (47, [9, 27], 0), (4, [0], 0), (0, [], 0), (0, [], 0), (80, [125, 3, 9], 0), (61, [0, 6], 0), (2, [5], 0), (5, [4], 0), (64, [6], 0)],
  [(8, [5], -1), (63, [3], 0)],
  [(4, [0], 0), (0, [], 0), (80, [141, 2, 9], 0), (2, [4], 0), (70, [], 0)]]
def cd_M_winter : List (List qm_Ins) := [
  [(2, [1], 0), (0, [], 1), (0, [], 999999), (80, [57, 3, 0], 0), (61, [1, 1], 0), (0, [], -1), (70, [], 0)],
  [(0, [], 0), (5, [2], 0), (64, [2], 0)],
  [(2, [2], 0), (0, [], 48), (60, [3, 3], 0), (4, [0], 0), (42, [9, 36, 76, 0, 0], 0), (2, [2], 0), (0, [], 0), (55, [], 0), (8, [2], 1), (63, [2], 0)],
  [(0, [], 0), (5, [2], 0), (0, [], 1), (5, [3], 0), (64, [4], 0)],
  [(2, [3], 0), (4, [0], 0), (80, [63, 1, 9], 0), (60, [4, 12], 0), (0, [], -1), (5, [4], 0), (0, [], 0), (5, [5], 0), (0, [], 0), (5, [6], 0), (64, [5], 0)],
  [(2, [6], 0), (4, [0], 0), (40, [9, 1], 0), (60, [3, 10], 0), (0, [], 0), (5, [7], 0), (64, [6], 0)],
  [(2, [7], 0), (4, [0], 0), (2, [6], 0), (80, [59, 2, 9], 0), (60, [3, 9], 0), (4, [0], 0), (42, [9, 36, 76, 0, 0], 0), (0, [], 8), (2, [6], 0), (12, [], 0), (2, [7], 0), (10, [], 0), (54, [], 0), (61, [1, 8], 0), (2, [4], 0), (61, [2, 7], 0), (4, [0], 0), (2, [6], 0), (2, [7], 0), (80, [124, 3, 9], 0), (2, [5], 0), (60, [4, 7], 0), (63, [8], 0)],
  [(0, [], 8), (2, [6], 0), (12, [], 0), (2, [7], 0), (10, [], 0), (5, [4], 0), (4, [0], 0), (2, [6], 0), (2, [7], 0), (80, [124, 3, 9], 0), (5, [5], 0), (64, [8], 0)],
  [(8, [7], 1), (63, [6], 0)],
  [(8, [6], 1), (63, [5], 0)],
  [(4, [0], 0), (42, [9, 36, 76, 0, 0], 0), (2, [4], 0), (0, [], 1), (55, [], 0), (2, [2], 0), (2, [5], 0), (10, [], 0), (5, [2], 0), (2, [2], 0), (2, [1], 0), (60, [2, 11], 0), (2, [3], 0), (70, [], 0)],
  [(8, [3], 1), (63, [4], 0)],
  [(0, [], -1), (70, [], 0)]]
def cd_M_remember : List (List qm_Ins) := [
  [(0, [], 0), (5, [1], 0), (64, [1], 0)],
  [(2, [1], 0), (4, [0], 0), (40, [9, 1], 0), (60, [3, 2], 0), (4, [0], 0), (42, [9, 0, 61, 0, 0], 0), (0, [], 112), (2, [1], 0), (10, [], 0), (4, [0], 0), (2, [1], 0), (80, [59, 2, 9], 0), (51, [], 0), (8, [1], 1), (63, [1], 0)],
  [(4, [0], 0), (42, [9, 0, 61, 0, 0], 0), (0, [], 8), (0, [], 1), (51, [], 0), (4, [0], 0), (80, [63, 1, 9], 0), (70, [], 0)]]
def cd_M_missingOf : List (List qm_Ins) := [
  [(4, [0], 0), (42, [9, 0, 61, 0, 0], 0), (0, [], 112), (2, [1], 0), (10, [], 0), (50, [], 0), (4, [0], 0), (2, [1], 0), (80, [59, 2, 9], 0), (60, [5, 1], 0), (4, [0], 0), (42, [9, 0, 61, 0, 0], 0), (0, [], 112), (2, [1], 0), (10, [], 0), (50, [], 0), (4, [0], 0), (2, [1], 0), (80, [59, 2, 9], 0), (11, [], 0), (63, [2], 0)],
  [(0, [], 0), (64, [2], 0)],
  [(70, [], 0)]]
def cd_M_missing : List (List qm_Ins) := [
  [(4, [0], 0), (42, [9, 0, 61, 0, 0], 0), (0, [], 8), (50, [], 0), (61, [0, 2], 0), (2, [1], 0), (0, [], -1), (60, [0, 1], 0), (4, [0], 0), (2, [1], 0), (80, [61, 2, 9], 0), (61, [0, 2], 0), (2, [2], 0), (61, [1, 2], 0), (64, [1], 0)],
  [(2, [1], 0), (0, [], -1), (60, [1, 3], 0), (2, [2], 0), (0, [], 1), (0, [], 48), (80, [57, 3, 0], 0), (61, [1, 3], 0), (64, [2], 0)],
  [(0, [], -1), (70, [], 0)],
  [(2, [1], 0), (61, [2, 4], 0), (4, [0], 0), (2, [1], 0), (80, [159, 2, 9], 0), (70, [], 0)],
  [(0, [], 0), (5, [3], 0), (0, [], 0), (5, [4], 0), (64, [5], 0)],
  [(2, [4], 0), (4, [0], 0), (40, [9, 1], 0), (60, [3, 6], 0), (2, [3], 0), (4, [0], 0), (2, [4], 0), (80, [159, 2, 9], 0), (10, [], 0), (5, [3], 0), (8, [4], 1), (63, [5], 0)],
  [(2, [3], 0), (2, [2], 0), (10, [], 0), (0, [], 1), (11, [], 0), (2, [2], 0), (13, [], 0), (70, [], 0)]]
def cd_M_falls : List (List qm_Ins) := [
  [(2, [1], 0), (0, [], 0), (0, [], 9999), (80, [57, 3, 0], 0), (61, [0, 1], 0), (2, [2], 0), (0, [], 1), (0, [], 20), (80, [57, 3, 0], 0), (61, [0, 1], 0), (2, [1], 0), (2, [2], 0), (10, [], 0), (0, [], 10000), (60, [4, 1], 0), (2, [3], 0), (0, [], 1), (0, [], 40), (80, [57, 3, 0], 0), (61, [0, 1], 0), (4, [0], 0), (2, [3], 0), (0, [], 40), (80, [142, 3, 9], 0), (61, [1, 2], 0), (64, [1], 0)],
  [(0, [], -1), (70, [], 0)],
  [(0, [], 0), (5, [4], 0), (0, [], 0), (5, [5], 0), (64, [3], 0)],
  [(2, [5], 0), (2, [2], 0), (60, [3, 8], 0), (4, [0], 0), (0, [], 0), (0, [], 2), (80, [56, 3, 9], 0), (4, [0], 0), (0, [], 2), (80, [141, 2, 9], 0), (2, [1], 0), (2, [5], 0), (10, [], 0), (0, [], 7), (12, [], 0), (0, [], 4), (10, [], 0), (5, [6], 0), (0, [], 0), (5, [7], 0), (64, [4], 0)],
  [(2, [7], 0), (2, [3], 0), (60, [3, 5], 0), (4, [0], 0), (2, [6], 0), (4, [0], 0), (42, [9, 0, 61, 0, 0], 0), (0, [], 1), (50, [], 0), (14, [], 0), (80, [136, 2, 9], 0), (2, [6], 0), (0, [], 163), (12, [], 0), (0, [], 31), (10, [], 0), (0, [], 30097), (14, [], 0), (5, [6], 0), (8, [7], 1), (63, [4], 0)],
  [(2, [4], 0), (4, [0], 0), (42, [9, 0, 61, 0, 0], 0), (4, [0], 0), (40, [9, 2], 0), (0, [], 7), (10, [], 0), (50, [], 0), (61, [2, 6], 0), (0, [], 1), (63, [7], 0)],
  [(0, [], 0), (64, [7], 0)],
  [(10, [], 0), (5, [4], 0), (8, [5], 1), (63, [3], 0)],
  [(4, [0], 0), (0, [], 0), (80, [141, 2, 9], 0), (2, [4], 0), (70, [], 0)]]
def cd_M_image : List (List qm_Ins) := [
  [(4, [0], 0), (0, [], 0), (0, [], 1), (80, [56, 3, 9], 0), (4, [0], 0), (80, [63, 1, 9], 0), (70, [], 0)]]
def cd_M_back : List (List qm_Ins) := [
  [(4, [0], 0), (0, [], 1), (0, [], 0), (80, [56, 3, 9], 0), (4, [0], 0), (80, [63, 1, 9], 0), (70, [], 0)]]
def cd_M_about : List (List qm_Ins) := [
  [(2, [1], 0), (0, [], 10), (0, [], 49), (80, [57, 3, 0], 0), (61, [0, 1], 0), (4, [0], 0), (42, [9, 0, 61, 0, 0], 0), (0, [], 70), (2, [1], 0), (10, [], 0), (0, [], 10), (11, [], 0), (50, [], 0), (70, [], 0)],
  [(2, [1], 0), (65, [11, 2, 3, 4, 5, 6, 7, 8, 9, 10], 0)],
  [(4, [0], 0), (40, [9, 1], 0), (70, [], 0)],
  [(4, [0], 0), (42, [9, 0, 61, 0, 0], 0), (0, [], 0), (50, [], 0), (70, [], 0)],
  [(4, [0], 0), (42, [9, 0, 61, 0, 0], 0), (0, [], 1), (50, [], 0), (70, [], 0)],
  [(4, [0], 0), (42, [9, 0, 61, 0, 0], 0), (0, [], 2), (50, [], 0), (70, [], 0)],
  [(4, [0], 0), (42, [9, 0, 61, 0, 0], 0), (0, [], 3), (50, [], 0), (70, [], 0)],
  [(4, [0], 0), (42, [9, 0, 61, 0, 0], 0), (0, [], 4), (50, [], 0), (70, [], 0)],
  [(4, [0], 0), (42, [9, 0, 61, 0, 0], 0), (0, [], 5), (50, [], 0), (70, [], 0)],
  [(4, [0], 0), (42, [9, 0, 61, 0, 0], 0), (0, [], 6), (50, [], 0), (70, [], 0)],
  [(4, [0], 0), (40, [9, 5], 0), (70, [], 0)],
  [(0, [], -1), (70, [], 0)]]
def cd_L_thickOf : List (List qm_Ins) := [
  [(4, [0], 0), (43, [5, 0], 0), (0, [], 18), (80, [225, 2, 4], 0), (5, [4], 0), (2, [4], 0), (0, [], -1), (60, [0, 1], 0), (4, [0], 0), (4, [1], 0), (2, [2], 0), (2, [3], 0), (80, [178, 4, 5], 0), (4, [0], 0), (2, [4], 0), (80, [179, 2, 5], 0), (0, [], 1), (0, [], 999), (80, [182, 3, 0], 0), (70, [], 0)],
  [(2, [2], 0), (2, [3], 0), (80, [54, 2, 0], 0), (5, [5], 0), (4, [1], 0), (42, [3, 2, 12, 1, 0], 0), (2, [5], 0), (50, [], 0), (5, [6], 0), (4, [1], 0), (42, [3, 3, 13, 1, 0], 0), (2, [5], 0), (50, [], 0), (0, [], 300), (60, [3, 2], 0), (2, [6], 0), (0, [], 300), (4, [1], 0), (42, [3, 3, 13, 1, 0], 0), (2, [5], 0), (50, [], 0), (11, [], 0), (12, [], 0), (0, [], 100), (13, [], 0), (63, [3], 0)],
  [(0, [], 0), (64, [3], 0)],
  [(5, [7], 0), (0, [], 10), (2, [6], 0), (12, [], 0), (2, [7], 0), (11, [], 0), (70, [], 0)]]
def cd_L_heatOf : List (List qm_Ins) := [
  [(4, [0], 0), (43, [5, 0], 0), (0, [], 21), (80, [225, 2, 4], 0), (5, [4], 0), (2, [4], 0), (0, [], -1), (60, [0, 1], 0), (4, [0], 0), (4, [1], 0), (2, [2], 0), (2, [3], 0), (80, [178, 4, 5], 0), (4, [0], 0), (2, [4], 0), (80, [179, 2, 5], 0), (0, [], 0), (0, [], 9999), (80, [182, 3, 0], 0), (70, [], 0)],
  [(2, [2], 0), (2, [3], 0), (80, [54, 2, 0], 0), (5, [5], 0), (4, [1], 0), (42, [3, 2, 12, 1, 0], 0), (2, [5], 0), (50, [], 0), (0, [], 2500), (4, [1], 0), (42, [3, 3, 13, 1, 0], 0), (2, [5], 0), (50, [], 0), (11, [], 0), (12, [], 0), (0, [], 100), (13, [], 0), (70, [], 0)]]
def cd_L_worthOf : List (List qm_Ins) := [
  [(4, [0], 0), (43, [5, 0], 0), (0, [], 20), (80, [225, 2, 4], 0), (5, [4], 0), (2, [4], 0), (0, [], -1), (60, [0, 1], 0), (4, [0], 0), (4, [1], 0), (2, [2], 0), (2, [3], 0), (80, [178, 4, 5], 0), (4, [0], 0), (2, [4], 0), (80, [179, 2, 5], 0), (70, [], 0)],
  [(4, [1], 0), (42, [3, 3, 13, 1, 0], 0), (2, [2], 0), (2, [3], 0), (80, [54, 2, 0], 0), (50, [], 0), (15, [], 0), (70, [], 0)]]
def cd_L_standOf : List (List qm_Ins) := [
  [(4, [0], 0), (43, [5, 0], 0), (0, [], 19), (80, [225, 2, 4], 0), (5, [2], 0), (2, [2], 0), (0, [], -1), (60, [1, 1], 0), (0, [], 10), (4, [1], 0), (40, [3, 0], 0), (12, [], 0), (0, [], 20), (4, [1], 0), (40, [3, 10], 0), (12, [], 0), (10, [], 0), (0, [], 15), (4, [1], 0), (40, [3, 11], 0), (12, [], 0), (10, [], 0), (70, [], 0)],
  [(4, [0], 0), (42, [5, 1, 41, 0, 0], 0), (0, [], 13), (4, [1], 0), (40, [3, 0], 0), (51, [], 0), (4, [0], 0), (42, [5, 1, 41, 0, 0], 0), (0, [], 14), (4, [1], 0), (80, [194, 1, 3], 0), (51, [], 0), (4, [0], 0), (42, [5, 1, 41, 0, 0], 0), (0, [], 15), (4, [1], 0), (40, [3, 10], 0), (51, [], 0), (4, [0], 0), (42, [5, 1, 41, 0, 0], 0), (0, [], 16), (4, [1], 0), (40, [3, 11], 0), (51, [], 0), (4, [0], 0), (42, [5, 1, 41, 0, 0], 0), (0, [], 12), (4, [1], 0), (40, [3, 8], 0), (51, [], 0), (4, [0], 0), (2, [2], 0), (80, [179, 2, 5], 0), (0, [], 0), (0, [], 9999), (80, [182, 3, 0], 0), (70, [], 0)]]
def cd_L_heightOf : List (List qm_Ins) := [
  [(0, [], 0), (5, [3], 0), (0, [], 0), (5, [4], 0), (64, [1], 0)],
  [(2, [4], 0), (4, [1], 0), (42, [3, 7, 17, 1, 0], 0), (2, [2], 0), (50, [], 0), (60, [3, 2], 0), (2, [3], 0), (4, [0], 0), (4, [1], 0), (2, [2], 0), (2, [4], 0), (80, [166, 4, 5], 0), (10, [], 0), (5, [3], 0), (8, [4], 1), (63, [1], 0)],
  [(2, [3], 0), (70, [], 0)]]
def cd_L_leanOf : List (List qm_Ins) := [
  [(4, [0], 0), (4, [1], 0), (4, [1], 0), (40, [3, 0], 0), (0, [], 1), (11, [], 0), (80, [170, 3, 5], 0), (4, [0], 0), (4, [1], 0), (0, [], 0), (80, [170, 3, 5], 0), (11, [], 0), (70, [], 0)]]
def cd_L_airIn : List (List qm_Ins) := [
  [(0, [], 0), (5, [2], 0), (0, [], 0), (5, [3], 0), (1, [], 0), (6, [4], 0), (0, [], 0), (5, [6], 0), (64, [1], 0)],
  [(2, [6], 0), (4, [1], 0), (40, [3, 0], 0), (60, [3, 4], 0), (0, [], 0), (5, [7], 0), (0, [], 0), (5, [8], 0), (0, [], 0), (5, [9], 0), (64, [2], 0)],
  [(2, [9], 0), (4, [1], 0), (42, [3, 7, 17, 1, 0], 0), (2, [6], 0), (50, [], 0), (60, [3, 3], 0), (4, [0], 0), (4, [1], 0), (2, [6], 0), (2, [9], 0), (80, [166, 4, 5], 0), (5, [10], 0), (2, [7], 0), (2, [10], 0), (81, [], 0), (5, [7], 0), (2, [8], 0), (2, [10], 0), (10, [], 0), (5, [8], 0), (3, [4], 0), (2, [10], 0), (2, [10], 0), (12, [], 0), (30, [], 0), (21, [], 0), (6, [4], 0), (8, [9], 1), (63, [2], 0)],
  [(2, [2], 0), (2, [7], 0), (10, [], 0), (5, [2], 0), (2, [3], 0), (2, [8], 0), (81, [], 0), (5, [3], 0), (8, [6], 1), (63, [1], 0)],
  [(2, [2], 0), (30, [], 0), (2, [3], 0), (30, [], 0), (23, [], 0), (6, [6], 0), (3, [6], 0), (1, [], 0), (29, [], 0), (61, [1, 5], 0), (0, [], 0), (63, [6], 0)],
  [(1, [], 1000), (1, [], 785), (3, [4], 0), (23, [], 0), (3, [6], 0), (24, [], 0), (22, [], 0), (31, [], 0), (64, [6], 0)],
  [(70, [], 0)]]
def cd_L_beetlesIn : List (List qm_Ins) := [
  [(0, [], 0), (5, [2], 0), (0, [], 0), (5, [3], 0), (64, [1], 0)],
  [(2, [3], 0), (4, [1], 0), (40, [3, 0], 0), (60, [3, 6], 0), (0, [], 0), (5, [4], 0), (64, [2], 0)],
  [(2, [4], 0), (4, [1], 0), (42, [3, 7, 17, 1, 0], 0), (2, [3], 0), (50, [], 0), (60, [3, 5], 0), (2, [2], 0), (4, [0], 0), (4, [1], 0), (2, [3], 0), (2, [4], 0), (80, [174, 4, 5], 0), (61, [0, 3], 0), (0, [], 1), (63, [4], 0)],
  [(0, [], 0), (64, [4], 0)],
  [(10, [], 0), (5, [2], 0), (8, [4], 1), (63, [2], 0)],
  [(8, [3], 1), (63, [1], 0)],
  [(2, [2], 0), (70, [], 0)]]
def cd_L_hasBeetle : List (List qm_Ins) := [
  [(4, [0], 0), (4, [1], 0), (2, [2], 0), (2, [3], 0), (80, [178, 4, 5], 0), (0, [], 0), (5, [4], 0), (64, [1], 0)],
  [(2, [4], 0), (4, [0], 0), (43, [5, 0], 0), (40, [4, 6], 0), (60, [3, 3], 0), (4, [0], 0), (43, [5, 0], 0), (42, [4, 1, 32, 1, 0], 0), (2, [4], 0), (50, [], 0), (0, [], 22), (60, [1, 2], 0), (4, [0], 0), (2, [4], 0), (80, [179, 2, 5], 0), (61, [0, 2], 0), (0, [], 1), (73, [], 0)],
  [(8, [4], 1), (63, [1], 0)],
  [(0, [], 0), (73, [], 0)]]
def cd_L_pass : List (List qm_Ins) := [
  [(4, [0], 0), (4, [1], 0), (4, [2], 0), (2, [3], 0), (80, [176, 4, 5], 0), (4, [1], 0), (80, [185, 1, 3], 0), (61, [1, 1], 0), (4, [0], 0), (4, [1], 0), (4, [1], 0), (40, [3, 0], 0), (0, [], 1), (11, [], 0), (80, [170, 3, 5], 0), (4, [0], 0), (4, [1], 0), (0, [], 0), (80, [170, 3, 5], 0), (11, [], 0), (5, [4], 0), (2, [4], 0), (83, [], 0), (4, [0], 0), (4, [1], 0), (80, [169, 2, 5], 0), (60, [5, 1], 0), (4, [1], 0), (4, [1], 0), (40, [3, 8], 0), (44, [3, 9], 0), (64, [1], 0)],
  [(72, [], 0)]]
def cd_L_dryAll : List (List qm_Ins) := [
  [(2, [3], 0), (0, [], 0), (0, [], 11), (80, [53, 3, 0], 0), (61, [1, 1], 0), (72, [], 0)],
  [(4, [0], 0), (42, [5, 1, 41, 0, 0], 0), (0, [], 8), (4, [2], 0), (42, [2, 1, 21, 1, 0], 0), (2, [3], 0), (50, [], 0), (51, [], 0), (4, [0], 0), (42, [5, 1, 41, 0, 0], 0), (0, [], 9), (4, [2], 0), (42, [2, 2, 22, 1, 0], 0), (2, [3], 0), (50, [], 0), (51, [], 0), (4, [0], 0), (42, [5, 1, 41, 0, 0], 0), (0, [], 10), (4, [2], 0), (42, [2, 3, 23, 1, 0], 0), (2, [3], 0), (50, [], 0), (51, [], 0), (4, [0], 0), (42, [5, 1, 41, 0, 0], 0), (0, [], 11), (4, [2], 0), (42, [2, 4, 24, 1, 0], 0), (2, [3], 0), (50, [], 0), (51, [], 0), (0, [], 0), (5, [4], 0), (64, [2], 0)],
  [(2, [4], 0), (4, [1], 0), (40, [3, 0], 0), (60, [3, 5], 0), (0, [], 0), (5, [5], 0), (64, [3], 0)],
  [(2, [5], 0), (4, [1], 0), (42, [3, 7, 17, 1, 0], 0), (2, [4], 0), (50, [], 0), (60, [3, 4], 0), (2, [4], 0), (2, [5], 0), (80, [54, 2, 0], 0), (5, [6], 0), (4, [1], 0), (42, [3, 3, 13, 1, 0], 0), (2, [6], 0), (4, [1], 0), (42, [3, 3, 13, 1, 0], 0), (2, [6], 0), (50, [], 0), (4, [0], 0), (4, [1], 0), (2, [4], 0), (2, [5], 0), (80, [177, 4, 5], 0), (11, [], 0), (0, [], 0), (0, [], 2000), (80, [182, 3, 0], 0), (51, [], 0), (8, [5], 1), (63, [3], 0)],
  [(8, [4], 1), (63, [2], 0)],
  [(4, [1], 0), (32, [], 0), (40, [3, 8], 0), (0, [], 1), (10, [], 0), (44, [3, 8], 0), (72, [], 0)]]
def cd_L_driedBy : List (List qm_Ins) := [
  [(4, [0], 0), (43, [5, 0], 0), (0, [], 17), (80, [225, 2, 4], 0), (5, [4], 0), (2, [4], 0), (0, [], -1), (60, [0, 1], 0), (4, [0], 0), (4, [1], 0), (2, [2], 0), (2, [3], 0), (80, [178, 4, 5], 0), (4, [0], 0), (2, [4], 0), (80, [179, 2, 5], 0), (70, [], 0)],
  [(2, [2], 0), (2, [3], 0), (80, [54, 2, 0], 0), (5, [5], 0), (0, [], 2), (4, [0], 0), (42, [5, 1, 41, 0, 0], 0), (0, [], 8), (50, [], 0), (10, [], 0), (4, [0], 0), (42, [5, 1, 41, 0, 0], 0), (0, [], 9), (50, [], 0), (10, [], 0), (4, [1], 0), (2, [2], 0), (2, [3], 0), (80, [196, 3, 3], 0), (11, [], 0), (5, [6], 0), (4, [1], 0), (42, [3, 3, 13, 1, 0], 0), (2, [5], 0), (50, [], 0), (0, [], 10), (4, [0], 0), (42, [5, 1, 41, 0, 0], 0), (0, [], 11), (50, [], 0), (12, [], 0), (11, [], 0), (2, [6], 0), (12, [], 0), (0, [], 40), (13, [], 0), (5, [7], 0), (4, [1], 0), (42, [3, 4, 14, 1, 0], 0), (2, [5], 0), (50, [], 0), (61, [1, 2], 0), (4, [1], 0), (2, [2], 0), (2, [3], 0), (80, [195, 3, 3], 0), (61, [0, 2], 0), (0, [], 1), (63, [3], 0)],
  [(0, [], 0), (64, [3], 0)],
  [(5, [8], 0), (2, [8], 0), (61, [0, 4], 0), (2, [7], 0), (0, [], 10), (4, [0], 0), (42, [5, 1, 41, 0, 0], 0), (0, [], 10), (50, [], 0), (12, [], 0), (11, [], 0), (63, [5], 0)],
  [(2, [7], 0), (64, [5], 0)],
  [(70, [], 0)]]
def cd_L_look : List (List qm_Ins) := [
  [(2, [2], 0), (2, [3], 0), (80, [54, 2, 0], 0), (5, [4], 0), (4, [0], 0), (42, [5, 1, 41, 0, 0], 0), (0, [], 0), (4, [1], 0), (42, [3, 3, 13, 1, 0], 0), (2, [4], 0), (50, [], 0), (51, [], 0), (4, [0], 0), (42, [5, 1, 41, 0, 0], 0), (0, [], 1), (4, [1], 0), (42, [3, 2, 12, 1, 0], 0), (2, [4], 0), (50, [], 0), (51, [], 0), (4, [0], 0), (42, [5, 1, 41, 0, 0], 0), (0, [], 2), (4, [1], 0), (42, [3, 1, 11, 1, 0], 0), (2, [4], 0), (50, [], 0), (51, [], 0), (4, [0], 0), (42, [5, 1, 41, 0, 0], 0), (0, [], 3), (4, [1], 0), (42, [3, 4, 14, 1, 0], 0), (2, [4], 0), (50, [], 0), (51, [], 0), (4, [0], 0), (42, [5, 1, 41, 0, 0], 0), (0, [], 4), (4, [1], 0), (80, [185, 1, 3], 0), (61, [0, 1], 0), (0, [], 0), (63, [2], 0)],
  [(2, [3], 0), (64, [2], 0)],
  [(51, [], 0), (4, [0], 0), (42, [5, 1, 41, 0, 0], 0), (0, [], 5), (4, [1], 0), (2, [2], 0), (2, [3], 0), (80, [195, 3, 3], 0), (61, [0, 3], 0), (0, [], 1), (63, [4], 0)],
  [(0, [], 0), (64, [4], 0)],
  [(51, [], 0), (4, [0], 0), (42, [5, 1, 41, 0, 0], 0), (0, [], 6), (4, [1], 0), (2, [2], 0), (2, [3], 0), (80, [196, 3, 3], 0), (51, [], 0), (4, [0], 0), (42, [5, 1, 41, 0, 0], 0), (0, [], 7), (4, [1], 0), (2, [2], 0), (80, [197, 2, 3], 0), (61, [0, 5], 0), (0, [], 1), (63, [6], 0)],
  [(0, [], 0), (64, [6], 0)],
  [(51, [], 0), (4, [0], 0), (42, [5, 1, 41, 0, 0], 0), (0, [], 12), (4, [1], 0), (40, [3, 8], 0), (51, [], 0), (72, [], 0)]]
def cd_L_valueOf : List (List qm_Ins) := [
  [(0, [], 0), (5, [2], 0), (4, [0], 0), (43, [5, 0], 0), (42, [4, 2, 33, 1, 0], 0), (2, [1], 0), (50, [], 0), (5, [3], 0), (64, [1], 0)],
  [(2, [3], 0), (4, [0], 0), (43, [5, 0], 0), (42, [4, 3, 34, 1, 0], 0), (2, [1], 0), (50, [], 0), (60, [3, 10], 0), (4, [0], 0), (43, [5, 0], 0), (42, [4, 0, 31, 1, 0], 0), (2, [3], 0), (50, [], 0), (5, [4], 0), (2, [4], 0), (0, [], 20000), (11, [], 0), (5, [5], 0), (2, [5], 0), (61, [3, 4], 0), (2, [2], 0), (4, [0], 0), (42, [5, 2, 42, 0, 0], 0), (57, [], 0), (60, [3, 9], 0), (4, [0], 0), (42, [5, 2, 42, 0, 0], 0), (2, [2], 0), (2, [4], 0), (0, [], 10000), (60, [3, 2], 0), (2, [4], 0), (63, [3], 0)],
  [(4, [0], 0), (2, [4], 0), (0, [], 10000), (11, [], 0), (80, [180, 2, 5], 0), (64, [3], 0)],
  [(51, [], 0), (8, [2], 1), (63, [9], 0)],
  [(2, [5], 0), (0, [], 57), (60, [0, 5], 0), (2, [5], 0), (0, [], 26), (60, [1, 8], 0), (64, [5], 0)],
  [(2, [2], 0), (0, [], 1), (60, [2, 9], 0), (4, [0], 0), (42, [5, 2, 42, 0, 0], 0), (2, [2], 0), (0, [], 1), (11, [], 0), (2, [5], 0), (0, [], 26), (60, [1, 6], 0), (0, [], 1), (4, [0], 0), (42, [5, 2, 42, 0, 0], 0), (2, [2], 0), (0, [], 1), (11, [], 0), (50, [], 0), (11, [], 0), (63, [7], 0)],
  [(4, [0], 0), (42, [5, 2, 42, 0, 0], 0), (2, [2], 0), (0, [], 1), (11, [], 0), (50, [], 0), (15, [], 0), (64, [7], 0)],
  [(51, [], 0), (63, [9], 0)],
  [(2, [2], 0), (0, [], 2), (60, [2, 9], 0), (8, [2], -1), (2, [5], 0), (4, [0], 0), (42, [5, 2, 42, 0, 0], 0), (2, [2], 0), (0, [], 1), (11, [], 0), (50, [], 0), (30, [], 0), (4, [0], 0), (42, [5, 2, 42, 0, 0], 0), (2, [2], 0), (50, [], 0), (30, [], 0), (80, [181, 3, 0], 0), (6, [6], 0), (4, [0], 0), (42, [5, 2, 42, 0, 0], 0), (2, [2], 0), (0, [], 1), (11, [], 0), (1, [], -1000000), (1, [], 1000000), (3, [6], 0), (85, [], 0), (84, [], 0), (31, [], 0), (51, [], 0), (64, [9], 0)],
  [(8, [3], 1), (63, [1], 0)],
  [(4, [0], 0), (42, [5, 2, 42, 0, 0], 0), (0, [], 0), (50, [], 0), (70, [], 0)]]
def cd_L_nameValue : List (List qm_Ins) := [
  [(2, [1], 0), (0, [], 0), (0, [], 16), (80, [53, 3, 0], 0), (61, [0, 1], 0), (4, [0], 0), (42, [5, 1, 41, 0, 0], 0), (2, [1], 0), (50, [], 0), (63, [2], 0)],
  [(0, [], 0), (64, [2], 0)],
  [(70, [], 0)]]
def cd_L_joined : List (List qm_Ins) := [
  [(2, [0], 0), (65, [29, 7, 8, 29, 27, 28, 29, 29, 29, 29, 29, 29, 29, 29, 29, 29, 29, 29, 29, 29, 9, 12, 15, 18, 21, 24, 1, 2, 3, 4], 24)],
  [(3, [1], 0), (3, [3], 0), (21, [], 0), (71, [], 0)],
  [(3, [1], 0), (3, [3], 0), (22, [], 0), (71, [], 0)],
  [(3, [1], 0), (3, [3], 0), (23, [], 0), (71, [], 0)],
  [(3, [3], 0), (1, [], 0), (29, [], 0), (61, [1, 5], 0), (1, [], 0), (63, [6], 0)],
  [(3, [1], 0), (3, [3], 0), (24, [], 0), (64, [6], 0)],
  [(71, [], 0)],
  [(3, [1], 0), (3, [3], 0), (85, [], 0), (71, [], 0)],
  [(3, [1], 0), (3, [3], 0), (84, [], 0), (71, [], 0)],
  [(3, [1], 0), (3, [3], 0), (29, [], 0), (61, [3, 10], 0), (1, [], 1), (63, [11], 0)],
  [(1, [], 0), (64, [11], 0)],
  [(71, [], 0)],
  [(3, [1], 0), (3, [3], 0), (29, [], 0), (61, [4, 13], 0), (1, [], 1), (63, [14], 0)],
  [(1, [], 0), (64, [14], 0)],
  [(71, [], 0)],
  [(3, [1], 0), (3, [3], 0), (29, [], 0), (61, [5, 16], 0), (1, [], 1), (63, [17], 0)],
  [(1, [], 0), (64, [17], 0)],
  [(71, [], 0)],
  [(3, [1], 0), (3, [3], 0), (29, [], 0), (61, [2, 19], 0), (1, [], 1), (63, [20], 0)],
  [(1, [], 0), (64, [20], 0)],
  [(71, [], 0)],
  [(3, [1], 0), (3, [3], 0), (29, [], 0), (61, [1, 22], 0), (1, [], 1), (63, [23], 0)],
  [(1, [], 0), (64, [23], 0)],
  [(71, [], 0)],
  [(3, [1], 0), (3, [3], 0), (29, [], 0), (61, [0, 25], 0), (1, [], 1), (63, [26], 0)],
  [(1, [], 0), (64, [26], 0)],
  [(71, [], 0)],
  [(3, [1], 0), (3, [3], 0), (26, [], 0), (71, [], 0)],
  [(3, [1], 0), (3, [3], 0), (27, [], 0), (71, [], 0)],
  [(1, [], 0), (71, [], 0)]]
def cd_L_clamp : List (List qm_Ins) := [
  [(2, [1], 0), (2, [2], 0), (2, [0], 0), (82, [], 0), (81, [], 0), (70, [], 0)]]
def cd_P_become : List (List qm_Ins) := [
  [(4, [1], 0), (42, [3, 1, 11, 1, 0], 0), (0, [], 0), (4, [0], 0), (42, [3, 1, 11, 1, 0], 0), (0, [], 0), (0, [], 48), (86, [], 0), (4, [1], 0), (42, [3, 2, 12, 1, 0], 0), (0, [], 0), (4, [0], 0), (42, [3, 2, 12, 1, 0], 0), (0, [], 0), (0, [], 48), (86, [], 0), (4, [1], 0), (42, [3, 3, 13, 1, 0], 0), (0, [], 0), (4, [0], 0), (42, [3, 3, 13, 1, 0], 0), (0, [], 0), (0, [], 48), (86, [], 0), (4, [1], 0), (42, [3, 4, 14, 1, 0], 0), (0, [], 0), (4, [0], 0), (42, [3, 4, 14, 1, 0], 0), (0, [], 0), (0, [], 48), (86, [], 0), (4, [1], 0), (42, [3, 5, 15, 1, 0], 0), (0, [], 0), (4, [0], 0), (42, [3, 5, 15, 1, 0], 0), (0, [], 0), (0, [], 48), (86, [], 0), (4, [1], 0), (42, [3, 6, 16, 1, 0], 0), (0, [], 0), (4, [0], 0), (42, [3, 6, 16, 1, 0], 0), (0, [], 0), (0, [], 48), (86, [], 0), (4, [1], 0), (42, [3, 7, 17, 1, 0], 0), (0, [], 0), (4, [0], 0), (42, [3, 7, 17, 1, 0], 0), (0, [], 0), (0, [], 6), (86, [], 0), (4, [0], 0), (4, [1], 0), (40, [3, 8], 0), (44, [3, 8], 0), (4, [0], 0), (4, [1], 0), (40, [3, 9], 0), (44, [3, 9], 0), (4, [0], 0), (4, [1], 0), (40, [3, 10], 0), (44, [3, 10], 0), (4, [0], 0), (4, [1], 0), (40, [3, 11], 0), (44, [3, 11], 0), (4, [0], 0), (4, [1], 0), (40, [3, 12], 0), (44, [3, 12], 0), (72, [], 0)]]
def cd_P_isFallen : List (List qm_Ins) := [
  [(4, [0], 0), (40, [3, 9], 0), (0, [], -1), (60, [0, 1], 0), (0, [], 1), (63, [2], 0)],
  [(0, [], 0), (64, [2], 0)],
  [(73, [], 0)]]
def cd_P_holds : List (List qm_Ins) := [
  [(2, [1], 0), (61, [2, 1], 0), (2, [1], 0), (4, [0], 0), (40, [3, 0], 0), (60, [3, 1], 0), (2, [2], 0), (61, [2, 1], 0), (2, [2], 0), (4, [0], 0), (42, [3, 7, 17, 1, 0], 0), (2, [1], 0), (50, [], 0), (60, [3, 1], 0), (0, [], 1), (63, [2], 0)],
  [(0, [], 0), (64, [2], 0)],
  [(73, [], 0)]]
def cd_P_clear : List (List qm_Ins) := [
  [(0, [], 0), (5, [1], 0), (64, [1], 0)],
  [(2, [1], 0), (0, [], 6), (60, [3, 2], 0), (4, [0], 0), (42, [3, 7, 17, 1, 0], 0), (2, [1], 0), (0, [], 0), (51, [], 0), (8, [1], 1), (63, [1], 0)],
  [(4, [0], 0), (0, [], -1), (44, [3, 9], 0), (72, [], 0)]]
def cd_P_add : List (List qm_Ins) := [
  [(2, [1], 0), (0, [], 0), (4, [0], 0), (40, [3, 0], 0), (0, [], 1), (11, [], 0), (80, [53, 3, 0], 0), (61, [0, 1], 0), (4, [0], 0), (42, [3, 7, 17, 1, 0], 0), (2, [1], 0), (50, [], 0), (0, [], 8), (60, [2, 2], 0), (64, [1], 0)],
  [(0, [], -1), (70, [], 0)],
  [(4, [0], 0), (42, [3, 7, 17, 1, 0], 0), (2, [1], 0), (50, [], 0), (5, [5], 0), (2, [1], 0), (2, [5], 0), (80, [54, 2, 0], 0), (5, [6], 0), (4, [0], 0), (42, [3, 1, 11, 1, 0], 0), (2, [6], 0), (2, [2], 0), (51, [], 0), (4, [0], 0), (42, [3, 2, 12, 1, 0], 0), (2, [6], 0), (2, [3], 0), (51, [], 0), (4, [0], 0), (42, [3, 3, 13, 1, 0], 0), (2, [6], 0), (2, [4], 0), (51, [], 0), (4, [0], 0), (42, [3, 4, 14, 1, 0], 0), (2, [6], 0), (0, [], 1), (51, [], 0), (4, [0], 0), (42, [3, 5, 15, 1, 0], 0), (2, [6], 0), (0, [], -1), (51, [], 0), (4, [0], 0), (42, [3, 6, 16, 1, 0], 0), (2, [6], 0), (0, [], -1), (51, [], 0), (4, [0], 0), (42, [3, 7, 17, 1, 0], 0), (2, [1], 0), (2, [5], 0), (0, [], 1), (10, [], 0), (51, [], 0), (2, [5], 0), (70, [], 0)]]
def cd_P_remove : List (List qm_Ins) := [
  [(4, [0], 0), (2, [1], 0), (2, [2], 0), (80, [186, 3, 3], 0), (61, [1, 1], 0), (72, [], 0)],
  [(2, [2], 0), (5, [3], 0), (64, [2], 0)],
  [(2, [3], 0), (0, [], 1), (10, [], 0), (4, [0], 0), (42, [3, 7, 17, 1, 0], 0), (2, [1], 0), (50, [], 0), (60, [3, 3], 0), (4, [0], 0), (2, [1], 0), (2, [3], 0), (80, [54, 2, 0], 0), (80, [190, 2, 3], 0), (8, [3], 1), (63, [2], 0)],
  [(4, [0], 0), (42, [3, 7, 17, 1, 0], 0), (2, [1], 0), (33, [], 0), (50, [], 0), (0, [], 1), (11, [], 0), (51, [], 0), (72, [], 0)]]
def cd_P_bringDown : List (List qm_Ins) := [
  [(4, [0], 0), (42, [3, 1, 11, 1, 0], 0), (2, [1], 0), (4, [0], 0), (42, [3, 1, 11, 1, 0], 0), (2, [1], 0), (0, [], 1), (10, [], 0), (50, [], 0), (51, [], 0), (4, [0], 0), (42, [3, 2, 12, 1, 0], 0), (2, [1], 0), (4, [0], 0), (42, [3, 2, 12, 1, 0], 0), (2, [1], 0), (0, [], 1), (10, [], 0), (50, [], 0), (51, [], 0), (4, [0], 0), (42, [3, 3, 13, 1, 0], 0), (2, [1], 0), (4, [0], 0), (42, [3, 3, 13, 1, 0], 0), (2, [1], 0), (0, [], 1), (10, [], 0), (50, [], 0), (51, [], 0), (4, [0], 0), (42, [3, 4, 14, 1, 0], 0), (2, [1], 0), (4, [0], 0), (42, [3, 4, 14, 1, 0], 0), (2, [1], 0), (0, [], 1), (10, [], 0), (50, [], 0), (51, [], 0), (4, [0], 0), (42, [3, 5, 15, 1, 0], 0), (2, [1], 0), (4, [0], 0), (42, [3, 5, 15, 1, 0], 0), (2, [1], 0), (0, [], 1), (10, [], 0), (50, [], 0), (51, [], 0), (4, [0], 0), (42, [3, 6, 16, 1, 0], 0), (2, [1], 0), (4, [0], 0), (42, [3, 6, 16, 1, 0], 0), (2, [1], 0), (0, [], 1), (10, [], 0), (50, [], 0), (51, [], 0), (72, [], 0)]]
def cd_P_turnBark : List (List qm_Ins) := [
  [(0, [], 0), (5, [2], 0), (64, [1], 0)],
  [(2, [2], 0), (0, [], 48), (60, [3, 2], 0), (4, [0], 0), (42, [3, 4, 14, 1, 0], 0), (2, [2], 0), (2, [1], 0), (51, [], 0), (8, [2], 1), (63, [1], 0)],
  [(72, [], 0)]]
def cd_P_splits : List (List qm_Ins) := [
  [(0, [], 0), (5, [1], 0), (0, [], 0), (5, [2], 0), (64, [1], 0)],
  [(2, [2], 0), (4, [0], 0), (40, [3, 0], 0), (60, [3, 2], 0), (2, [1], 0), (4, [0], 0), (42, [3, 7, 17, 1, 0], 0), (2, [2], 0), (50, [], 0), (10, [], 0), (5, [1], 0), (8, [2], 1), (63, [1], 0)],
  [(2, [1], 0), (70, [], 0)]]
def cd_P_drySplits : List (List qm_Ins) := [
  [(0, [], 0), (5, [1], 0), (0, [], 0), (5, [2], 0), (64, [1], 0)],
  [(2, [2], 0), (4, [0], 0), (40, [3, 0], 0), (60, [3, 6], 0), (0, [], 0), (5, [3], 0), (64, [2], 0)],
  [(2, [3], 0), (4, [0], 0), (42, [3, 7, 17, 1, 0], 0), (2, [2], 0), (50, [], 0), (60, [3, 5], 0), (2, [1], 0), (4, [0], 0), (42, [3, 3, 13, 1, 0], 0), (2, [2], 0), (2, [3], 0), (80, [54, 2, 0], 0), (50, [], 0), (80, [52, 1, 0], 0), (61, [0, 3], 0), (0, [], 1), (63, [4], 0)],
  [(0, [], 0), (64, [4], 0)],
  [(10, [], 0), (5, [1], 0), (8, [3], 1), (63, [2], 0)],
  [(8, [2], 1), (63, [1], 0)],
  [(2, [1], 0), (70, [], 0)]]
def cd_P_tallest : List (List qm_Ins) := [
  [(0, [], 0), (5, [1], 0), (0, [], 0), (5, [2], 0), (64, [1], 0)],
  [(2, [2], 0), (4, [0], 0), (40, [3, 0], 0), (60, [3, 2], 0), (2, [1], 0), (4, [0], 0), (42, [3, 7, 17, 1, 0], 0), (2, [2], 0), (50, [], 0), (81, [], 0), (5, [1], 0), (8, [2], 1), (63, [1], 0)],
  [(2, [1], 0), (70, [], 0)]]
def cd_P_isTop : List (List qm_Ins) := [
  [(4, [0], 0), (80, [185, 1, 3], 0), (61, [1, 1], 0), (2, [2], 0), (0, [], 1), (10, [], 0), (4, [0], 0), (42, [3, 7, 17, 1, 0], 0), (2, [1], 0), (50, [], 0), (60, [2, 2], 0), (64, [1], 0)],
  [(0, [], 1), (63, [3], 0)],
  [(0, [], 0), (64, [3], 0)],
  [(73, [], 0)]]
def cd_P_besideOf : List (List qm_Ins) := [
  [(4, [0], 0), (80, [185, 1, 3], 0), (61, [0, 1], 0), (0, [], 4), (70, [], 0)],
  [(2, [2], 0), (61, [5, 2], 0), (0, [], 1), (63, [3], 0)],
  [(0, [], 0), (64, [3], 0)],
  [(5, [3], 0), (2, [3], 0), (2, [2], 0), (0, [], 1), (10, [], 0), (4, [0], 0), (42, [3, 7, 17, 1, 0], 0), (2, [1], 0), (50, [], 0), (60, [3, 4], 0), (0, [], 1), (63, [5], 0)],
  [(0, [], 0), (64, [5], 0)],
  [(10, [], 0), (5, [3], 0), (2, [3], 0), (2, [1], 0), (61, [5, 6], 0), (2, [2], 0), (4, [0], 0), (42, [3, 7, 17, 1, 0], 0), (2, [1], 0), (0, [], 1), (11, [], 0), (50, [], 0), (60, [3, 6], 0), (0, [], 1), (63, [7], 0)],
  [(0, [], 0), (64, [7], 0)],
  [(10, [], 0), (5, [3], 0), (2, [3], 0), (2, [1], 0), (0, [], 1), (10, [], 0), (4, [0], 0), (40, [3, 0], 0), (60, [3, 8], 0), (2, [2], 0), (4, [0], 0), (42, [3, 7, 17, 1, 0], 0), (2, [1], 0), (0, [], 1), (10, [], 0), (50, [], 0), (60, [3, 8], 0), (0, [], 1), (63, [9], 0)],
  [(0, [], 0), (64, [9], 0)],
  [(10, [], 0), (5, [3], 0), (2, [3], 0), (70, [], 0)]]
def cd_P_isSunny : List (List qm_Ins) := [
  [(2, [1], 0), (4, [0], 0), (40, [3, 12], 0), (61, [1, 1], 0), (0, [], 0), (63, [2], 0)],
  [(4, [0], 0), (40, [3, 0], 0), (0, [], 1), (11, [], 0), (64, [2], 0)],
  [(60, [1, 3], 0), (0, [], 1), (63, [4], 0)],
  [(0, [], 0), (64, [4], 0)],
  [(73, [], 0)]]
def cd_R_readAll : List (List qm_Ins) := [
  [(4, [0], 0), (42, [6, 0, 7, 0, 0], 0), (4, [1], 0), (2, [2], 0), (80, [229, 3, 7], 0), (4, [3], 0), (80, [222, 1, 4], 0), (4, [0], 0), (4, [3], 0), (46, [6, 1, 4], 0), (4, [0], 0), (0, [], 0), (44, [6, 2], 0), (4, [0], 0), (0, [], 0), (44, [6, 4], 0), (4, [0], 0), (0, [], -1), (44, [6, 5], 0), (0, [], 0), (5, [4], 0), (64, [1], 0)],
  [(2, [4], 0), (0, [], 20), (60, [4, 2], 0), (4, [0], 0), (40, [6, 4], 0), (61, [1, 2], 0), (4, [0], 0), (80, [200, 1, 6], 0), (0, [], 41), (60, [0, 2], 0), (4, [0], 0), (2, [4], 0), (80, [206, 2, 6], 0), (8, [4], 1), (63, [1], 0)],
  [(72, [], 0)]]
def cd_R_token : List (List qm_Ins) := [
  [(4, [0], 0), (40, [6, 2], 0), (0, [], 0), (4, [0], 0), (42, [6, 0, 7, 0, 0], 0), (40, [7, 3], 0), (0, [], 1), (11, [], 0), (80, [53, 3, 0], 0), (61, [0, 1], 0), (4, [0], 0), (42, [6, 0, 7, 0, 0], 0), (42, [7, 0, 43, 0, 0], 0), (4, [0], 0), (40, [6, 2], 0), (50, [], 0), (63, [2], 0)],
  [(0, [], 41), (64, [2], 0)],
  [(70, [], 0)]]
def cd_R_number : List (List qm_Ins) := [
  [(4, [0], 0), (40, [6, 2], 0), (0, [], 0), (4, [0], 0), (42, [6, 0, 7, 0, 0], 0), (40, [7, 3], 0), (0, [], 1), (11, [], 0), (80, [53, 3, 0], 0), (61, [0, 1], 0), (4, [0], 0), (42, [6, 0, 7, 0, 0], 0), (42, [7, 1, 44, 0, 0], 0), (4, [0], 0), (40, [6, 2], 0), (50, [], 0), (63, [2], 0)],
  [(0, [], 0), (64, [2], 0)],
  [(70, [], 0)]]
def cd_R_step : List (List qm_Ins) := [
  [(4, [0], 0), (40, [6, 4], 0), (61, [1, 1], 0), (4, [0], 0), (40, [6, 2], 0), (0, [], 1), (10, [], 0), (4, [0], 0), (42, [6, 0, 7, 0, 0], 0), (40, [7, 3], 0), (60, [3, 1], 0), (4, [0], 0), (32, [], 0), (40, [6, 2], 0), (0, [], 1), (10, [], 0), (44, [6, 2], 0), (64, [1], 0)],
  [(72, [], 0)]]
def cd_R_fail : List (List qm_Ins) := [
  [(4, [0], 0), (40, [6, 4], 0), (61, [1, 3], 0), (4, [0], 0), (2, [1], 0), (44, [6, 4], 0), (4, [0], 0), (4, [0], 0), (40, [6, 2], 0), (0, [], 0), (4, [0], 0), (42, [6, 0, 7, 0, 0], 0), (40, [7, 3], 0), (0, [], 1), (11, [], 0), (80, [53, 3, 0], 0), (61, [0, 1], 0), (4, [0], 0), (42, [6, 0, 7, 0, 0], 0), (42, [7, 2, 45, 0, 0], 0), (4, [0], 0), (40, [6, 2], 0), (50, [], 0), (63, [2], 0)],
  [(0, [], 0), (64, [2], 0)],
  [(44, [6, 5], 0), (64, [3], 0)],
  [(72, [], 0)]]
def cd_R_expect : List (List qm_Ins) := [
  [(4, [0], 0), (80, [200, 1, 6], 0), (2, [1], 0), (60, [1, 1], 0), (4, [0], 0), (80, [202, 1, 6], 0), (63, [2], 0)],
  [(4, [0], 0), (0, [], 1), (80, [203, 2, 6], 0), (64, [2], 0)],
  [(72, [], 0)]]
def cd_R_emit : List (List qm_Ins) := [
  [(4, [0], 0), (40, [6, 4], 0), (61, [1, 1], 0), (4, [0], 0), (43, [6, 1], 0), (62, [1], 0), (4, [0], 0), (43, [6, 1], 0), (2, [1], 0), (80, [224, 2, 4], 0), (64, [1], 0)],
  [(72, [], 0)]]
def cd_R_readClause : List (List qm_Ins) := [
  [(4, [0], 0), (4, [0], 0), (80, [200, 1, 6], 0), (44, [6, 3], 0), (4, [0], 0), (43, [6, 1], 0), (62, [1], 0), (4, [0], 0), (40, [6, 3], 0), (0, [], 17), (0, [], 23), (80, [53, 3, 0], 0), (61, [1, 2], 0), (64, [1], 0)],
  [(4, [0], 0), (0, [], 1), (80, [203, 2, 6], 0), (63, [10], 0)],
  [(4, [0], 0), (43, [6, 1], 0), (4, [0], 0), (40, [6, 3], 0), (80, [225, 2, 4], 0), (0, [], -1), (60, [0, 3], 0), (4, [0], 0), (0, [], 4), (80, [203, 2, 6], 0), (63, [10], 0)],
  [(2, [1], 0), (0, [], 20), (60, [3, 4], 0), (4, [0], 0), (43, [6, 1], 0), (4, [0], 0), (40, [6, 3], 0), (80, [223, 2, 4], 0), (61, [1, 5], 0), (64, [4], 0)],
  [(4, [0], 0), (0, [], 6), (80, [203, 2, 6], 0), (63, [10], 0)],
  [(4, [0], 0), (80, [202, 1, 6], 0), (4, [0], 0), (40, [6, 3], 0), (0, [], 23), (60, [1, 6], 0), (4, [0], 0), (80, [207, 1, 6], 0), (63, [9], 0)],
  [(4, [0], 0), (4, [0], 0), (40, [6, 3], 0), (0, [], 22), (60, [1, 7], 0), (0, [], 0), (63, [8], 0)],
  [(0, [], 3), (64, [8], 0)],
  [(0, [], 0), (80, [209, 3, 6], 0), (64, [9], 0)],
  [(4, [0], 0), (0, [], 56), (80, [204, 2, 6], 0), (64, [10], 0)],
  [(72, [], 0)]]
def cd_R_readLay : List (List qm_Ins) := [
  [(4, [0], 0), (0, [], 0), (0, [], 3), (80, [208, 3, 6], 0), (4, [0], 0), (0, [], 55), (80, [204, 2, 6], 0), (4, [0], 0), (0, [], 1), (0, [], 20), (80, [208, 3, 6], 0), (4, [0], 0), (0, [], 55), (80, [204, 2, 6], 0), (4, [0], 0), (0, [], 0), (0, [], 2000), (80, [208, 3, 6], 0), (4, [0], 0), (0, [], 29), (80, [204, 2, 6], 0), (4, [0], 0), (0, [], 0), (0, [], 5), (80, [208, 3, 6], 0), (72, [], 0)]]
def cd_R_readTold : List (List qm_Ins) := [
  [(4, [0], 0), (80, [200, 1, 6], 0), (0, [], 40), (60, [0, 1], 0), (4, [0], 0), (0, [], 1), (80, [203, 2, 6], 0), (63, [3], 0)],
  [(4, [0], 0), (80, [201, 1, 6], 0), (2, [1], 0), (2, [2], 0), (80, [53, 3, 0], 0), (61, [1, 2], 0), (4, [0], 0), (0, [], 2), (80, [203, 2, 6], 0), (63, [3], 0)],
  [(4, [0], 0), (4, [0], 0), (80, [201, 1, 6], 0), (80, [205, 2, 6], 0), (4, [0], 0), (80, [202, 1, 6], 0), (64, [3], 0)],
  [(72, [], 0)]]
def cd_R_readPart : List (List qm_Ins) := [
  [(4, [0], 0), (40, [6, 4], 0), (61, [1, 1], 0), (2, [2], 0), (0, [], 8), (60, [5, 2], 0), (64, [1], 0)],
  [(72, [], 0)],
  [(2, [1], 0), (0, [], 2), (60, [1, 3], 0), (4, [0], 0), (2, [2], 0), (80, [211, 2, 6], 0), (63, [6], 0)],
  [(2, [1], 0), (0, [], 5), (60, [2, 4], 0), (4, [0], 0), (2, [2], 0), (80, [213, 2, 6], 0), (63, [6], 0)],
  [(4, [0], 0), (2, [1], 0), (0, [], 1), (10, [], 0), (2, [2], 0), (80, [209, 3, 6], 0), (0, [], 0), (5, [3], 0), (64, [5], 0)],
  [(2, [3], 0), (0, [], 300), (60, [3, 6], 0), (4, [0], 0), (40, [6, 4], 0), (61, [1, 6], 0), (4, [0], 0), (80, [200, 1, 6], 0), (80, [210, 1, 0], 0), (2, [1], 0), (60, [1, 6], 0), (4, [0], 0), (80, [200, 1, 6], 0), (5, [4], 0), (4, [0], 0), (80, [202, 1, 6], 0), (4, [0], 0), (2, [1], 0), (0, [], 1), (10, [], 0), (2, [2], 0), (80, [209, 3, 6], 0), (4, [0], 0), (0, [], 20000), (2, [4], 0), (10, [], 0), (80, [205, 2, 6], 0), (8, [3], 1), (63, [5], 0)],
  [(72, [], 0)]]
def cd_R_levelOf : List (List qm_Ins) := [
  [(2, [0], 0), (66, [5, 27, 2, 28, 1, 49, 3, 50, 3, 51, 4, 52, 4], 0)],
  [(0, [], 0), (70, [], 0)],
  [(0, [], 1), (70, [], 0)],
  [(0, [], 3), (70, [], 0)],
  [(0, [], 4), (70, [], 0)],
  [(0, [], -1), (70, [], 0)]]
def cd_R_readAsk : List (List qm_Ins) := [
  [(4, [0], 0), (80, [200, 1, 6], 0), (0, [], 26), (60, [1, 2], 0), (4, [0], 0), (2, [1], 0), (80, [212, 2, 6], 0), (61, [0, 1], 0), (4, [0], 0), (0, [], 2), (2, [1], 0), (0, [], 1), (10, [], 0), (80, [209, 3, 6], 0), (4, [0], 0), (0, [], 20026), (80, [205, 2, 6], 0), (64, [1], 0)],
  [(72, [], 0)],
  [(4, [0], 0), (0, [], 3), (2, [1], 0), (80, [209, 3, 6], 0), (4, [0], 0), (80, [200, 1, 6], 0), (5, [2], 0), (2, [2], 0), (0, [], 43), (0, [], 48), (80, [53, 3, 0], 0), (61, [1, 3], 0), (4, [0], 0), (0, [], 1), (80, [203, 2, 6], 0), (72, [], 0)],
  [(4, [0], 0), (80, [202, 1, 6], 0), (4, [0], 0), (0, [], 3), (2, [1], 0), (80, [209, 3, 6], 0), (4, [0], 0), (0, [], 20000), (2, [2], 0), (10, [], 0), (80, [205, 2, 6], 0), (72, [], 0)]]
def cd_R_opens : List (List qm_Ins) := [
  [(2, [1], 0), (0, [], 8), (60, [2, 1], 0), (4, [0], 0), (0, [], 3), (80, [203, 2, 6], 0), (0, [], 0), (73, [], 0)],
  [(4, [0], 0), (80, [202, 1, 6], 0), (0, [], 1), (73, [], 0)]]
def cd_R_readOne : List (List qm_Ins) := [
  [(4, [0], 0), (80, [200, 1, 6], 0), (5, [2], 0), (2, [2], 0), (0, [], 40), (60, [1, 1], 0), (4, [0], 0), (0, [], 0), (0, [], 9999), (80, [208, 3, 6], 0), (63, [7], 0)],
  [(2, [2], 0), (0, [], 0), (0, [], 16), (80, [53, 3, 0], 0), (61, [0, 2], 0), (4, [0], 0), (2, [2], 0), (80, [214, 2, 6], 0), (63, [7], 0)],
  [(2, [2], 0), (0, [], 24), (60, [0, 3], 0), (2, [2], 0), (0, [], 25), (60, [1, 4], 0), (64, [3], 0)],
  [(4, [0], 0), (2, [2], 0), (2, [1], 0), (80, [216, 3, 6], 0), (63, [7], 0)],
  [(2, [2], 0), (0, [], 53), (60, [1, 5], 0), (4, [0], 0), (2, [1], 0), (80, [212, 2, 6], 0), (61, [0, 7], 0), (4, [0], 0), (0, [], 3), (2, [1], 0), (0, [], 1), (10, [], 0), (80, [209, 3, 6], 0), (4, [0], 0), (0, [], 54), (80, [204, 2, 6], 0), (63, [7], 0)],
  [(2, [2], 0), (0, [], 50), (60, [1, 6], 0), (4, [0], 0), (2, [1], 0), (80, [212, 2, 6], 0), (61, [0, 7], 0), (4, [0], 0), (0, [], 5), (2, [1], 0), (0, [], 1), (10, [], 0), (80, [209, 3, 6], 0), (4, [0], 0), (0, [], 20057), (80, [205, 2, 6], 0), (63, [7], 0)],
  [(4, [0], 0), (0, [], 1), (80, [203, 2, 6], 0), (64, [7], 0)],
  [(72, [], 0)]]
def cd_R_readName : List (List qm_Ins) := [
  [(4, [0], 0), (2, [1], 0), (80, [215, 2, 6], 0), (61, [0, 1], 0), (4, [0], 0), (0, [], 10000), (2, [1], 0), (10, [], 0), (80, [205, 2, 6], 0), (4, [0], 0), (80, [202, 1, 6], 0), (63, [2], 0)],
  [(4, [0], 0), (0, [], 5), (80, [203, 2, 6], 0), (64, [2], 0)],
  [(72, [], 0)]]
def cd_R_isNameOfClause : List (List qm_Ins) := [
  [(2, [1], 0), (0, [], 12), (60, [1, 1], 0), (0, [], 1), (73, [], 0)],
  [(4, [0], 0), (40, [6, 3], 0), (0, [], 19), (60, [1, 4], 0), (2, [1], 0), (0, [], 13), (60, [2, 2], 0), (0, [], 1), (63, [3], 0)],
  [(0, [], 0), (64, [3], 0)],
  [(73, [], 0)],
  [(4, [0], 0), (40, [6, 3], 0), (0, [], 17), (60, [1, 6], 0), (2, [1], 0), (0, [], 12), (60, [3, 5], 0), (0, [], 1), (63, [8], 0)],
  [(0, [], 0), (63, [8], 0)],
  [(2, [1], 0), (0, [], 7), (60, [4, 7], 0), (0, [], 1), (63, [8], 0)],
  [(0, [], 0), (64, [8], 0)],
  [(73, [], 0)]]
def cd_R_readPair : List (List qm_Ins) := [
  [(4, [0], 0), (80, [202, 1, 6], 0), (4, [0], 0), (80, [200, 1, 6], 0), (0, [], 53), (60, [0, 1], 0), (4, [0], 0), (0, [], 1), (80, [203, 2, 6], 0), (63, [2], 0)],
  [(4, [0], 0), (2, [2], 0), (80, [212, 2, 6], 0), (61, [0, 2], 0), (4, [0], 0), (0, [], 3), (2, [2], 0), (0, [], 1), (10, [], 0), (80, [209, 3, 6], 0), (4, [0], 0), (0, [], 55), (80, [204, 2, 6], 0), (4, [0], 0), (0, [], 3), (2, [2], 0), (0, [], 1), (10, [], 0), (80, [209, 3, 6], 0), (4, [0], 0), (0, [], 54), (80, [204, 2, 6], 0), (4, [0], 0), (0, [], 20000), (2, [1], 0), (10, [], 0), (80, [205, 2, 6], 0), (64, [2], 0)],
  [(72, [], 0)]]
def cd_S_begin : List (List qm_Ins) := [
  [(4, [0], 0), (0, [], -1), (44, [8, 3], 0), (4, [0], 0), (0, [], 0), (44, [8, 4], 0), (4, [0], 0), (42, [8, 0, 46, 0, 0], 0), (0, [], 0), (56, [], 0), (4, [1], 0), (80, [184, 2, 3], 0), (72, [], 0)]]
def cd_S_tryFrom : List (List qm_Ins) := [
  [(2, [1], 0), (2, [3], 0), (60, [3, 1], 0), (2, [1], 0), (0, [], 5), (60, [2, 2], 0), (64, [1], 0)],
  [(4, [0], 0), (2, [1], 0), (2, [2], 0), (80, [220, 3, 8], 0), (72, [], 0)],
  [(4, [0], 0), (42, [8, 0, 46, 0, 0], 0), (2, [1], 0), (56, [], 0), (7, [6], 0), (0, [], 0), (5, [7], 0), (64, [3], 0)],
  [(2, [7], 0), (4, [6], 0), (40, [3, 0], 0), (60, [3, 6], 0), (4, [6], 0), (42, [3, 7, 17, 1, 0], 0), (2, [7], 0), (50, [], 0), (0, [], 1), (11, [], 0), (5, [8], 0), (2, [8], 0), (61, [2, 5], 0), (4, [0], 0), (42, [8, 1, 47, 0, 0], 0), (2, [1], 0), (2, [7], 0), (51, [], 0), (4, [5], 0), (4, [6], 0), (2, [7], 0), (2, [8], 0), (80, [167, 4, 5], 0), (5, [9], 0), (2, [1], 0), (0, [], 1), (10, [], 0), (2, [3], 0), (60, [3, 4], 0), (2, [1], 0), (0, [], 1), (10, [], 0), (0, [], 5), (60, [3, 4], 0), (4, [0], 0), (42, [8, 0, 46, 0, 0], 0), (2, [1], 0), (0, [], 1), (10, [], 0), (56, [], 0), (4, [6], 0), (80, [184, 2, 3], 0), (4, [0], 0), (42, [8, 0, 46, 0, 0], 0), (2, [1], 0), (0, [], 1), (10, [], 0), (56, [], 0), (2, [7], 0), (2, [8], 0), (80, [189, 3, 3], 0), (4, [5], 0), (4, [0], 0), (42, [8, 0, 46, 0, 0], 0), (2, [1], 0), (0, [], 1), (10, [], 0), (56, [], 0), (4, [4], 0), (4, [4], 0), (42, [2, 6, 25, 1, 0], 0), (2, [1], 0), (50, [], 0), (80, [175, 4, 5], 0), (64, [4], 0)],
  [(4, [0], 0), (2, [1], 0), (0, [], 1), (10, [], 0), (2, [2], 0), (2, [9], 0), (10, [], 0), (2, [3], 0), (4, [4], 0), (4, [5], 0), (80, [219, 6, 8], 0), (64, [5], 0)],
  [(8, [7], 1), (63, [3], 0)],
  [(72, [], 0)]]
def cd_S_note : List (List qm_Ins) := [
  [(2, [2], 0), (4, [0], 0), (40, [8, 3], 0), (60, [5, 1], 0), (4, [0], 0), (2, [2], 0), (44, [8, 3], 0), (4, [0], 0), (2, [1], 0), (44, [8, 4], 0), (4, [0], 0), (42, [8, 1, 47, 0, 0], 0), (0, [], 0), (4, [0], 0), (42, [8, 2, 48, 0, 0], 0), (0, [], 0), (0, [], 5), (86, [], 0), (64, [1], 0)],
  [(72, [], 0)]]
def cd_T_clear : List (List qm_Ins) := [
  [(0, [], 0), (5, [1], 0), (64, [1], 0)],
  [(2, [1], 0), (4, [0], 0), (42, [4, 4, 35, 1, 0], 0), (57, [], 0), (60, [3, 2], 0), (4, [0], 0), (42, [4, 4, 35, 1, 0], 0), (2, [1], 0), (0, [], -1), (51, [], 0), (8, [1], 1), (63, [1], 0)],
  [(4, [0], 0), (0, [], 0), (44, [4, 5], 0), (4, [0], 0), (0, [], 0), (44, [4, 6], 0), (72, [], 0)]]
def cd_T_begin : List (List qm_Ins) := [
  [(4, [0], 0), (40, [4, 6], 0), (0, [], 20), (60, [2, 1], 0), (0, [], 0), (73, [], 0)],
  [(4, [0], 0), (42, [4, 1, 32, 1, 0], 0), (4, [0], 0), (40, [4, 6], 0), (2, [1], 0), (51, [], 0), (4, [0], 0), (42, [4, 2, 33, 1, 0], 0), (4, [0], 0), (40, [4, 6], 0), (4, [0], 0), (40, [4, 5], 0), (51, [], 0), (4, [0], 0), (42, [4, 3, 34, 1, 0], 0), (4, [0], 0), (40, [4, 6], 0), (4, [0], 0), (40, [4, 5], 0), (51, [], 0), (2, [1], 0), (80, [227, 1, 0], 0), (61, [0, 2], 0), (4, [0], 0), (42, [4, 4, 35, 1, 0], 0), (2, [1], 0), (0, [], 17), (11, [], 0), (4, [0], 0), (40, [4, 6], 0), (51, [], 0), (64, [2], 0)],
  [(4, [0], 0), (32, [], 0), (40, [4, 6], 0), (0, [], 1), (10, [], 0), (44, [4, 6], 0), (0, [], 1), (73, [], 0)]]
def cd_T_emit : List (List qm_Ins) := [
  [(4, [0], 0), (40, [4, 6], 0), (61, [5, 1], 0), (4, [0], 0), (40, [4, 5], 0), (0, [], 300), (60, [3, 1], 0), (4, [0], 0), (42, [4, 0, 31, 1, 0], 0), (4, [0], 0), (40, [4, 5], 0), (2, [1], 0), (51, [], 0), (4, [0], 0), (32, [], 0), (40, [4, 5], 0), (0, [], 1), (10, [], 0), (44, [4, 5], 0), (4, [0], 0), (42, [4, 3, 34, 1, 0], 0), (4, [0], 0), (40, [4, 6], 0), (0, [], 1), (11, [], 0), (4, [0], 0), (40, [4, 5], 0), (51, [], 0), (64, [1], 0)],
  [(72, [], 0)]]
def cd_T_clauseOf : List (List qm_Ins) := [
  [(2, [1], 0), (80, [227, 1, 0], 0), (61, [0, 1], 0), (4, [0], 0), (42, [4, 4, 35, 1, 0], 0), (2, [1], 0), (0, [], 17), (11, [], 0), (50, [], 0), (63, [2], 0)],
  [(0, [], -1), (64, [2], 0)],
  [(70, [], 0)]]
def cd_T_codeAt : List (List qm_Ins) := [
  [(4, [0], 0), (42, [4, 2, 33, 1, 0], 0), (2, [1], 0), (50, [], 0), (2, [2], 0), (10, [], 0), (5, [3], 0), (2, [3], 0), (0, [], 0), (0, [], 299), (80, [53, 3, 0], 0), (61, [0, 1], 0), (4, [0], 0), (42, [4, 0, 31, 1, 0], 0), (2, [3], 0), (50, [], 0), (63, [2], 0)],
  [(0, [], -1), (64, [2], 0)],
  [(70, [], 0)]]
def cd_T_standsOnce : List (List qm_Ins) := [
  [(2, [0], 0), (0, [], 17), (0, [], 21), (80, [53, 3, 0], 0), (73, [], 0)]]
def cd_K_cut : List (List qm_Ins) := [
  [(4, [0], 0), (0, [], 0), (44, [7, 3], 0), (0, [], 0), (5, [3], 0), (0, [], 0), (5, [4], 0), (64, [1], 0)],
  [(2, [4], 0), (2, [2], 0), (60, [3, 7], 0), (2, [3], 0), (2, [2], 0), (60, [3, 7], 0), (4, [1], 0), (2, [3], 0), (50, [], 0), (5, [5], 0), (2, [5], 0), (0, [], 32), (60, [0, 2], 0), (2, [5], 0), (0, [], 10), (60, [1, 3], 0), (64, [2], 0)],
  [(8, [3], 1), (63, [6], 0)],
  [(2, [5], 0), (80, [236, 1, 0], 0), (61, [0, 4], 0), (4, [0], 0), (4, [1], 0), (2, [3], 0), (2, [2], 0), (80, [231, 4, 7], 0), (5, [3], 0), (63, [6], 0)],
  [(2, [5], 0), (80, [237, 1, 0], 0), (61, [0, 5], 0), (4, [0], 0), (4, [1], 0), (2, [3], 0), (2, [2], 0), (80, [233, 4, 7], 0), (5, [3], 0), (63, [6], 0)],
  [(4, [0], 0), (4, [1], 0), (2, [3], 0), (2, [2], 0), (80, [234, 4, 7], 0), (5, [3], 0), (64, [6], 0)],
  [(8, [4], 1), (63, [1], 0)],
  [(4, [0], 0), (0, [], 41), (0, [], 0), (2, [2], 0), (80, [230, 4, 7], 0), (72, [], 0)]]
def cd_K_add : List (List qm_Ins) := [
  [(4, [0], 0), (40, [7, 3], 0), (0, [], 300), (60, [4, 1], 0), (4, [0], 0), (42, [7, 0, 43, 0, 0], 0), (4, [0], 0), (40, [7, 3], 0), (2, [1], 0), (51, [], 0), (4, [0], 0), (42, [7, 1, 44, 0, 0], 0), (4, [0], 0), (40, [7, 3], 0), (2, [2], 0), (51, [], 0), (4, [0], 0), (42, [7, 2, 45, 0, 0], 0), (4, [0], 0), (40, [7, 3], 0), (2, [3], 0), (51, [], 0), (4, [0], 0), (32, [], 0), (40, [7, 3], 0), (0, [], 1), (10, [], 0), (44, [7, 3], 0), (64, [1], 0)],
  [(72, [], 0)]]
def cd_K_cutWord : List (List qm_Ins) := [
  [(2, [2], 0), (5, [4], 0), (64, [1], 0)],
  [(2, [4], 0), (2, [3], 0), (60, [3, 2], 0), (4, [1], 0), (2, [4], 0), (50, [], 0), (80, [236, 1, 0], 0), (61, [0, 2], 0), (8, [4], 1), (63, [1], 0)],
  [(4, [0], 0), (4, [1], 0), (2, [2], 0), (2, [4], 0), (80, [232, 3, 0], 0), (0, [], 0), (2, [2], 0), (80, [230, 4, 7], 0), (2, [4], 0), (70, [], 0)]]
def cd_K_wordOf : List (List qm_Ins) := [
  [(0, [], 0), (5, [3], 0), (0, [], 0), (5, [4], 0), (0, [], 1), (5, [5], 0), (0, [], 0), (5, [6], 0), (64, [1], 0)],
  [(2, [6], 0), (58, [], 0), (87, [], 0), (60, [3, 7], 0), (58, [], 0), (2, [6], 0), (88, [], 0), (5, [7], 0), (2, [7], 0), (0, [], 32), (60, [1, 3], 0), (2, [5], 0), (61, [0, 2], 0), (2, [1], 0), (2, [4], 0), (10, [], 0), (2, [2], 0), (60, [1, 2], 0), (2, [3], 0), (70, [], 0)],
  [(8, [3], 1), (0, [], 0), (5, [4], 0), (0, [], 1), (5, [5], 0), (63, [6], 0)],
  [(2, [5], 0), (61, [0, 4], 0), (2, [1], 0), (2, [4], 0), (10, [], 0), (2, [2], 0), (60, [3, 4], 0), (4, [0], 0), (2, [1], 0), (2, [4], 0), (10, [], 0), (50, [], 0), (2, [7], 0), (60, [1, 4], 0), (0, [], 1), (63, [5], 0)],
  [(0, [], 0), (64, [5], 0)],
  [(5, [5], 0), (8, [4], 1), (64, [6], 0)],
  [(8, [6], 1), (63, [1], 0)],
  [(0, [], 42), (70, [], 0)]]
def cd_K_cutNumber : List (List qm_Ins) := [
  [(2, [2], 0), (5, [4], 0), (0, [], 0), (5, [5], 0), (64, [1], 0)],
  [(2, [4], 0), (2, [3], 0), (60, [3, 2], 0), (4, [1], 0), (2, [4], 0), (50, [], 0), (80, [237, 1, 0], 0), (61, [0, 2], 0), (0, [], 10000), (2, [5], 0), (0, [], 10), (12, [], 0), (4, [1], 0), (2, [4], 0), (50, [], 0), (10, [], 0), (0, [], 48), (11, [], 0), (82, [], 0), (5, [5], 0), (8, [4], 1), (63, [1], 0)],
  [(4, [0], 0), (0, [], 40), (2, [5], 0), (2, [2], 0), (80, [230, 4, 7], 0), (2, [4], 0), (70, [], 0)]]
def cd_K_cutSign : List (List qm_Ins) := [
  [(2, [2], 0), (0, [], 1), (10, [], 0), (2, [3], 0), (60, [3, 1], 0), (4, [1], 0), (2, [2], 0), (0, [], 1), (10, [], 0), (50, [], 0), (0, [], 61), (60, [1, 1], 0), (0, [], 1), (63, [2], 0)],
  [(0, [], 0), (64, [2], 0)],
  [(5, [4], 0), (2, [4], 0), (61, [0, 3], 0), (4, [1], 0), (2, [2], 0), (50, [], 0), (0, [], 60), (60, [1, 3], 0), (4, [0], 0), (0, [], 44), (0, [], 0), (2, [2], 0), (80, [230, 4, 7], 0), (2, [2], 0), (0, [], 2), (10, [], 0), (70, [], 0)],
  [(2, [4], 0), (61, [0, 4], 0), (4, [1], 0), (2, [2], 0), (50, [], 0), (0, [], 62), (60, [1, 4], 0), (4, [0], 0), (0, [], 46), (0, [], 0), (2, [2], 0), (80, [230, 4, 7], 0), (2, [2], 0), (0, [], 2), (10, [], 0), (70, [], 0)],
  [(4, [0], 0), (4, [1], 0), (2, [2], 0), (50, [], 0), (80, [235, 1, 0], 0), (0, [], 0), (2, [2], 0), (80, [230, 4, 7], 0), (2, [2], 0), (0, [], 1), (10, [], 0), (70, [], 0)]]
def cd_K_signOf : List (List qm_Ins) := [
  [(2, [0], 0), (65, [13, 4, 13, 13, 13, 13, 9, 10, 7, 5, 11, 6, 13, 8, 13, 13, 13, 13, 13, 13, 13, 13, 13, 13, 13, 12, 1, 3, 2], 35)],
  [(0, [], 43), (70, [], 0)],
  [(0, [], 45), (70, [], 0)],
  [(0, [], 47), (70, [], 0)],
  [(0, [], 48), (70, [], 0)],
  [(0, [], 49), (70, [], 0)],
  [(0, [], 50), (70, [], 0)],
  [(0, [], 51), (70, [], 0)],
  [(0, [], 52), (70, [], 0)],
  [(0, [], 53), (70, [], 0)],
  [(0, [], 54), (70, [], 0)],
  [(0, [], 55), (70, [], 0)],
  [(0, [], 56), (70, [], 0)],
  [(0, [], 42), (70, [], 0)]]
def cd_K_isLetter : List (List qm_Ins) := [
  [(2, [0], 0), (0, [], 97), (0, [], 122), (80, [53, 3, 0], 0), (61, [1, 1], 0), (2, [0], 0), (0, [], 65), (0, [], 90), (80, [53, 3, 0], 0), (61, [0, 2], 0), (64, [1], 0)],
  [(0, [], 1), (63, [3], 0)],
  [(0, [], 0), (64, [3], 0)],
  [(73, [], 0)]]
def cd_K_isDigit : List (List qm_Ins) := [
  [(2, [0], 0), (0, [], 48), (0, [], 57), (80, [53, 3, 0], 0), (73, [], 0)]]
def cd_Y_become : List (List qm_Ins) := [
  [(4, [0], 0), (42, [2, 0, 3, 1, 0], 0), (4, [1], 0), (42, [2, 0, 3, 1, 0], 0), (80, [184, 2, 3], 0), (4, [1], 0), (42, [2, 1, 21, 1, 0], 0), (0, [], 0), (4, [0], 0), (42, [2, 1, 21, 1, 0], 0), (0, [], 0), (0, [], 12), (86, [], 0), (4, [1], 0), (42, [2, 2, 22, 1, 0], 0), (0, [], 0), (4, [0], 0), (42, [2, 2, 22, 1, 0], 0), (0, [], 0), (0, [], 12), (86, [], 0), (4, [1], 0), (42, [2, 3, 23, 1, 0], 0), (0, [], 0), (4, [0], 0), (42, [2, 3, 23, 1, 0], 0), (0, [], 0), (0, [], 12), (86, [], 0), (4, [1], 0), (42, [2, 4, 24, 1, 0], 0), (0, [], 0), (4, [0], 0), (42, [2, 4, 24, 1, 0], 0), (0, [], 0), (0, [], 12), (86, [], 0), (4, [0], 0), (4, [1], 0), (40, [2, 5], 0), (44, [2, 5], 0), (4, [1], 0), (42, [2, 6, 25, 1, 0], 0), (0, [], 0), (4, [0], 0), (42, [2, 6, 25, 1, 0], 0), (0, [], 0), (0, [], 40), (86, [], 0), (4, [1], 0), (42, [2, 7, 26, 1, 0], 0), (0, [], 0), (4, [0], 0), (42, [2, 7, 26, 1, 0], 0), (0, [], 0), (0, [], 4), (86, [], 0), (4, [1], 0), (42, [2, 8, 27, 1, 0], 0), (0, [], 0), (4, [0], 0), (42, [2, 8, 27, 1, 0], 0), (0, [], 0), (0, [], 4), (86, [], 0), (4, [1], 0), (42, [2, 9, 28, 1, 0], 0), (0, [], 0), (4, [0], 0), (42, [2, 9, 28, 1, 0], 0), (0, [], 0), (0, [], 6), (86, [], 0), (4, [0], 0), (4, [1], 0), (40, [2, 10], 0), (47, [2, 10], 0), (4, [0], 0), (4, [1], 0), (40, [2, 11], 0), (44, [2, 11], 0), (4, [0], 0), (4, [1], 0), (40, [2, 12], 0), (44, [2, 12], 0), (72, [], 0)]]
def cd_W_cell : List (List qm_Ins) := [
  [(2, [1], 0), (4, [0], 0), (57, [], 0), (60, [3, 1], 0), (4, [0], 0), (2, [1], 0), (50, [], 0), (63, [2], 0)],
  [(0, [], 0), (64, [2], 0)],
  [(70, [], 0)]]
def cd_W_law : List (List qm_Ins) := [
  [(2, [3], 0), (4, [0], 0), (57, [], 0), (0, [], 6), (11, [], 0), (60, [4, 39], 0), (4, [0], 0), (2, [3], 0), (50, [], 0), (0, [], 31), (16, [], 0), (65, [38, 1, 2, 7, 8, 9, 10, 11, 16, 17, 18, 19, 20, 21, 22, 23, 24, 25, 26, 27, 28, 29, 30, 31, 32, 33, 34, 35, 36, 37], 0)],
  [(4, [1], 0), (4, [0], 0), (2, [3], 0), (0, [], 1), (10, [], 0), (50, [], 0), (4, [0], 0), (2, [3], 0), (0, [], 2), (10, [], 0), (50, [], 0), (4, [0], 0), (2, [3], 0), (0, [], 3), (10, [], 0), (50, [], 0), (4, [0], 0), (2, [3], 0), (0, [], 4), (10, [], 0), (50, [], 0), (80, [1, 5, 1], 0), (4, [2], 0), (4, [0], 0), (2, [3], 0), (0, [], 1), (10, [], 0), (50, [], 0), (4, [0], 0), (2, [3], 0), (0, [], 2), (10, [], 0), (50, [], 0), (4, [0], 0), (2, [3], 0), (0, [], 3), (10, [], 0), (50, [], 0), (4, [0], 0), (2, [3], 0), (0, [], 4), (10, [], 0), (50, [], 0), (80, [64, 5, 9], 0), (60, [0, 38], 0), (0, [], 0), (73, [], 0)],
  [(4, [1], 0), (4, [0], 0), (2, [3], 0), (0, [], 1), (10, [], 0), (50, [], 0), (4, [0], 0), (2, [3], 0), (0, [], 2), (10, [], 0), (50, [], 0), (4, [0], 0), (2, [3], 0), (0, [], 3), (10, [], 0), (50, [], 0), (61, [0, 3], 0), (0, [], 1), (63, [4], 0)],
  [(0, [], 0), (64, [4], 0)],
  [(80, [2, 4, 1], 0), (4, [2], 0), (4, [0], 0), (2, [3], 0), (0, [], 1), (10, [], 0), (50, [], 0), (4, [0], 0), (2, [3], 0), (0, [], 2), (10, [], 0), (50, [], 0), (4, [0], 0), (2, [3], 0), (0, [], 3), (10, [], 0), (50, [], 0), (61, [0, 5], 0), (0, [], 1), (63, [6], 0)],
  [(0, [], 0), (64, [6], 0)],
  [(80, [66, 4, 9], 0), (60, [0, 38], 0), (0, [], 0), (73, [], 0)],
  [(4, [1], 0), (4, [0], 0), (2, [3], 0), (0, [], 1), (10, [], 0), (50, [], 0), (4, [0], 0), (2, [3], 0), (0, [], 2), (10, [], 0), (50, [], 0), (4, [0], 0), (2, [3], 0), (0, [], 3), (10, [], 0), (50, [], 0), (4, [0], 0), (2, [3], 0), (0, [], 4), (10, [], 0), (50, [], 0), (80, [3, 5, 1], 0), (4, [2], 0), (4, [0], 0), (2, [3], 0), (0, [], 1), (10, [], 0), (50, [], 0), (4, [0], 0), (2, [3], 0), (0, [], 2), (10, [], 0), (50, [], 0), (4, [0], 0), (2, [3], 0), (0, [], 3), (10, [], 0), (50, [], 0), (4, [0], 0), (2, [3], 0), (0, [], 4), (10, [], 0), (50, [], 0), (80, [68, 5, 9], 0), (60, [0, 38], 0), (0, [], 0), (73, [], 0)],
  [(4, [1], 0), (4, [0], 0), (2, [3], 0), (0, [], 1), (10, [], 0), (50, [], 0), (4, [0], 0), (2, [3], 0), (0, [], 2), (10, [], 0), (50, [], 0), (4, [0], 0), (2, [3], 0), (0, [], 3), (10, [], 0), (50, [], 0), (80, [4, 4, 1], 0), (4, [2], 0), (4, [0], 0), (2, [3], 0), (0, [], 1), (10, [], 0), (50, [], 0), (4, [0], 0), (2, [3], 0), (0, [], 2), (10, [], 0), (50, [], 0), (4, [0], 0), (2, [3], 0), (0, [], 3), (10, [], 0), (50, [], 0), (80, [69, 4, 9], 0), (60, [0, 38], 0), (0, [], 0), (73, [], 0)],
  [(4, [1], 0), (4, [0], 0), (2, [3], 0), (0, [], 1), (10, [], 0), (50, [], 0), (4, [0], 0), (2, [3], 0), (0, [], 2), (10, [], 0), (50, [], 0), (4, [0], 0), (2, [3], 0), (0, [], 3), (10, [], 0), (50, [], 0), (4, [0], 0), (2, [3], 0), (0, [], 4), (10, [], 0), (50, [], 0), (80, [5, 5, 1], 0), (4, [2], 0), (4, [0], 0), (2, [3], 0), (0, [], 1), (10, [], 0), (50, [], 0), (4, [0], 0), (2, [3], 0), (0, [], 2), (10, [], 0), (50, [], 0), (4, [0], 0), (2, [3], 0), (0, [], 3), (10, [], 0), (50, [], 0), (4, [0], 0), (2, [3], 0), (0, [], 4), (10, [], 0), (50, [], 0), (80, [70, 5, 9], 0), (60, [0, 38], 0), (0, [], 0), (73, [], 0)],
  [(4, [1], 0), (4, [0], 0), (2, [3], 0), (0, [], 1), (10, [], 0), (50, [], 0), (4, [0], 0), (2, [3], 0), (0, [], 2), (10, [], 0), (50, [], 0), (80, [6, 3, 1], 0), (4, [2], 0), (4, [0], 0), (2, [3], 0), (0, [], 1), (10, [], 0), (50, [], 0), (4, [0], 0), (2, [3], 0), (0, [], 2), (10, [], 0), (50, [], 0), (80, [72, 3, 9], 0), (60, [0, 38], 0), (0, [], 0), (73, [], 0)],
  [(4, [1], 0), (4, [0], 0), (2, [3], 0), (0, [], 1), (10, [], 0), (50, [], 0), (4, [0], 0), (2, [3], 0), (0, [], 2), (10, [], 0), (50, [], 0), (61, [0, 12], 0), (0, [], 1), (63, [13], 0)],
  [(0, [], 0), (64, [13], 0)],
  [(4, [0], 0), (2, [3], 0), (0, [], 3), (10, [], 0), (50, [], 0), (80, [7, 4, 1], 0), (4, [2], 0), (4, [0], 0), (2, [3], 0), (0, [], 1), (10, [], 0), (50, [], 0), (4, [0], 0), (2, [3], 0), (0, [], 2), (10, [], 0), (50, [], 0), (61, [0, 14], 0), (0, [], 1), (63, [15], 0)],
  [(0, [], 0), (64, [15], 0)],
  [(4, [0], 0), (2, [3], 0), (0, [], 3), (10, [], 0), (50, [], 0), (80, [73, 4, 9], 0), (60, [0, 38], 0), (0, [], 0), (73, [], 0)],
  [(4, [1], 0), (4, [0], 0), (2, [3], 0), (0, [], 1), (10, [], 0), (50, [], 0), (4, [0], 0), (2, [3], 0), (0, [], 2), (10, [], 0), (50, [], 0), (4, [0], 0), (2, [3], 0), (0, [], 3), (10, [], 0), (50, [], 0), (4, [0], 0), (2, [3], 0), (0, [], 4), (10, [], 0), (50, [], 0), (4, [0], 0), (2, [3], 0), (0, [], 5), (10, [], 0), (50, [], 0), (80, [8, 6, 1], 0), (4, [2], 0), (4, [0], 0), (2, [3], 0), (0, [], 1), (10, [], 0), (50, [], 0), (4, [0], 0), (2, [3], 0), (0, [], 2), (10, [], 0), (50, [], 0), (4, [0], 0), (2, [3], 0), (0, [], 3), (10, [], 0), (50, [], 0), (4, [0], 0), (2, [3], 0), (0, [], 4), (10, [], 0), (50, [], 0), (4, [0], 0), (2, [3], 0), (0, [], 5), (10, [], 0), (50, [], 0), (80, [75, 6, 9], 0), (60, [0, 38], 0), (0, [], 0), (73, [], 0)],
  [(4, [1], 0), (4, [0], 0), (2, [3], 0), (0, [], 1), (10, [], 0), (50, [], 0), (80, [10, 2, 1], 0), (4, [2], 0), (4, [0], 0), (2, [3], 0), (0, [], 1), (10, [], 0), (50, [], 0), (80, [76, 2, 9], 0), (60, [0, 38], 0), (0, [], 0), (73, [], 0)],
  [(4, [1], 0), (80, [11, 1, 1], 0), (4, [2], 0), (80, [110, 1, 9], 0), (60, [0, 38], 0), (0, [], 0), (73, [], 0)],
  [(4, [1], 0), (4, [0], 0), (2, [3], 0), (0, [], 1), (10, [], 0), (50, [], 0), (80, [12, 2, 1], 0), (4, [2], 0), (4, [0], 0), (2, [3], 0), (0, [], 1), (10, [], 0), (50, [], 0), (80, [111, 2, 9], 0), (60, [0, 38], 0), (0, [], 0), (73, [], 0)],
  [(4, [1], 0), (4, [0], 0), (2, [3], 0), (0, [], 1), (10, [], 0), (50, [], 0), (80, [13, 2, 1], 0), (4, [2], 0), (4, [0], 0), (2, [3], 0), (0, [], 1), (10, [], 0), (50, [], 0), (80, [112, 2, 9], 0), (60, [0, 38], 0), (0, [], 0), (73, [], 0)],
  [(4, [1], 0), (4, [0], 0), (2, [3], 0), (0, [], 1), (10, [], 0), (50, [], 0), (80, [15, 2, 1], 0), (4, [2], 0), (4, [0], 0), (2, [3], 0), (0, [], 1), (10, [], 0), (50, [], 0), (80, [113, 2, 9], 0), (60, [0, 38], 0), (0, [], 0), (73, [], 0)],
  [(4, [1], 0), (4, [0], 0), (2, [3], 0), (0, [], 1), (10, [], 0), (50, [], 0), (4, [0], 0), (2, [3], 0), (0, [], 2), (10, [], 0), (50, [], 0), (4, [0], 0), (2, [3], 0), (0, [], 3), (10, [], 0), (50, [], 0), (80, [17, 4, 1], 0), (4, [2], 0), (4, [0], 0), (2, [3], 0), (0, [], 1), (10, [], 0), (50, [], 0), (4, [0], 0), (2, [3], 0), (0, [], 2), (10, [], 0), (50, [], 0), (4, [0], 0), (2, [3], 0), (0, [], 3), (10, [], 0), (50, [], 0), (80, [131, 4, 9], 0), (60, [0, 38], 0), (0, [], 0), (73, [], 0)],
  [(4, [1], 0), (4, [0], 0), (2, [3], 0), (0, [], 1), (10, [], 0), (50, [], 0), (80, [18, 2, 1], 0), (4, [2], 0), (4, [0], 0), (2, [3], 0), (0, [], 1), (10, [], 0), (50, [], 0), (80, [134, 2, 9], 0), (60, [0, 38], 0), (0, [], 0), (73, [], 0)],
  [(4, [1], 0), (4, [0], 0), (2, [3], 0), (0, [], 1), (10, [], 0), (50, [], 0), (80, [19, 2, 1], 0), (4, [2], 0), (4, [0], 0), (2, [3], 0), (0, [], 1), (10, [], 0), (50, [], 0), (80, [137, 2, 9], 0), (60, [0, 38], 0), (0, [], 0), (73, [], 0)],
  [(4, [1], 0), (4, [0], 0), (2, [3], 0), (0, [], 1), (10, [], 0), (50, [], 0), (80, [20, 2, 1], 0), (4, [2], 0), (4, [0], 0), (2, [3], 0), (0, [], 1), (10, [], 0), (50, [], 0), (80, [140, 2, 9], 0), (60, [0, 38], 0), (0, [], 0), (73, [], 0)],
  [(4, [1], 0), (4, [0], 0), (2, [3], 0), (0, [], 1), (10, [], 0), (50, [], 0), (4, [0], 0), (2, [3], 0), (0, [], 2), (10, [], 0), (50, [], 0), (80, [22, 3, 1], 0), (4, [2], 0), (4, [0], 0), (2, [3], 0), (0, [], 1), (10, [], 0), (50, [], 0), (4, [0], 0), (2, [3], 0), (0, [], 2), (10, [], 0), (50, [], 0), (80, [146, 3, 9], 0), (60, [0, 38], 0), (0, [], 0), (73, [], 0)],
  [(4, [1], 0), (4, [0], 0), (2, [3], 0), (0, [], 1), (10, [], 0), (50, [], 0), (4, [0], 0), (2, [3], 0), (0, [], 2), (10, [], 0), (50, [], 0), (4, [0], 0), (2, [3], 0), (0, [], 3), (10, [], 0), (50, [], 0), (80, [23, 4, 1], 0), (4, [2], 0), (4, [0], 0), (2, [3], 0), (0, [], 1), (10, [], 0), (50, [], 0), (4, [0], 0), (2, [3], 0), (0, [], 2), (10, [], 0), (50, [], 0), (4, [0], 0), (2, [3], 0), (0, [], 3), (10, [], 0), (50, [], 0), (80, [150, 4, 9], 0), (60, [0, 38], 0), (0, [], 0), (73, [], 0)],
  [(4, [1], 0), (4, [0], 0), (2, [3], 0), (0, [], 1), (10, [], 0), (50, [], 0), (4, [0], 0), (2, [3], 0), (0, [], 2), (10, [], 0), (50, [], 0), (4, [0], 0), (2, [3], 0), (0, [], 3), (10, [], 0), (50, [], 0), (4, [0], 0), (2, [3], 0), (0, [], 4), (10, [], 0), (50, [], 0), (80, [27, 5, 1], 0), (4, [2], 0), (4, [0], 0), (2, [3], 0), (0, [], 1), (10, [], 0), (50, [], 0), (4, [0], 0), (2, [3], 0), (0, [], 2), (10, [], 0), (50, [], 0), (4, [0], 0), (2, [3], 0), (0, [], 3), (10, [], 0), (50, [], 0), (4, [0], 0), (2, [3], 0), (0, [], 4), (10, [], 0), (50, [], 0), (80, [154, 5, 9], 0), (60, [0, 38], 0), (0, [], 0), (73, [], 0)],
  [(4, [1], 0), (4, [0], 0), (2, [3], 0), (0, [], 1), (10, [], 0), (50, [], 0), (4, [0], 0), (2, [3], 0), (0, [], 2), (10, [], 0), (50, [], 0), (80, [28, 3, 1], 0), (4, [2], 0), (4, [0], 0), (2, [3], 0), (0, [], 1), (10, [], 0), (50, [], 0), (4, [0], 0), (2, [3], 0), (0, [], 2), (10, [], 0), (50, [], 0), (80, [155, 3, 9], 0), (60, [0, 38], 0), (0, [], 0), (73, [], 0)],
  [(4, [1], 0), (4, [0], 0), (2, [3], 0), (0, [], 1), (10, [], 0), (50, [], 0), (4, [0], 0), (2, [3], 0), (0, [], 2), (10, [], 0), (50, [], 0), (4, [0], 0), (2, [3], 0), (0, [], 3), (10, [], 0), (50, [], 0), (80, [33, 4, 1], 0), (4, [2], 0), (4, [0], 0), (2, [3], 0), (0, [], 1), (10, [], 0), (50, [], 0), (4, [0], 0), (2, [3], 0), (0, [], 2), (10, [], 0), (50, [], 0), (4, [0], 0), (2, [3], 0), (0, [], 3), (10, [], 0), (50, [], 0), (80, [156, 4, 9], 0), (60, [0, 38], 0), (0, [], 0), (73, [], 0)],
  [(4, [1], 0), (4, [0], 0), (2, [3], 0), (0, [], 1), (10, [], 0), (50, [], 0), (80, [34, 2, 1], 0), (4, [2], 0), (4, [0], 0), (2, [3], 0), (0, [], 1), (10, [], 0), (50, [], 0), (80, [157, 2, 9], 0), (60, [0, 38], 0), (0, [], 0), (73, [], 0)],
  [(4, [1], 0), (80, [37, 1, 1], 0), (4, [2], 0), (80, [158, 1, 9], 0), (60, [0, 38], 0), (0, [], 0), (73, [], 0)],
  [(4, [1], 0), (4, [0], 0), (2, [3], 0), (0, [], 1), (10, [], 0), (50, [], 0), (4, [0], 0), (2, [3], 0), (0, [], 2), (10, [], 0), (50, [], 0), (80, [38, 3, 1], 0), (4, [2], 0), (4, [0], 0), (2, [3], 0), (0, [], 1), (10, [], 0), (50, [], 0), (4, [0], 0), (2, [3], 0), (0, [], 2), (10, [], 0), (50, [], 0), (80, [160, 3, 9], 0), (60, [0, 38], 0), (0, [], 0), (73, [], 0)],
  [(4, [1], 0), (4, [0], 0), (2, [3], 0), (0, [], 1), (10, [], 0), (50, [], 0), (4, [0], 0), (2, [3], 0), (0, [], 2), (10, [], 0), (50, [], 0), (4, [0], 0), (2, [3], 0), (0, [], 3), (10, [], 0), (50, [], 0), (80, [40, 4, 1], 0), (4, [2], 0), (4, [0], 0), (2, [3], 0), (0, [], 1), (10, [], 0), (50, [], 0), (4, [0], 0), (2, [3], 0), (0, [], 2), (10, [], 0), (50, [], 0), (4, [0], 0), (2, [3], 0), (0, [], 3), (10, [], 0), (50, [], 0), (80, [161, 4, 9], 0), (60, [0, 38], 0), (0, [], 0), (73, [], 0)],
  [(4, [1], 0), (80, [42, 1, 1], 0), (4, [2], 0), (80, [162, 1, 9], 0), (60, [0, 38], 0), (0, [], 0), (73, [], 0)],
  [(4, [1], 0), (80, [43, 1, 1], 0), (4, [2], 0), (80, [163, 1, 9], 0), (60, [0, 38], 0), (0, [], 0), (73, [], 0)],
  [(4, [1], 0), (4, [0], 0), (2, [3], 0), (0, [], 1), (10, [], 0), (50, [], 0), (80, [44, 2, 1], 0), (4, [2], 0), (4, [0], 0), (2, [3], 0), (0, [], 1), (10, [], 0), (50, [], 0), (80, [164, 2, 9], 0), (60, [0, 38], 0), (0, [], 0), (73, [], 0)],
  [(8, [3], 6), (63, [0], 0)],
  [(0, [], 1), (73, [], 0)]]
def qm_code : List (Nat × List (List qm_Ins)) := [
  (4, []),
  (5, cd_C_lay),
  (4, cd_C_bark),
  (6, cd_C_measure),
  (4, cd_C_span),
  (7, cd_C_weather),
  (3, cd_C_plan),
  (4, cd_C_ends),
  (6, cd_C_feed),
  (3, cd_C_feedFour),
  (2, cd_C_end),
  (2, cd_C_text),
  (2, cd_C_fault),
  (2, cd_C_by),
  (1, cd_C_obey),
  (4, cd_C_laid),
  (6, cd_C_layClause),
  (6, cd_C_of),
  (3, cd_C_stack),
  (2, cd_C_week),
  (4, cd_C_take),
  (9, cd_C_takeOne),
  (4, cd_C_order),
  (8, cd_C_way),
  (6, cd_C_tryWay),
  (3, cd_C_bestOf),
  (4, cd_C_bestInBoth),
  (5, cd_C_spans),
  (7, cd_C_sure),
  (7, cd_C_trySpans),
  (2, cd_C_lesser),
  (2, cd_C_greater),
  (7, cd_C_nextToMeasure),
  (6, cd_C_small),
  (5, cd_C_winter),
  (4, cd_C_listHeats),
  (4, cd_C_pullGreatest),
  (1, cd_C_remember),
  (5, cd_C_missing),
  (2, cd_C_missingOf),
  (7, cd_C_falls),
  (5, cd_C_fallsBy),
  (1, cd_C_image),
  (1, cd_C_back),
  (2, cd_C_about),
  (2, cd_C_canTry),
  (2, cd_C_canPass),
  (2, cd_C_isWeather),
  (2, cd_C_isText),
  (1, cd_C_isKind),
  (1, cd_C_isWater),
  (2, cd_C_isSpan),
  (1, cd_C_isDry),
  (3, cd_C_within),
  (2, cd_C_placeOf),
  (3, []),
  (4, cd_M_copy),
  (3, cd_M_isIn),
  (4, cd_M_held),
  (2, cd_M_count),
  (3, cd_M_at0),
  (2, cd_M_isColumn),
  (3, cd_M_isSplit),
  (3, cd_M_splits),
  (5, cd_M_lay),
  (6, cd_M_put),
  (4, cd_M_bark),
  (2, cd_M_isSpan),
  (5, cd_M_measure),
  (4, cd_M_span),
  (6, cd_M_weather),
  (2, cd_M_isWeather),
  (3, cd_M_plan),
  (4, cd_M_ends),
  (3, cd_M_four),
  (6, cd_M_feed),
  (2, cd_M_end),
  (2, cd_M_byteAt),
  (1, cd_M_isLetter),
  (1, cd_M_isDigit),
  (3, cd_M_nextToken),
  (3, cd_M_w3),
  (5, cd_M_w5),
  (4, cd_M_w4),
  (6, cd_M_w6),
  (3, cd_M_isWord),
  (3, cd_M_emit),
  (2, cd_M_push),
  (1, cd_M_rank),
  (2, cd_M_settle),
  (1, cd_M_whole),
  (2, cd_M_marker),
  (2, cd_M_isCompared),
  (2, cd_M_isAskAhead),
  (2, cd_M_opensBy),
  (3, cd_M_beginOne),
  (1, cd_M_compareOf),
  (2, cd_M_betweenOf),
  (5, cd_M_behindOne),
  (4, cd_M_parsed),
  (7, cd_M_w7),
  (1, cd_M_nameOf),
  (1, cd_M_farName),
  (2, cd_M_isOf),
  (1, cd_M_sortOf),
  (4, cd_M_figure),
  (2, cd_M_expects),
  (3, cd_M_laidBy),
  (6, cd_M_clause),
  (2, cd_M_readText),
  (1, cd_M_text),
  (2, cd_M_fault),
  (2, cd_M_by),
  (4, cd_M_laid),
  (2, cd_M_clip),
  (5, cd_M_two),
  (5, cd_M_isAsked),
  (9, cd_M_work),
  (1, cd_M_clauses),
  (3, cd_M_clauseOf),
  (6, cd_M_sumOf),
  (4, cd_M_besideOf),
  (5, cd_M_name),
  (5, cd_M_thickOf),
  (3, cd_M_heatOf),
  (3, cd_M_isDry),
  (4, cd_M_heightOf),
  (1, cd_M_leanOf),
  (3, cd_M_standOf),
  (4, cd_M_dryMany),
  (4, cd_M_isBeetle),
  (4, cd_M_of),
  (9, cd_M_airIn),
  (4, cd_M_beetles),
  (2, cd_M_stack),
  (7, cd_M_driedOf),
  (5, cd_M_goBy),
  (2, cd_M_week),
  (5, cd_M_takeOff),
  (10, cd_M_takeOne),
  (4, cd_M_take),
  (2, cd_M_tries),
  (3, cd_M_isTried),
  (4, cd_M_keepOrder),
  (3, cd_M_choosesNext),
  (4, cd_M_findOrder),
  (3, cd_M_order),
  (4, cd_M_goOn),
  (5, cd_M_tryWays),
  (3, cd_M_bestOf),
  (7, cd_M_way),
  (7, cd_M_tryEnds),
  (2, cd_M_lesser),
  (2, cd_M_greater),
  (5, cd_M_spans),
  (10, cd_M_sure),
  (7, cd_M_small),
  (8, cd_M_winter),
  (2, cd_M_remember),
  (2, cd_M_missingOf),
  (5, cd_M_missing),
  (8, cd_M_falls),
  (1, cd_M_image),
  (1, cd_M_back),
  (2, cd_M_about),
  (2, []),
  (8, cd_L_thickOf),
  (6, cd_L_heatOf),
  (5, cd_L_worthOf),
  (3, cd_L_standOf),
  (5, cd_L_heightOf),
  (2, cd_L_leanOf),
  (11, cd_L_airIn),
  (5, cd_L_beetlesIn),
  (5, cd_L_hasBeetle),
  (5, cd_L_pass),
  (7, cd_L_dryAll),
  (9, cd_L_driedBy),
  (5, cd_L_look),
  (8, cd_L_valueOf),
  (2, cd_L_nameValue),
  (5, cd_L_joined),
  (3, cd_L_clamp),
  (2, []),
  (2, cd_P_become),
  (1, cd_P_isFallen),
  (3, cd_P_holds),
  (2, cd_P_clear),
  (7, cd_P_add),
  (4, cd_P_remove),
  (2, cd_P_bringDown),
  (3, cd_P_turnBark),
  (3, cd_P_splits),
  (4, cd_P_drySplits),
  (3, cd_P_tallest),
  (3, cd_P_isTop),
  (4, cd_P_besideOf),
  (2, cd_P_isSunny),
  (1, []),
  (5, cd_R_readAll),
  (1, cd_R_token),
  (1, cd_R_number),
  (1, cd_R_step),
  (2, cd_R_fail),
  (2, cd_R_expect),
  (2, cd_R_emit),
  (2, cd_R_readClause),
  (1, cd_R_readLay),
  (3, cd_R_readTold),
  (5, cd_R_readPart),
  (1, cd_R_levelOf),
  (3, cd_R_readAsk),
  (2, cd_R_opens),
  (3, cd_R_readOne),
  (2, cd_R_readName),
  (2, cd_R_isNameOfClause),
  (3, cd_R_readPair),
  (3, []),
  (2, cd_S_begin),
  (10, cd_S_tryFrom),
  (3, cd_S_note),
  (1, []),
  (2, cd_T_clear),
  (2, cd_T_begin),
  (2, cd_T_emit),
  (2, cd_T_clauseOf),
  (4, cd_T_codeAt),
  (1, cd_T_standsOnce),
  (1, []),
  (6, cd_K_cut),
  (4, cd_K_add),
  (5, cd_K_cutWord),
  (8, cd_K_wordOf),
  (6, cd_K_cutNumber),
  (5, cd_K_cutSign),
  (1, cd_K_signOf),
  (1, cd_K_isLetter),
  (1, cd_K_isDigit),
  (2, []),
  (2, cd_Y_become),
  (2, cd_W_cell),
  (4, cd_W_law)]
def qm_blk (m k : Nat) : List qm_Ins := (qm_code.getD m (0, [])).2.getD k []
def qm_maxL (m : Nat) : Nat := (qm_code.getD m (0, [])).1
end
section
/-- a run: fuel n, depth d, method m, the rest of its block, locals, operands, heap -/
def qm_run : Nat → Nat → Nat → List qm_Ins → List qm_AV → List qm_AV → qm_Hp → Option (Option qm_AV × qm_Hp)
  | 0, _, _, _, _, _, _ => none
  | _ + 1, _, _, [], _, _, _ => none
  | n + 1, d, m, i :: c, ls, st, s => match qm_act i ls st s with
    | none => none
    | some (.inl (ls', st', s')) => qm_run n d m c ls' st' s'
    | some (.inr (.inl (b, st'))) => qm_run n d m (qm_blk m b) ls st' s
    | some (.inr (.inr (.inl (f, as, st')))) => match d with
      | 0 => none
      | d' + 1 => match (if (qm_lay as).length ≤ qm_maxL f then qm_run n d' f (qm_blk f 0) (qm_ent (qm_maxL f) as) [] s else none) with
        | none => none
        | some (r, s') => qm_run n (d' + 1) m c ls (qm_push r st') s'
    | some (.inr (.inr (.inr r))) => some (r, s)
theorem qm_run_mono : ∀ (n d m : Nat) (c : List qm_Ins) (ls st : List qm_AV) (s : qm_Hp) (r : Option qm_AV × qm_Hp), qm_run n d m c ls st s = some r → qm_run (n + 1) d m c ls st s = some r := by
  intro n
  induction n with
  | zero => intro d m c ls st s r h; simp [qm_run] at h
  | succ n ih =>
    intro d m c ls st s r h
    cases c with
    | nil => simp [qm_run] at h
    | cons i c =>
      rw [qm_run] at h ⊢
      generalize qm_act i ls st s = x at h ⊢
      match x, h with
      | none, h => exact h
      | some (.inl (ls', st', s')), h => exact ih _ _ _ _ _ _ _ h
      | some (.inr (.inl (b, st'))), h => exact ih _ _ _ _ _ _ _ h
      | some (.inr (.inr (.inl (f, as, st')))), h =>
        match d, h with
        | 0, h => exact h
        | d' + 1, h =>
          dsimp only at h ⊢
          by_cases hlen : (qm_lay as).length ≤ qm_maxL f
          · rw [if_pos hlen] at h ⊢
            cases e : qm_run n d' f (qm_blk f 0) (qm_ent (qm_maxL f) as) [] s with
            | none => rw [e] at h; cases h
            | some q =>
              rw [e] at h
              rw [ih _ _ _ _ _ _ _ e]
              obtain ⟨q1, q2⟩ := q
              exact ih _ _ _ _ _ _ _ h
          · rw [if_neg hlen] at h
            cases h
      | some (.inr (.inr (.inr r'))), h => exact h
theorem qm_run_le {n k d m : Nat} {c : List qm_Ins} {ls st : List qm_AV} {s : qm_Hp} {r : Option qm_AV × qm_Hp} (hk : n ≤ k) (h : qm_run n d m c ls st s = some r) : qm_run k d m c ls st s = some r := by
  induction hk with
  | refl => exact h
  | step _ ih => exact qm_run_mono _ _ _ _ _ _ _ _ ih
/-- where a run comes to, if it does -/
noncomputable def qm_ev (d m : Nat) (c : List qm_Ins) (ls st : List qm_AV) (s : qm_Hp) : Option (Option qm_AV × qm_Hp) :=
  @dite _ (∃ r n, qm_run n d m c ls st s = some r) (Classical.propDecidable _) (fun h => some (Classical.choose h)) (fun _ => none)
theorem qm_ev_iff {d m : Nat} {c : List qm_Ins} {ls st : List qm_AV} {s : qm_Hp} {r : Option qm_AV × qm_Hp} : qm_ev d m c ls st s = some r ↔ ∃ n, qm_run n d m c ls st s = some r := by
  unfold qm_ev
  by_cases h : ∃ r n, qm_run n d m c ls st s = some r
  · rw [dif_pos h]
    obtain ⟨n, hn⟩ := Classical.choose_spec h
    constructor
    · intro e
      cases e
      exact ⟨n, hn⟩
    · rintro ⟨k, hk⟩
      have h1 := qm_run_le (Nat.le_max_left n k) hn
      have h2 := qm_run_le (Nat.le_max_right n k) hk
      rw [h1] at h2
      exact h2
  · rw [dif_neg h]
    exact ⟨fun e => (by cases e), fun ⟨n, hn⟩ => absurd ⟨r, n, hn⟩ h⟩
noncomputable def qm_evB (d m k : Nat) (ls st : List qm_AV) (s : qm_Hp) : Option (Option qm_AV × qm_Hp) := qm_ev d m (qm_blk m k) ls st s
noncomputable def qm_evM (d f : Nat) (as : List qm_AV) (s : qm_Hp) : Option (Option qm_AV × qm_Hp) := if (qm_lay as).length ≤ qm_maxL f then qm_evB d f 0 (qm_ent (qm_maxL f) as) [] s else none
theorem qm_ev_same {d m d' m' : Nat} {c c' : List qm_Ins} {ls st ls' st' : List qm_AV} {s s' : qm_Hp} (h : ∀ n, qm_run (n + 1) d m c ls st s = qm_run n d' m' c' ls' st' s') : qm_ev d m c ls st s = qm_ev d' m' c' ls' st' s' := by
  refine Option.ext fun r => ?_
  rw [qm_ev_iff, qm_ev_iff]
  constructor
  · rintro ⟨n, hn⟩
    exact ⟨n, by rw [← h]; exact qm_run_mono _ _ _ _ _ _ _ _ hn⟩
  · rintro ⟨n, hn⟩
    exact ⟨n + 1, by rw [h]; exact hn⟩
theorem qm_go {d m : Nat} {i : qm_Ins} {c : List qm_Ins} {ls st ls' st' : List qm_AV} {s s' : qm_Hp} (h : qm_act i ls st s = some (.inl (ls', st', s'))) : qm_ev d m (i :: c) ls st s = qm_ev d m c ls' st' s' :=
  qm_ev_same fun n => by rw [qm_run, h]
theorem qm_jump {d m b : Nat} {i : qm_Ins} {c : List qm_Ins} {ls st st' : List qm_AV} {s : qm_Hp} (h : qm_act i ls st s = some (.inr (.inl (b, st')))) : qm_ev d m (i :: c) ls st s = qm_evB d m b ls st' s :=
  qm_ev_same fun n => by rw [qm_run, h]
theorem qm_ret {d m : Nat} {i : qm_Ins} {c : List qm_Ins} {ls st : List qm_AV} {s : qm_Hp} {r : Option qm_AV} (h : qm_act i ls st s = some (.inr (.inr (.inr r)))) : qm_ev d m (i :: c) ls st s = some (r, s) :=
  qm_ev_iff.mpr ⟨1, by rw [qm_run, h]⟩
theorem qm_call {d m f : Nat} {i : qm_Ins} {c : List qm_Ins} {ls st as st' : List qm_AV} {s : qm_Hp} (h : qm_act i ls st s = some (.inr (.inr (.inl (f, as, st'))))) : qm_ev (d + 1) m (i :: c) ls st s = (qm_evM d f as s).bind (fun r => qm_ev (d + 1) m c ls (qm_push r.1 st') r.2) := by
  by_cases hlen : (qm_lay as).length ≤ qm_maxL f
  · unfold qm_evM
    rw [if_pos hlen]
    refine Option.ext fun r => ?_
    rw [qm_ev_iff, Option.bind_eq_some_iff]
    constructor
    · rintro ⟨n, hn⟩
      cases n with
      | zero => simp [qm_run] at hn
      | succ n =>
        rw [qm_run, h] at hn
        dsimp only at hn
        rw [if_pos hlen] at hn
        cases e : qm_run n d f (qm_blk f 0) (qm_ent (qm_maxL f) as) [] s with
        | none => rw [e] at hn; cases hn
        | some q =>
          rw [e] at hn
          exact ⟨q, qm_ev_iff.mpr ⟨n, e⟩, qm_ev_iff.mpr ⟨n, hn⟩⟩
    · rintro ⟨q, h1, h2⟩
      obtain ⟨n, hn⟩ := qm_ev_iff.mp h1
      obtain ⟨k, hk⟩ := qm_ev_iff.mp h2
      refine ⟨max n k + 1, ?_⟩
      rw [qm_run, h]
      dsimp only
      rw [if_pos hlen, qm_run_le (Nat.le_max_left n k) hn]
      exact qm_run_le (Nat.le_max_right n k) hk
  · unfold qm_evM
    rw [if_neg hlen]
    refine Option.ext fun r => ?_
    rw [qm_ev_iff]
    constructor
    · rintro ⟨n, hn⟩
      cases n with
      | zero => simp [qm_run] at hn
      | succ n =>
        rw [qm_run, h] at hn
        dsimp only at hn
        rw [if_neg hlen] at hn
        cases hn
    · intro e
      cases e
end
section
theorem x_icst (d m : Nat) (c : List qm_Ins) (ls st : List qm_AV) (s : qm_Hp) (v : Int) : qm_ev d m ((0, [], v) :: c) ls (st) s = qm_ev d m c (ls) (qI (Int32.ofInt v) :: st) s := qm_go rfl
theorem x_lcst (d m : Nat) (c : List qm_Ins) (ls st : List qm_AV) (s : qm_Hp) (v : Int) : qm_ev d m ((1, [], v) :: c) ls (st) s = qm_ev d m c (ls) (qL (Int64.ofInt v) :: st) s := qm_go rfl
def qm_ldI (v : qm_AV) (f : Int32 → Option (Option qm_AV × qm_Hp)) : Option (Option qm_AV × qm_Hp) := match v with | .inl x => f x | _ => none
def qm_ldL (v : qm_AV) (f : Int64 → Option (Option qm_AV × qm_Hp)) : Option (Option qm_AV × qm_Hp) := match v with | .inr (.inl x) => f x | _ => none
def qm_ldP (v : qm_AV) (f : Nat → Nat → Option (Option qm_AV × qm_Hp)) : Option (Option qm_AV × qm_Hp) := match v with | .inr (.inr (q, i)) => if q = 99 ∨ q = 0 then none else f q i | _ => none
theorem qm_ldI_e (x : Int32) (f : Int32 → Option (Option qm_AV × qm_Hp)) : qm_ldI (qI x) f = f x := rfl
theorem qm_ldL_e (x : Int64) (f : Int64 → Option (Option qm_AV × qm_Hp)) : qm_ldL (qL x) f = f x := rfl
theorem qm_ldP_e (q i : Nat) (f : Nat → Nat → Option (Option qm_AV × qm_Hp)) : qm_ldP (qP q i) f = if q = 99 ∨ q = 0 then none else f q i := rfl
theorem qm_ev_no {d m : Nat} {i : qm_Ins} {c : List qm_Ins} {ls st : List qm_AV} {s : qm_Hp} (h : qm_act i ls st s = none) : qm_ev d m (i :: c) ls st s = none := by
  refine Option.ext fun r => ?_
  rw [qm_ev_iff]
  constructor
  · rintro ⟨n, hn⟩
    cases n with
    | zero => simp [qm_run] at hn
    | succ n => rw [qm_run, h] at hn; cases hn
  · intro e; cases e
theorem x_iload (d m : Nat) (c : List qm_Ins) (ls st : List qm_AV) (s : qm_Hp) (k : Nat) : qm_ev d m ((2, [k], 0) :: c) ls st s = qm_ldI (qm_lg ls k) (fun x => qm_ev d m c ls (qI x :: st) s) := by
  generalize hv : qm_lg ls k = v
  rcases v with x | x | ⟨q, i⟩
  · first | exact qm_go (by simp only [qm_act, qa_load, hv]) | exact qm_ev_no (by simp only [qm_act, qa_load, hv])
  · first | exact qm_go (by simp only [qm_act, qa_load, hv]) | exact qm_ev_no (by simp only [qm_act, qa_load, hv])
  · exact qm_ev_no (by simp only [qm_act, qa_load, hv])
theorem x_lload (d m : Nat) (c : List qm_Ins) (ls st : List qm_AV) (s : qm_Hp) (k : Nat) : qm_ev d m ((3, [k], 0) :: c) ls st s = qm_ldL (qm_lg ls k) (fun x => qm_ev d m c ls (qL x :: st) s) := by
  generalize hv : qm_lg ls k = v
  rcases v with x | x | ⟨q, i⟩
  · first | exact qm_go (by simp only [qm_act, qa_load, hv]) | exact qm_ev_no (by simp only [qm_act, qa_load, hv])
  · first | exact qm_go (by simp only [qm_act, qa_load, hv]) | exact qm_ev_no (by simp only [qm_act, qa_load, hv])
  · exact qm_ev_no (by simp only [qm_act, qa_load, hv])
theorem x_aload (d m : Nat) (c : List qm_Ins) (ls st : List qm_AV) (s : qm_Hp) (k : Nat) : qm_ev d m ((4, [k], 0) :: c) ls st s = qm_ldP (qm_lg ls k) (fun q i => qm_ev d m c ls (qP q i :: st) s) := by
  generalize hv : qm_lg ls k = v
  rcases v with x | x | ⟨q, i⟩
  · exact qm_ev_no (by simp only [qm_act, qa_load, hv])
  · exact qm_ev_no (by simp only [qm_act, qa_load, hv])
  · rw [qm_ldP_e]
    by_cases hq : q = 99 ∨ q = 0
    · rw [if_pos hq]; exact qm_ev_no (by simp only [qm_act, qa_load, hv, if_pos hq])
    · rw [if_neg hq]; exact qm_go (by simp only [qm_act, qa_load, hv, if_neg hq])
theorem x_istore (d m : Nat) (c : List qm_Ins) (ls st : List qm_AV) (s : qm_Hp) (k : Nat) (x : Int32) (h : k < ls.length) : qm_ev d m ((5, [k], 0) :: c) ls (qI x :: st) s = qm_ev d m c (qm_s1 ls k (qI x)) st s := qm_go (by simp only [qm_act, qa_store, if_pos h])
theorem x_lstore (d m : Nat) (c : List qm_Ins) (ls st : List qm_AV) (s : qm_Hp) (k : Nat) (x : Int64) (h : k + 1 < ls.length) : qm_ev d m ((6, [k], 0) :: c) ls (qL x :: st) s = qm_ev d m c (qm_s2 ls k (qL x)) st s := qm_go (by simp only [qm_act, qa_store, if_pos h])
theorem x_astore (d m : Nat) (c : List qm_Ins) (ls st : List qm_AV) (s : qm_Hp) (k q i : Nat) (hq : ¬ q = 0) (h : k < ls.length) : qm_ev d m ((7, [k], 0) :: c) ls (qP q i :: st) s = qm_ev d m c (qm_s1 ls k (qP q i)) st s := qm_go (by simp only [qm_act, qa_store, if_pos h, if_neg hq])
theorem x_iinc (d m : Nat) (c : List qm_Ins) (ls st : List qm_AV) (s : qm_Hp) (k : Nat) (v : Int) (hk : k < ls.length) : qm_ev d m ((8, [k], v) :: c) ls st s = qm_ldI (qm_lg ls k) (fun x => qm_ev d m c (qm_s1 ls k (qI (x + Int32.ofInt v))) st s) := by
  generalize hv : qm_lg ls k = w
  rcases w with x | x | ⟨q, i⟩
  · exact qm_go (by simp only [qm_act, qa_iinc, hv, if_pos hk])
  · exact qm_ev_no (by simp only [qm_act, qa_iinc, hv])
  · exact qm_ev_no (by simp only [qm_act, qa_iinc, hv])
theorem x_iadd (d m : Nat) (c : List qm_Ins) (ls st : List qm_AV) (s : qm_Hp) (x y : Int32) : qm_ev d m ((10, [], 0) :: c) ls (qI y :: qI x :: st) s = qm_ev d m c (ls) (qI (x + y) :: st) s := qm_go rfl
theorem x_isub (d m : Nat) (c : List qm_Ins) (ls st : List qm_AV) (s : qm_Hp) (x y : Int32) : qm_ev d m ((11, [], 0) :: c) ls (qI y :: qI x :: st) s = qm_ev d m c (ls) (qI (x - y) :: st) s := qm_go rfl
theorem x_imul (d m : Nat) (c : List qm_Ins) (ls st : List qm_AV) (s : qm_Hp) (x y : Int32) : qm_ev d m ((12, [], 0) :: c) ls (qI y :: qI x :: st) s = qm_ev d m c (ls) (qI (x * y) :: st) s := qm_go rfl
theorem x_iand (d m : Nat) (c : List qm_Ins) (ls st : List qm_AV) (s : qm_Hp) (x y : Int32) : qm_ev d m ((16, [], 0) :: c) ls (qI y :: qI x :: st) s = qm_ev d m c (ls) (qI (x &&& y) :: st) s := qm_go rfl
theorem x_ior (d m : Nat) (c : List qm_Ins) (ls st : List qm_AV) (s : qm_Hp) (x y : Int32) : qm_ev d m ((17, [], 0) :: c) ls (qI y :: qI x :: st) s = qm_ev d m c (ls) (qI (x ||| y) :: st) s := qm_go rfl
theorem x_ishl (d m : Nat) (c : List qm_Ins) (ls st : List qm_AV) (s : qm_Hp) (x y : Int32) : qm_ev d m ((18, [], 0) :: c) ls (qI y :: qI x :: st) s = qm_ev d m c (ls) (qI (x <<< (y &&& 31)) :: st) s := qm_go rfl
theorem x_ishr (d m : Nat) (c : List qm_Ins) (ls st : List qm_AV) (s : qm_Hp) (x y : Int32) : qm_ev d m ((19, [], 0) :: c) ls (qI y :: qI x :: st) s = qm_ev d m c (ls) (qI (x >>> (y &&& 31)) :: st) s := qm_go rfl
theorem x_iushr (d m : Nat) (c : List qm_Ins) (ls st : List qm_AV) (s : qm_Hp) (x y : Int32) : qm_ev d m ((20, [], 0) :: c) ls (qI y :: qI x :: st) s = qm_ev d m c (ls) (qI ((x.toUInt32 >>> (y.toUInt32 &&& Int32.toUInt32 31)).toInt32) :: st) s := qm_go rfl
theorem x_idiv (d m : Nat) (c : List qm_Ins) (ls st : List qm_AV) (s : qm_Hp) (x y : Int32) (h : ¬ y = 0) : qm_ev d m ((13, [], 0) :: c) ls (qI y :: qI x :: st) s = qm_ev d m c (ls) (qI (x / y) :: st) s := qm_go (by simp only [qm_act, qa_div, if_neg h])
theorem x_irem (d m : Nat) (c : List qm_Ins) (ls st : List qm_AV) (s : qm_Hp) (x y : Int32) (h : ¬ y = 0) : qm_ev d m ((14, [], 0) :: c) ls (qI y :: qI x :: st) s = qm_ev d m c (ls) (qI (x - x / y * y) :: st) s := qm_go (by simp only [qm_act, qa_div, if_neg h])
theorem x_ineg (d m : Nat) (c : List qm_Ins) (ls st : List qm_AV) (s : qm_Hp) (x : Int32) : qm_ev d m ((15, [], 0) :: c) ls (qI x :: st) s = qm_ev d m c (ls) (qI (-x) :: st) s := qm_go rfl
theorem x_ladd (d m : Nat) (c : List qm_Ins) (ls st : List qm_AV) (s : qm_Hp) (x y : Int64) : qm_ev d m ((21, [], 0) :: c) ls (qL y :: qL x :: st) s = qm_ev d m c (ls) (qL (x + y) :: st) s := qm_go rfl
theorem x_lsub (d m : Nat) (c : List qm_Ins) (ls st : List qm_AV) (s : qm_Hp) (x y : Int64) : qm_ev d m ((22, [], 0) :: c) ls (qL y :: qL x :: st) s = qm_ev d m c (ls) (qL (x - y) :: st) s := qm_go rfl
theorem x_lmul (d m : Nat) (c : List qm_Ins) (ls st : List qm_AV) (s : qm_Hp) (x y : Int64) : qm_ev d m ((23, [], 0) :: c) ls (qL y :: qL x :: st) s = qm_ev d m c (ls) (qL (x * y) :: st) s := qm_go rfl
theorem x_land (d m : Nat) (c : List qm_Ins) (ls st : List qm_AV) (s : qm_Hp) (x y : Int64) : qm_ev d m ((26, [], 0) :: c) ls (qL y :: qL x :: st) s = qm_ev d m c (ls) (qL (x &&& y) :: st) s := qm_go rfl
theorem x_lor (d m : Nat) (c : List qm_Ins) (ls st : List qm_AV) (s : qm_Hp) (x y : Int64) : qm_ev d m ((27, [], 0) :: c) ls (qL y :: qL x :: st) s = qm_ev d m c (ls) (qL (x ||| y) :: st) s := qm_go rfl
theorem x_ldiv (d m : Nat) (c : List qm_Ins) (ls st : List qm_AV) (s : qm_Hp) (x y : Int64) (h : ¬ y = 0) : qm_ev d m ((24, [], 0) :: c) ls (qL y :: qL x :: st) s = qm_ev d m c (ls) (qL (x / y) :: st) s := qm_go (by simp only [qm_act, qa_ldiv, if_neg h])
theorem x_lneg (d m : Nat) (c : List qm_Ins) (ls st : List qm_AV) (s : qm_Hp) (x : Int64) : qm_ev d m ((25, [], 0) :: c) ls (qL x :: st) s = qm_ev d m c (ls) (qL (-x) :: st) s := qm_go rfl
theorem x_lshl (d m : Nat) (c : List qm_Ins) (ls st : List qm_AV) (s : qm_Hp) (x : Int64) (y : Int32) : qm_ev d m ((28, [], 0) :: c) ls (qI y :: qL x :: st) s = qm_ev d m c (ls) (qL (x <<< (y.toInt64 &&& 63)) :: st) s := qm_go rfl
theorem x_lcmp (d m : Nat) (c : List qm_Ins) (ls st : List qm_AV) (s : qm_Hp) (x y : Int64) : qm_ev d m ((29, [], 0) :: c) ls (qL y :: qL x :: st) s = qm_ev d m c (ls) (qI (lg_cmp x y) :: st) s := qm_go rfl
theorem x_i2l (d m : Nat) (c : List qm_Ins) (ls st : List qm_AV) (s : qm_Hp) (x : Int32) : qm_ev d m ((30, [], 0) :: c) ls (qI x :: st) s = qm_ev d m c (ls) (qL x.toInt64 :: st) s := qm_go rfl
theorem x_l2i (d m : Nat) (c : List qm_Ins) (ls st : List qm_AV) (s : qm_Hp) (x : Int64) : qm_ev d m ((31, [], 0) :: c) ls (qL x :: st) s = qm_ev d m c (ls) (qI x.toInt32 :: st) s := qm_go rfl
theorem x_dupI (d m : Nat) (c : List qm_Ins) (ls st : List qm_AV) (s : qm_Hp) (x : Int32) : qm_ev d m ((32, [], 0) :: c) ls (qI x :: st) s = qm_ev d m c (ls) (qI x :: qI x :: st) s := qm_go rfl
theorem x_dupP (d m : Nat) (c : List qm_Ins) (ls st : List qm_AV) (s : qm_Hp) (x y : Nat) : qm_ev d m ((32, [], 0) :: c) ls (qP x y :: st) s = qm_ev d m c (ls) (qP x y :: qP x y :: st) s := qm_go rfl
theorem x_dup2 (d m : Nat) (c : List qm_Ins) (ls st : List qm_AV) (s : qm_Hp) (x : Int32) (q i : Nat) : qm_ev d m ((33, [], 0) :: c) ls (qI x :: qP q i :: st) s = qm_ev d m c (ls) (qI x :: qP q i :: qI x :: qP q i :: st) s := qm_go (by simp [qm_act, qa_dup2, qm_isL])
theorem x_popI (d m : Nat) (c : List qm_Ins) (ls st : List qm_AV) (s : qm_Hp) (x : Int32) : qm_ev d m ((34, [], 0) :: c) ls (qI x :: st) s = qm_ev d m c (ls) (st) s := qm_go rfl
theorem x_getI (d m : Nat) (c : List qm_Ins) (ls st : List qm_AV) (s : qm_Hp) (k f i : Nat) : qm_ev d m ((40, [k, f], 0) :: c) ls (qP k i :: st) s = qm_ev d m c (ls) (qI (zI s k i f) :: st) s := qm_go (by simp [qm_act, qa_getI])
theorem x_getL (d m : Nat) (c : List qm_Ins) (ls st : List qm_AV) (s : qm_Hp) (k f i : Nat) : qm_ev d m ((41, [k, f], 0) :: c) ls (qP k i :: st) s = qm_ev d m c (ls) (qL (zL s k i f) :: st) s := qm_go (by simp [qm_act, qa_getL])
theorem x_getP0 (d m : Nat) (c : List qm_Ins) (ls st : List qm_AV) (s : qm_Hp) (k f t ad i : Nat) : qm_ev d m ((42, [k, f, t, 0, ad], 0) :: c) ls (qP k i :: st) s = qm_ev d m c (ls) (qP t ad :: st) s := qm_go (by simp [qm_act, qa_getP])
theorem x_getP1 (d m : Nat) (c : List qm_Ins) (ls st : List qm_AV) (s : qm_Hp) (k f t i : Nat) : qm_ev d m ((42, [k, f, t, 1, 0], 0) :: c) ls (qP k i :: st) s = qm_ev d m c (ls) (qP t i :: st) s := qm_go (by simp [qm_act, qa_getP])
theorem x_getM (d m : Nat) (c : List qm_Ins) (ls st : List qm_AV) (s : qm_Hp) (k f i : Nat) : qm_ev d m ((43, [k, f], 0) :: c) ls (qP k i :: st) s = qm_ev d m c (ls) (qP (zP s k i f).1 (zP s k i f).2 :: st) s := qm_go (by simp [qm_act, qa_getM])
theorem x_putI (d m : Nat) (c : List qm_Ins) (ls st : List qm_AV) (s : qm_Hp) (k f i : Nat) (v : Int32) : qm_ev d m ((44, [k, f], 0) :: c) ls (qI v :: qP k i :: st) s = qm_ev d m c (ls) (st) (uI s k i f v) := qm_go (by simp [qm_act, qa_putI])
theorem x_putL (d m : Nat) (c : List qm_Ins) (ls st : List qm_AV) (s : qm_Hp) (k f i : Nat) (v : Int64) : qm_ev d m ((45, [k, f], 0) :: c) ls (qL v :: qP k i :: st) s = qm_ev d m c (ls) (st) (uL s k i f v) := qm_go (by simp [qm_act, qa_putL])
theorem x_putM (d m : Nat) (c : List qm_Ins) (ls st : List qm_AV) (s : qm_Hp) (k f t i j : Nat) : qm_ev d m ((46, [k, f, t], 0) :: c) ls (qP t j :: qP k i :: st) s = qm_ev d m c (ls) (st) (uP s k i f (t, j)) := qm_go (by simp [qm_act, qa_putM])
theorem x_putZ (d m : Nat) (c : List qm_Ins) (ls st : List qm_AV) (s : qm_Hp) (k f i : Nat) (v : Int32) (h : v = 0 ∨ v = 1) : qm_ev d m ((47, [k, f], 0) :: c) ls (qI v :: qP k i :: st) s = qm_ev d m c (ls) (st) (uI s k i f v) := qm_go (by simp [qm_act, qa_putZ, h])
theorem x_iald (d m : Nat) (c : List qm_Ins) (ls st : List qm_AV) (s : qm_Hp) (k i : Nat) (j : Int32) (h : vp_in j (qm_ilen s k)) : qm_ev d m ((50, [], 0) :: c) ls (qI j :: qP k i :: st) s = qm_ev d m c (ls) (qI (zI s k i j.toNatClampNeg) :: st) s := qm_go (by simp only [qm_act, qa_iald]; rw [if_neg h])
theorem x_iast (d m : Nat) (c : List qm_Ins) (ls st : List qm_AV) (s : qm_Hp) (k i : Nat) (j v : Int32) (h : vp_in j (qm_ilen s k)) (hk : ¬ k = 80) : qm_ev d m ((51, [], 0) :: c) ls (qI v :: qI j :: qP k i :: st) s = qm_ev d m c (ls) (st) (uI s k i j.toNatClampNeg v) := qm_go (by simp only [qm_act, qa_iast]; rw [if_neg (fun q => q.elim h hk)])
theorem x_lald (d m : Nat) (c : List qm_Ins) (ls st : List qm_AV) (s : qm_Hp) (k i : Nat) (j : Int32) (h : vp_in j (qm_llen k)) : qm_ev d m ((52, [], 0) :: c) ls (qI j :: qP k i :: st) s = qm_ev d m c (ls) (qL (zL s k i j.toNatClampNeg) :: st) s := qm_go (by simp only [qm_act, qa_lald]; rw [if_neg h])
theorem x_last (d m : Nat) (c : List qm_Ins) (ls st : List qm_AV) (s : qm_Hp) (k i : Nat) (j : Int32) (v : Int64) (h : vp_in j (qm_llen k)) : qm_ev d m ((53, [], 0) :: c) ls (qL v :: qI j :: qP k i :: st) s = qm_ev d m c (ls) (st) (uL s k i j.toNatClampNeg v) := qm_go (by simp only [qm_act, qa_last]; rw [if_neg h])
theorem x_bald (d m : Nat) (c : List qm_Ins) (ls st : List qm_AV) (s : qm_Hp) (k i : Nat) (j : Int32) (h : vp_in j (qm_blen k)) : qm_ev d m ((54, [], 0) :: c) ls (qI j :: qP k i :: st) s = qm_ev d m c (ls) (qI (zI s k i j.toNatClampNeg) :: st) s := qm_go (by simp only [qm_act, qa_bald]; rw [if_neg h])
theorem x_bast (d m : Nat) (c : List qm_Ins) (ls st : List qm_AV) (s : qm_Hp) (k i : Nat) (j v : Int32) (h : vp_in j (qm_blen k)) (hv : v = 0 ∨ v = 1) : qm_ev d m ((55, [], 0) :: c) ls (qI v :: qI j :: qP k i :: st) s = qm_ev d m c (ls) (st) (uI s k i j.toNatClampNeg v) := qm_go (by simp only [qm_act, qa_bast]; rw [if_neg (fun q => q.elim h (fun g => g hv))])
theorem x_aald (d m : Nat) (c : List qm_Ins) (ls st : List qm_AV) (s : qm_Hp) (k i : Nat) (j : Int32) (h : vp_in j (qm_rlen k)) : qm_ev d m ((56, [], 0) :: c) ls (qI j :: qP k i :: st) s = qm_ev d m c (ls) (qP (qm_rel k).1 ((qm_rel k).2 + j.toNatClampNeg) :: st) s := qm_go (by simp only [qm_act, qa_aald]; rw [if_neg h])
theorem x_alen (d m : Nat) (c : List qm_Ins) (ls st : List qm_AV) (s : qm_Hp) (k i : Nat) (h : k = 35 ∨ k = 42 ∨ k = 54 ∨ k = 55 ∨ k = 80) : qm_ev d m ((57, [], 0) :: c) ls (qP k i :: st) s = qm_ev d m c (ls) (qI (Int32.ofNat (qm_ilen s k)) :: st) s := qm_go (by simp only [qm_act, qa_alen]; rw [if_pos h])
theorem x_ldstr (d m : Nat) (c : List qm_Ins) (ls st : List qm_AV) (s : qm_Hp)  : qm_ev d m ((58, [], 0) :: c) ls (st) s = qm_ev d m c (ls) (qP 81 0 :: st) s := qm_go rfl
theorem x_iceq (d m : Nat) (c : List qm_Ins) (ls st : List qm_AV) (s : qm_Hp) (b : Nat) (x y : Int32) : qm_ev d m ((60, [0, b], 0) :: c) ls (qI y :: qI x :: st) s = if x = y then qm_evB d m b ls st s else qm_ev d m c ls st s := by
  by_cases h : x = y
  · rw [if_pos h]; exact qm_jump (by simp only [qm_act, qa_icmp, qm_cond, decide_eq_true h, if_pos])
  · rw [if_neg h]; exact qm_go (by simp only [qm_act, qa_icmp, qm_cond, decide_eq_false h]; rfl)
theorem x_ifeq (d m : Nat) (c : List qm_Ins) (ls st : List qm_AV) (s : qm_Hp) (b : Nat) (x : Int32) : qm_ev d m ((61, [0, b], 0) :: c) ls (qI x :: st) s = if x = 0 then qm_evB d m b ls st s else qm_ev d m c ls st s := by
  by_cases h : x = 0
  · rw [if_pos h]; exact qm_jump (by simp only [qm_act, qa_if, qm_cond, decide_eq_true h, if_pos])
  · rw [if_neg h]; exact qm_go (by simp only [qm_act, qa_if, qm_cond, decide_eq_false h]; rfl)
theorem x_icne (d m : Nat) (c : List qm_Ins) (ls st : List qm_AV) (s : qm_Hp) (b : Nat) (x y : Int32) : qm_ev d m ((60, [1, b], 0) :: c) ls (qI y :: qI x :: st) s = if ¬ x = y then qm_evB d m b ls st s else qm_ev d m c ls st s := by
  by_cases h : ¬ x = y
  · rw [if_pos h]; exact qm_jump (by simp only [qm_act, qa_icmp, qm_cond, decide_eq_true h, if_pos])
  · rw [if_neg h]; exact qm_go (by simp only [qm_act, qa_icmp, qm_cond, decide_eq_false h]; rfl)
theorem x_ifne (d m : Nat) (c : List qm_Ins) (ls st : List qm_AV) (s : qm_Hp) (b : Nat) (x : Int32) : qm_ev d m ((61, [1, b], 0) :: c) ls (qI x :: st) s = if ¬ x = 0 then qm_evB d m b ls st s else qm_ev d m c ls st s := by
  by_cases h : ¬ x = 0
  · rw [if_pos h]; exact qm_jump (by simp only [qm_act, qa_if, qm_cond, decide_eq_true h, if_pos])
  · rw [if_neg h]; exact qm_go (by simp only [qm_act, qa_if, qm_cond, decide_eq_false h]; rfl)
theorem x_iclt (d m : Nat) (c : List qm_Ins) (ls st : List qm_AV) (s : qm_Hp) (b : Nat) (x y : Int32) : qm_ev d m ((60, [2, b], 0) :: c) ls (qI y :: qI x :: st) s = if x < y then qm_evB d m b ls st s else qm_ev d m c ls st s := by
  by_cases h : x < y
  · rw [if_pos h]; exact qm_jump (by simp only [qm_act, qa_icmp, qm_cond, decide_eq_true h, if_pos])
  · rw [if_neg h]; exact qm_go (by simp only [qm_act, qa_icmp, qm_cond, decide_eq_false h]; rfl)
theorem x_iflt (d m : Nat) (c : List qm_Ins) (ls st : List qm_AV) (s : qm_Hp) (b : Nat) (x : Int32) : qm_ev d m ((61, [2, b], 0) :: c) ls (qI x :: st) s = if x < 0 then qm_evB d m b ls st s else qm_ev d m c ls st s := by
  by_cases h : x < 0
  · rw [if_pos h]; exact qm_jump (by simp only [qm_act, qa_if, qm_cond, decide_eq_true h, if_pos])
  · rw [if_neg h]; exact qm_go (by simp only [qm_act, qa_if, qm_cond, decide_eq_false h]; rfl)
theorem x_icge (d m : Nat) (c : List qm_Ins) (ls st : List qm_AV) (s : qm_Hp) (b : Nat) (x y : Int32) : qm_ev d m ((60, [3, b], 0) :: c) ls (qI y :: qI x :: st) s = if y ≤ x then qm_evB d m b ls st s else qm_ev d m c ls st s := by
  by_cases h : y ≤ x
  · rw [if_pos h]; exact qm_jump (by simp only [qm_act, qa_icmp, qm_cond, decide_eq_true h, if_pos])
  · rw [if_neg h]; exact qm_go (by simp only [qm_act, qa_icmp, qm_cond, decide_eq_false h]; rfl)
theorem x_ifge (d m : Nat) (c : List qm_Ins) (ls st : List qm_AV) (s : qm_Hp) (b : Nat) (x : Int32) : qm_ev d m ((61, [3, b], 0) :: c) ls (qI x :: st) s = if 0 ≤ x then qm_evB d m b ls st s else qm_ev d m c ls st s := by
  by_cases h : 0 ≤ x
  · rw [if_pos h]; exact qm_jump (by simp only [qm_act, qa_if, qm_cond, decide_eq_true h, if_pos])
  · rw [if_neg h]; exact qm_go (by simp only [qm_act, qa_if, qm_cond, decide_eq_false h]; rfl)
theorem x_icgt (d m : Nat) (c : List qm_Ins) (ls st : List qm_AV) (s : qm_Hp) (b : Nat) (x y : Int32) : qm_ev d m ((60, [4, b], 0) :: c) ls (qI y :: qI x :: st) s = if y < x then qm_evB d m b ls st s else qm_ev d m c ls st s := by
  by_cases h : y < x
  · rw [if_pos h]; exact qm_jump (by simp only [qm_act, qa_icmp, qm_cond, decide_eq_true h, if_pos])
  · rw [if_neg h]; exact qm_go (by simp only [qm_act, qa_icmp, qm_cond, decide_eq_false h]; rfl)
theorem x_ifgt (d m : Nat) (c : List qm_Ins) (ls st : List qm_AV) (s : qm_Hp) (b : Nat) (x : Int32) : qm_ev d m ((61, [4, b], 0) :: c) ls (qI x :: st) s = if 0 < x then qm_evB d m b ls st s else qm_ev d m c ls st s := by
  by_cases h : 0 < x
  · rw [if_pos h]; exact qm_jump (by simp only [qm_act, qa_if, qm_cond, decide_eq_true h, if_pos])
  · rw [if_neg h]; exact qm_go (by simp only [qm_act, qa_if, qm_cond, decide_eq_false h]; rfl)
theorem x_icle (d m : Nat) (c : List qm_Ins) (ls st : List qm_AV) (s : qm_Hp) (b : Nat) (x y : Int32) : qm_ev d m ((60, [5, b], 0) :: c) ls (qI y :: qI x :: st) s = if x ≤ y then qm_evB d m b ls st s else qm_ev d m c ls st s := by
  by_cases h : x ≤ y
  · rw [if_pos h]; exact qm_jump (by simp only [qm_act, qa_icmp, qm_cond, decide_eq_true h, if_pos])
  · rw [if_neg h]; exact qm_go (by simp only [qm_act, qa_icmp, qm_cond, decide_eq_false h]; rfl)
theorem x_ifle (d m : Nat) (c : List qm_Ins) (ls st : List qm_AV) (s : qm_Hp) (b : Nat) (x : Int32) : qm_ev d m ((61, [5, b], 0) :: c) ls (qI x :: st) s = if x ≤ 0 then qm_evB d m b ls st s else qm_ev d m c ls st s := by
  by_cases h : x ≤ 0
  · rw [if_pos h]; exact qm_jump (by simp only [qm_act, qa_if, qm_cond, decide_eq_true h, if_pos])
  · rw [if_neg h]; exact qm_go (by simp only [qm_act, qa_if, qm_cond, decide_eq_false h]; rfl)
theorem x_null (d m : Nat) (c : List qm_Ins) (ls st : List qm_AV) (s : qm_Hp) (b q i : Nat) (h : ¬ q = 0) : qm_ev d m ((62, [b], 0) :: c) ls (qP q i :: st) s = qm_ev d m c ls st s := qm_go (by simp only [qm_act, qa_null, if_neg h])
theorem x_goto (d m : Nat) (c : List qm_Ins) (ls st : List qm_AV) (s : qm_Hp) (b : Nat) : qm_ev d m ((63, [b], 0) :: c) ls (st) s = qm_evB d m b ls st s := qm_jump rfl
theorem x_fall (d m : Nat) (c : List qm_Ins) (ls st : List qm_AV) (s : qm_Hp) (b : Nat) : qm_ev d m ((64, [b], 0) :: c) ls (st) s = qm_evB d m b ls st s := qm_jump rfl
theorem x_tsw (d m : Nat) (c : List qm_Ins) (ls st : List qm_AV) (s : qm_Hp) (df : Nat) (bs : List Nat) (lo : Int) (x : Int32) : qm_ev d m ((65, df :: bs, lo) :: c) ls (qI x :: st) s = qm_evB d m (qm_sw bs lo x df) ls st s := qm_jump rfl
theorem x_lsw (d m : Nat) (c : List qm_Ins) (ls st : List qm_AV) (s : qm_Hp) (df : Nat) (bs : List Nat) (x : Int32) : qm_ev d m ((66, df :: bs, 0) :: c) ls (qI x :: st) s = qm_evB d m (qm_lk bs x df) ls st s := qm_jump rfl
theorem x_iret (d m : Nat) (c : List qm_Ins) (ls : List qm_AV) (s : qm_Hp) (x : Int32) : qm_ev d m ((70, [], 0) :: c) ls [qI x] s = some (some (qI x), s) := qm_ret rfl
theorem x_lret (d m : Nat) (c : List qm_Ins) (ls : List qm_AV) (s : qm_Hp) (x : Int64) : qm_ev d m ((71, [], 0) :: c) ls [qL x] s = some (some (qL x), s) := qm_ret rfl
theorem x_vret (d m : Nat) (c : List qm_Ins) (ls : List qm_AV) (s : qm_Hp) : qm_ev d m ((72, [], 0) :: c) ls [] s = some (none, s) := qm_ret rfl
theorem x_zret (d m : Nat) (c : List qm_Ins) (ls : List qm_AV) (s : qm_Hp) (x : Int32) : qm_ev d m ((73, [], 0) :: c) ls [qI x] s = if x = 0 ∨ x = 1 then some (some (qI x), s) else none := by
  by_cases h : x = 0 ∨ x = 1
  · rw [if_pos h]; exact qm_ret (by simp only [qm_act, qa_ret, if_pos h])
  · rw [if_neg h]; exact qm_ev_no (by simp only [qm_act, qa_ret, if_neg h])
theorem x_calls0 (d m : Nat) (c : List qm_Ins) (ls st : List qm_AV) (s : qm_Hp) (f : Nat) (h : qm_wid st ≤ 8) : qm_ev (d + 1) m ((80, [f, 0, 0], 0) :: c) ls (st) s = (qm_evM d f [] s).bind (fun r => qm_ev (d + 1) m c ls (qm_push r.1 st) r.2) := qm_call (by simp [qm_act, qa_call, h])
theorem x_calls1 (d m : Nat) (c : List qm_Ins) (ls st : List qm_AV) (s : qm_Hp) (f : Nat) (a0 : qm_AV) (h : qm_wid st ≤ 8) : qm_ev (d + 1) m ((80, [f, 1, 0], 0) :: c) ls (a0 :: st) s = (qm_evM d f [a0] s).bind (fun r => qm_ev (d + 1) m c ls (qm_push r.1 st) r.2) := qm_call (by simp [qm_act, qa_call, h])
theorem x_calls2 (d m : Nat) (c : List qm_Ins) (ls st : List qm_AV) (s : qm_Hp) (f : Nat) (a0 a1 : qm_AV) (h : qm_wid st ≤ 8) : qm_ev (d + 1) m ((80, [f, 2, 0], 0) :: c) ls (a1 :: a0 :: st) s = (qm_evM d f [a0, a1] s).bind (fun r => qm_ev (d + 1) m c ls (qm_push r.1 st) r.2) := qm_call (by simp [qm_act, qa_call, h])
theorem x_calls3 (d m : Nat) (c : List qm_Ins) (ls st : List qm_AV) (s : qm_Hp) (f : Nat) (a0 a1 a2 : qm_AV) (h : qm_wid st ≤ 8) : qm_ev (d + 1) m ((80, [f, 3, 0], 0) :: c) ls (a2 :: a1 :: a0 :: st) s = (qm_evM d f [a0, a1, a2] s).bind (fun r => qm_ev (d + 1) m c ls (qm_push r.1 st) r.2) := qm_call (by simp [qm_act, qa_call, h])
theorem x_calls4 (d m : Nat) (c : List qm_Ins) (ls st : List qm_AV) (s : qm_Hp) (f : Nat) (a0 a1 a2 a3 : qm_AV) (h : qm_wid st ≤ 8) : qm_ev (d + 1) m ((80, [f, 4, 0], 0) :: c) ls (a3 :: a2 :: a1 :: a0 :: st) s = (qm_evM d f [a0, a1, a2, a3] s).bind (fun r => qm_ev (d + 1) m c ls (qm_push r.1 st) r.2) := qm_call (by simp [qm_act, qa_call, h])
theorem x_calls5 (d m : Nat) (c : List qm_Ins) (ls st : List qm_AV) (s : qm_Hp) (f : Nat) (a0 a1 a2 a3 a4 : qm_AV) (h : qm_wid st ≤ 8) : qm_ev (d + 1) m ((80, [f, 5, 0], 0) :: c) ls (a4 :: a3 :: a2 :: a1 :: a0 :: st) s = (qm_evM d f [a0, a1, a2, a3, a4] s).bind (fun r => qm_ev (d + 1) m c ls (qm_push r.1 st) r.2) := qm_call (by simp [qm_act, qa_call, h])
theorem x_calls6 (d m : Nat) (c : List qm_Ins) (ls st : List qm_AV) (s : qm_Hp) (f : Nat) (a0 a1 a2 a3 a4 a5 : qm_AV) (h : qm_wid st ≤ 8) : qm_ev (d + 1) m ((80, [f, 6, 0], 0) :: c) ls (a5 :: a4 :: a3 :: a2 :: a1 :: a0 :: st) s = (qm_evM d f [a0, a1, a2, a3, a4, a5] s).bind (fun r => qm_ev (d + 1) m c ls (qm_push r.1 st) r.2) := qm_call (by simp [qm_act, qa_call, h])
theorem x_calls7 (d m : Nat) (c : List qm_Ins) (ls st : List qm_AV) (s : qm_Hp) (f : Nat) (a0 a1 a2 a3 a4 a5 a6 : qm_AV) (h : qm_wid st ≤ 8) : qm_ev (d + 1) m ((80, [f, 7, 0], 0) :: c) ls (a6 :: a5 :: a4 :: a3 :: a2 :: a1 :: a0 :: st) s = (qm_evM d f [a0, a1, a2, a3, a4, a5, a6] s).bind (fun r => qm_ev (d + 1) m c ls (qm_push r.1 st) r.2) := qm_call (by simp [qm_act, qa_call, h])
theorem x_callv1 (d m : Nat) (c : List qm_Ins) (ls st : List qm_AV) (s : qm_Hp) (f k i : Nat) (h : qm_wid st ≤ 8) : qm_ev (d + 1) m ((80, [f, 1, k], 0) :: c) ls (qP k i :: st) s = (qm_evM d f [qP k i] s).bind (fun r => qm_ev (d + 1) m c ls (qm_push r.1 st) r.2) := qm_call (by simp [qm_act, qa_call, h, qm_rk])
theorem x_callv2 (d m : Nat) (c : List qm_Ins) (ls st : List qm_AV) (s : qm_Hp) (f k i : Nat) (a1 : qm_AV) (h : qm_wid st ≤ 8) : qm_ev (d + 1) m ((80, [f, 2, k], 0) :: c) ls (a1 :: qP k i :: st) s = (qm_evM d f [qP k i, a1] s).bind (fun r => qm_ev (d + 1) m c ls (qm_push r.1 st) r.2) := qm_call (by simp [qm_act, qa_call, h, qm_rk])
theorem x_callv3 (d m : Nat) (c : List qm_Ins) (ls st : List qm_AV) (s : qm_Hp) (f k i : Nat) (a1 a2 : qm_AV) (h : qm_wid st ≤ 8) : qm_ev (d + 1) m ((80, [f, 3, k], 0) :: c) ls (a2 :: a1 :: qP k i :: st) s = (qm_evM d f [qP k i, a1, a2] s).bind (fun r => qm_ev (d + 1) m c ls (qm_push r.1 st) r.2) := qm_call (by simp [qm_act, qa_call, h, qm_rk])
theorem x_callv4 (d m : Nat) (c : List qm_Ins) (ls st : List qm_AV) (s : qm_Hp) (f k i : Nat) (a1 a2 a3 : qm_AV) (h : qm_wid st ≤ 8) : qm_ev (d + 1) m ((80, [f, 4, k], 0) :: c) ls (a3 :: a2 :: a1 :: qP k i :: st) s = (qm_evM d f [qP k i, a1, a2, a3] s).bind (fun r => qm_ev (d + 1) m c ls (qm_push r.1 st) r.2) := qm_call (by simp [qm_act, qa_call, h, qm_rk])
theorem x_callv5 (d m : Nat) (c : List qm_Ins) (ls st : List qm_AV) (s : qm_Hp) (f k i : Nat) (a1 a2 a3 a4 : qm_AV) (h : qm_wid st ≤ 8) : qm_ev (d + 1) m ((80, [f, 5, k], 0) :: c) ls (a4 :: a3 :: a2 :: a1 :: qP k i :: st) s = (qm_evM d f [qP k i, a1, a2, a3, a4] s).bind (fun r => qm_ev (d + 1) m c ls (qm_push r.1 st) r.2) := qm_call (by simp [qm_act, qa_call, h, qm_rk])
theorem x_callv6 (d m : Nat) (c : List qm_Ins) (ls st : List qm_AV) (s : qm_Hp) (f k i : Nat) (a1 a2 a3 a4 a5 : qm_AV) (h : qm_wid st ≤ 8) : qm_ev (d + 1) m ((80, [f, 6, k], 0) :: c) ls (a5 :: a4 :: a3 :: a2 :: a1 :: qP k i :: st) s = (qm_evM d f [qP k i, a1, a2, a3, a4, a5] s).bind (fun r => qm_ev (d + 1) m c ls (qm_push r.1 st) r.2) := qm_call (by simp [qm_act, qa_call, h, qm_rk])
theorem x_callv7 (d m : Nat) (c : List qm_Ins) (ls st : List qm_AV) (s : qm_Hp) (f k i : Nat) (a1 a2 a3 a4 a5 a6 : qm_AV) (h : qm_wid st ≤ 8) : qm_ev (d + 1) m ((80, [f, 7, k], 0) :: c) ls (a6 :: a5 :: a4 :: a3 :: a2 :: a1 :: qP k i :: st) s = (qm_evM d f [qP k i, a1, a2, a3, a4, a5, a6] s).bind (fun r => qm_ev (d + 1) m c ls (qm_push r.1 st) r.2) := qm_call (by simp [qm_act, qa_call, h, qm_rk])
theorem x_maxi (d m : Nat) (c : List qm_Ins) (ls st : List qm_AV) (s : qm_Hp) (x y : Int32) (h : qm_wid st ≤ 8) : qm_ev d m ((81, [], 0) :: c) ls (qI y :: qI x :: st) s = qm_ev d m c (ls) (qI (if x < y then y else x) :: st) s := qm_go (by simp only [qm_act, qa_m2, if_pos h])
theorem x_mini (d m : Nat) (c : List qm_Ins) (ls st : List qm_AV) (s : qm_Hp) (x y : Int32) (h : qm_wid st ≤ 8) : qm_ev d m ((82, [], 0) :: c) ls (qI y :: qI x :: st) s = qm_ev d m c (ls) (qI (if y < x then y else x) :: st) s := qm_go (by simp only [qm_act, qa_m2, if_pos h])
theorem x_absi (d m : Nat) (c : List qm_Ins) (ls st : List qm_AV) (s : qm_Hp) (x : Int32) (h : qm_wid st ≤ 8) : qm_ev d m ((83, [], 0) :: c) ls (qI x :: st) s = qm_ev d m c (ls) (qI (if 0 ≤ x then x else 0 - x) :: st) s := qm_go (by simp only [qm_act, qa_abs, if_pos h])
theorem x_maxl (d m : Nat) (c : List qm_Ins) (ls st : List qm_AV) (s : qm_Hp) (x y : Int64) (h : qm_wid st ≤ 8) : qm_ev d m ((84, [], 0) :: c) ls (qL y :: qL x :: st) s = qm_ev d m c (ls) (qL (if y < x then x else y) :: st) s := qm_go (by simp only [qm_act, qa_lm2, if_pos h])
theorem x_minl (d m : Nat) (c : List qm_Ins) (ls st : List qm_AV) (s : qm_Hp) (x y : Int64) (h : qm_wid st ≤ 8) : qm_ev d m ((85, [], 0) :: c) ls (qL y :: qL x :: st) s = qm_ev d m c (ls) (qL (if y < x then y else x) :: st) s := qm_go (by simp only [qm_act, qa_lm2, if_pos h])
theorem x_copy (d m : Nat) (c : List qm_Ins) (ls st : List qm_AV) (s : qm_Hp) (q i q2 i2 : Nat) (sp dp n : Int32) (h : ¬ ((sp < 0 ∨ dp < 0 ∨ n < 0) ∨ qm_ilen s q < sp.toNatClampNeg + n.toNatClampNeg ∨ qm_ilen s q2 < dp.toNatClampNeg + n.toNatClampNeg ∨ q = 80 ∨ q2 = 80 ∨ 8 < qm_wid st ∨ qm_ilen s q = 0 ∨ qm_ilen s q2 = 0)) : qm_ev d m ((86, [], 0) :: c) ls (qI n :: qI dp :: qP q2 i2 :: qI sp :: qP q i :: st) s = qm_ev d m c (ls) (st) (uC s q i sp.toNatClampNeg q2 i2 dp.toNatClampNeg n.toNatClampNeg) := qm_go (by simp only [qm_act, qa_copy]; rw [if_neg h])
theorem x_slen (d m : Nat) (c : List qm_Ins) (ls st : List qm_AV) (s : qm_Hp) (i : Nat) (h : qm_wid st ≤ 8) : qm_ev d m ((87, [], 0) :: c) ls (qP 81 i :: st) s = qm_ev d m c (ls) (qI (Int32.ofNat qm_str.length) :: st) s := qm_go (by simp [qm_act, qa_slen, h])
theorem x_char (d m : Nat) (c : List qm_Ins) (ls st : List qm_AV) (s : qm_Hp) (i : Nat) (j : Int32) (h : qm_wid st ≤ 8) (hj : vp_in j qm_str.length) : qm_ev d m ((88, [], 0) :: c) ls (qI j :: qP 81 i :: st) s = qm_ev d m c (ls) (qI (Int32.ofNat (qm_str.getD j.toNatClampNeg 0)) :: st) s := qm_go (by simp only [qm_act, qa_char]; rw [if_pos ⟨trivial, h, hj⟩])
end
section
/-! the step equations in one bundle for simp, and what it needs beside them -/
theorem qb_some (a : Option qm_AV × qm_Hp) (f : Option qm_AV × qm_Hp → Option (Option qm_AV × qm_Hp)) : (some a).bind f = f a := rfl
theorem qm_push_s (v : qm_AV) (st : List qm_AV) : qm_push (some v) st = v :: st := rfl
theorem qm_push_n (st : List qm_AV) : qm_push none st = st := rfl
theorem qm_lg_0 (v : qm_AV) (l : List qm_AV) : qm_lg (v :: l) 0 = v := rfl
theorem qm_lg_s (v : qm_AV) (l : List qm_AV) (n : Nat) : qm_lg (v :: l) (n + 1) = qm_lg l n := rfl
theorem qm_ls_0 (v x : qm_AV) (l : List qm_AV) : qm_ls (v :: l) 0 x = x :: l := rfl
theorem qm_ls_s (v x : qm_AV) (l : List qm_AV) (n : Nat) : qm_ls (v :: l) (n + 1) x = v :: qm_ls l n x := rfl
theorem qm_s1_0 (x : qm_AV) (l : List qm_AV) : qm_s1 l 0 x = qm_ls l 0 x := rfl
theorem qm_s1_s (x : qm_AV) (l : List qm_AV) (n : Nat) : qm_s1 l (n + 1) x = if qm_isL (qm_lg l n) = true then qm_ls (qm_ls l n qU) (n + 1) x else qm_ls l (n + 1) x := rfl
theorem qm_s2_e (x : qm_AV) (l : List qm_AV) (n : Nat) : qm_s2 l n x = qm_ls (qm_s1 l n x) (n + 1) qU := rfl
theorem qm_isL_I (x : Int32) : qm_isL (qI x) = false := rfl
theorem qm_isL_L (x : Int64) : qm_isL (qL x) = true := rfl
theorem qm_isL_P (k i : Nat) : qm_isL (qP k i) = false := rfl
theorem qm_wid_n : qm_wid [] = 0 := rfl
theorem qm_wid_I (x : Int32) (l : List qm_AV) : qm_wid (qI x :: l) = qm_wid l + 1 := by simp [qm_wid, qm_isL]; omega
theorem qm_wid_L (x : Int64) (l : List qm_AV) : qm_wid (qL x :: l) = qm_wid l + 2 := by simp [qm_wid, qm_isL]; omega
theorem qm_wid_P (k i : Nat) (l : List qm_AV) : qm_wid (qP k i :: l) = qm_wid l + 1 := by simp [qm_wid, qm_isL]; omega
def qx := And.intro x_icst <| And.intro x_lcst <| And.intro x_iload <| And.intro x_lload <| And.intro x_aload <| And.intro x_istore <| And.intro x_lstore <| And.intro x_astore <| And.intro x_iinc <| And.intro x_iadd <| And.intro x_isub <| And.intro x_imul <| And.intro x_iand <| And.intro x_ior <| And.intro x_ishl <| And.intro x_ishr <| And.intro x_iushr <| And.intro x_idiv <| And.intro x_irem <| And.intro x_ineg <| And.intro x_ladd <| And.intro x_lsub <| And.intro x_lmul <| And.intro x_land <| And.intro x_lor <| And.intro x_ldiv <| And.intro x_lneg <| And.intro x_lshl <| And.intro x_lcmp <| And.intro x_i2l <| And.intro x_l2i <| And.intro x_dupI <| And.intro x_dupP <| And.intro x_dup2 <| And.intro x_popI <| And.intro x_getI <| And.intro x_getL <| And.intro x_getP0 <| And.intro x_getP1 <| And.intro x_getM <| And.intro x_putI <| And.intro x_putL <| And.intro x_putM <| And.intro x_putZ <| And.intro x_iald <| And.intro x_iast <| And.intro x_lald <| And.intro x_last <| And.intro x_bald <| And.intro x_bast <| And.intro x_aald <| And.intro x_alen <| And.intro x_ldstr <| And.intro x_iceq <| And.intro x_ifeq <| And.intro x_icne <| And.intro x_ifne <| And.intro x_iclt <| And.intro x_iflt <| And.intro x_icge <| And.intro x_ifge <| And.intro x_icgt <| And.intro x_ifgt <| And.intro x_icle <| And.intro x_ifle <| And.intro x_null <| And.intro x_goto <| And.intro x_fall <| And.intro x_tsw <| And.intro x_lsw <| And.intro x_iret <| And.intro x_lret <| And.intro x_vret <| And.intro x_zret <| And.intro x_calls0 <| And.intro x_calls1 <| And.intro x_calls2 <| And.intro x_calls3 <| And.intro x_calls4 <| And.intro x_calls5 <| And.intro x_calls6 <| And.intro x_calls7 <| And.intro x_callv1 <| And.intro x_callv2 <| And.intro x_callv3 <| And.intro x_callv4 <| And.intro x_callv5 <| And.intro x_callv6 <| And.intro x_callv7 <| And.intro x_maxi <| And.intro x_mini <| And.intro x_absi <| And.intro x_maxl <| And.intro x_minl <| And.intro x_copy <| And.intro x_slen x_char
def qe := And.intro qm_ldI_e <| And.intro qm_ldL_e <| And.intro qm_ldP_e <| And.intro qb_some <| And.intro qm_push_s <| And.intro qm_push_n <| And.intro qm_lg_0 <| And.intro qm_lg_s <| And.intro qm_s1_0 <| And.intro qm_s1_s <| And.intro qm_s2_e <| And.intro qm_ls_0 <| And.intro qm_ls_s <| And.intro qm_isL_I <| And.intro qm_isL_L <| And.intro qm_isL_P <| And.intro qm_wid_n <| And.intro qm_wid_I <| And.intro qm_wid_L qm_wid_P
theorem il_11 (s : qm_Hp) : qm_ilen s 11 = 48 := rfl
theorem il_12 (s : qm_Hp) : qm_ilen s 12 = 48 := rfl
theorem il_13 (s : qm_Hp) : qm_ilen s 13 = 48 := rfl
theorem il_14 (s : qm_Hp) : qm_ilen s 14 = 48 := rfl
theorem il_15 (s : qm_Hp) : qm_ilen s 15 = 48 := rfl
theorem il_16 (s : qm_Hp) : qm_ilen s 16 = 48 := rfl
theorem il_17 (s : qm_Hp) : qm_ilen s 17 = 6 := rfl
theorem il_21 (s : qm_Hp) : qm_ilen s 21 = 12 := rfl
theorem il_22 (s : qm_Hp) : qm_ilen s 22 = 12 := rfl
theorem il_23 (s : qm_Hp) : qm_ilen s 23 = 12 := rfl
theorem il_24 (s : qm_Hp) : qm_ilen s 24 = 12 := rfl
theorem il_25 (s : qm_Hp) : qm_ilen s 25 = 40 := rfl
theorem il_26 (s : qm_Hp) : qm_ilen s 26 = 4 := rfl
theorem il_27 (s : qm_Hp) : qm_ilen s 27 = 4 := rfl
theorem il_28 (s : qm_Hp) : qm_ilen s 28 = 6 := rfl
theorem il_31 (s : qm_Hp) : qm_ilen s 31 = 300 := rfl
theorem il_32 (s : qm_Hp) : qm_ilen s 32 = 20 := rfl
theorem il_33 (s : qm_Hp) : qm_ilen s 33 = 20 := rfl
theorem il_34 (s : qm_Hp) : qm_ilen s 34 = 20 := rfl
theorem il_35 (s : qm_Hp) : qm_ilen s 35 = 5 := rfl
theorem il_41 (s : qm_Hp) : qm_ilen s 41 = 17 := rfl
theorem il_42 (s : qm_Hp) : qm_ilen s 42 = 40 := rfl
theorem il_43 (s : qm_Hp) : qm_ilen s 43 = 301 := rfl
theorem il_44 (s : qm_Hp) : qm_ilen s 44 = 301 := rfl
theorem il_45 (s : qm_Hp) : qm_ilen s 45 = 301 := rfl
theorem il_47 (s : qm_Hp) : qm_ilen s 47 = 5 := rfl
theorem il_48 (s : qm_Hp) : qm_ilen s 48 = 5 := rfl
theorem il_52 (s : qm_Hp) : qm_ilen s 52 = 300 := rfl
theorem il_53 (s : qm_Hp) : qm_ilen s 53 = 48 := rfl
theorem il_54 (s : qm_Hp) : qm_ilen s 54 = 8 := rfl
theorem il_55 (s : qm_Hp) : qm_ilen s 55 = 8 := rfl
theorem il_61 (s : qm_Hp) : qm_ilen s 61 = 3360 := rfl
theorem il_62 (s : qm_Hp) : qm_ilen s 62 = 2880 := rfl
theorem il_63 (s : qm_Hp) : qm_ilen s 63 = 300 := rfl
theorem il_64 (s : qm_Hp) : qm_ilen s 64 = 160 := rfl
theorem il_65 (s : qm_Hp) : qm_ilen s 65 = 17 := rfl
theorem il_68 (s : qm_Hp) : qm_ilen s 68 = 48 := rfl
theorem il_69 (s : qm_Hp) : qm_ilen s 69 = 5 := rfl
theorem il_70 (s : qm_Hp) : qm_ilen s 70 = 6 := rfl
theorem il_71 (s : qm_Hp) : qm_ilen s 71 = 5 := rfl
theorem il_72 (s : qm_Hp) : qm_ilen s 72 = 8 := rfl
theorem il_73 (s : qm_Hp) : qm_ilen s 73 = 8 := rfl
theorem il_74 (s : qm_Hp) : qm_ilen s 74 = 48 := rfl
theorem il_75 (s : qm_Hp) : qm_ilen s 75 = 48 := rfl
def qil := And.intro il_11 <| And.intro il_12 <| And.intro il_13 <| And.intro il_14 <| And.intro il_15 <| And.intro il_16 <| And.intro il_17 <| And.intro il_21 <| And.intro il_22 <| And.intro il_23 <| And.intro il_24 <| And.intro il_25 <| And.intro il_26 <| And.intro il_27 <| And.intro il_28 <| And.intro il_31 <| And.intro il_32 <| And.intro il_33 <| And.intro il_34 <| And.intro il_35 <| And.intro il_41 <| And.intro il_42 <| And.intro il_43 <| And.intro il_44 <| And.intro il_45 <| And.intro il_47 <| And.intro il_48 <| And.intro il_52 <| And.intro il_53 <| And.intro il_54 <| And.intro il_55 <| And.intro il_61 <| And.intro il_62 <| And.intro il_63 <| And.intro il_64 <| And.intro il_65 <| And.intro il_68 <| And.intro il_69 <| And.intro il_70 <| And.intro il_71 <| And.intro il_72 <| And.intro il_73 <| And.intro il_74 il_75
end
section
/-! printed by wip/whole/gen/static.py -/
def qm_cls (n : Nat) : String := match n with
  | 0 => RX0
  | 1 => RX1
  | 2 => RX2
  | 3 => RX3
  | 4 => RX4
  | 5 => RX5
  | 6 => RX6
  | 7 => RX7
  | 8 => RX8
  | _ => RL
def qm_inf : List (Nat × MethodName × ByteArray × Option FieldType) := [
  (7, yX7_init, cX7_init, none),
  (7, yX7_lay, cX7_lay, some .int),
  (7, yX7_bark, cX7_bark, some .boolean),
  (7, yX7_measure, cX7_measure, some .boolean),
  (7, yX7_span, cX7_span, some .boolean),
  (7, yX7_weather, cX7_weather, some .int),
  (7, yX7_plan, cX7_plan, some .boolean),
  (7, yX7_ends, cX7_ends, some .boolean),
  (7, yX7_feed, cX7_feed, some .int),
  (7, yX7_feedFour, cX7_feedFour, none),
  (7, yX7_end, cX7_end, some .int),
  (7, yX7_text, cX7_text, some .int),
  (7, yX7_fault, cX7_fault, some .int),
  (7, yX7_by, cX7_by, some .boolean),
  (7, yX7_obey, cX7_obey, none),
  (7, yX7_laid, cX7_laid, some .int),
  (7, yX7_layClause, cX7_layClause, some .boolean),
  (7, yX7_of, cX7_of, some .int),
  (7, yX7_stack, cX7_stack, some .int),
  (7, yX7_week, cX7_week, some .int),
  (7, yX7_take, cX7_take, some .int),
  (7, yX7_takeOne, cX7_takeOne, some .int),
  (7, yX7_order, cX7_order, some .int),
  (7, yX7_way, cX7_way, some .int),
  (7, yX7_tryWay, cX7_tryWay, none),
  (7, yX7_bestOf, cX7_bestOf, some .int),
  (7, yX7_bestInBoth, cX7_bestInBoth, some .int),
  (7, yX7_spans, cX7_spans, some .int),
  (7, yX7_sure, cX7_sure, some .int),
  (7, yX7_trySpans, cX7_trySpans, none),
  (7, yX7_lesser, cX7_lesser, some .int),
  (7, yX7_greater, cX7_greater, some .int),
  (7, yX7_nextToMeasure, cX7_nextToMeasure, some .int),
  (7, yX7_small, cX7_small, some .int),
  (7, yX7_winter, cX7_winter, some .int),
  (7, yX7_listHeats, cX7_listHeats, some .int),
  (7, yX7_pullGreatest, cX7_pullGreatest, some .int),
  (7, yX7_remember, cX7_remember, some .int),
  (7, yX7_missing, cX7_missing, some .int),
  (7, yX7_missingOf, cX7_missingOf, some .int),
  (7, yX7_falls, cX7_falls, some .int),
  (7, yX7_fallsBy, cX7_fallsBy, some .boolean),
  (7, yX7_image, cX7_image, some .int),
  (7, yX7_back, cX7_back, some .int),
  (7, yX7_about, cX7_about, some .int),
  (7, yX7_canTry, cX7_canTry, some .boolean),
  (7, yX7_canPass, cX7_canPass, some .boolean),
  (7, yX7_isWeather, cX7_isWeather, some .boolean),
  (7, yX7_isText, cX7_isText, some .boolean),
  (7, yX7_isKind, cX7_isKind, some .boolean),
  (7, yX7_isWater, cX7_isWater, some .boolean),
  (7, yX7_isSpan, cX7_isSpan, some .boolean),
  (7, yX7_isDry, cX7_isDry, some .boolean),
  (7, yX7_within, cX7_within, some .boolean),
  (7, yX7_placeOf, cX7_placeOf, some .int),
  (8, yX8_init, cX8_init, none),
  (8, yX8_copy, cX8_copy, none),
  (8, yX8_isIn, cX8_isIn, some .boolean),
  (8, yX8_held, cX8_held, some .int),
  (8, yX8_count, cX8_count, some .int),
  (8, yX8_at0, cX8_at0, some .int),
  (8, yX8_isColumn, cX8_isColumn, some .boolean),
  (8, yX8_isSplit, cX8_isSplit, some .boolean),
  (8, yX8_splits, cX8_splits, some .int),
  (8, yX8_lay, cX8_lay, some .int),
  (8, yX8_put, cX8_put, none),
  (8, yX8_bark, cX8_bark, some .boolean),
  (8, yX8_isSpan, cX8_isSpan, some .boolean),
  (8, yX8_measure, cX8_measure, some .boolean),
  (8, yX8_span, cX8_span, some .boolean),
  (8, yX8_weather, cX8_weather, some .int),
  (8, yX8_isWeather, cX8_isWeather, some .boolean),
  (8, yX8_plan, cX8_plan, some .boolean),
  (8, yX8_ends, cX8_ends, some .boolean),
  (8, yX8_four, cX8_four, none),
  (8, yX8_feed, cX8_feed, some .int),
  (8, yX8_end, cX8_end, some .int),
  (8, yX8_byteAt, cX8_byteAt, some .int),
  (8, yX8_isLetter, cX8_isLetter, some .boolean),
  (8, yX8_isDigit, cX8_isDigit, some .boolean),
  (8, yX8_nextToken, cX8_nextToken, none),
  (8, yX8_w3, cX8_w3, some .long),
  (8, yX8_w5, cX8_w5, some .long),
  (8, yX8_w4, cX8_w4, some .long),
  (8, yX8_w6, cX8_w6, some .long),
  (8, yX8_isWord, cX8_isWord, some .boolean),
  (8, yX8_emit, cX8_emit, none),
  (8, yX8_push, cX8_push, none),
  (8, yX8_rank, cX8_rank, some .int),
  (8, yX8_settle, cX8_settle, none),
  (8, yX8_whole, cX8_whole, none),
  (8, yX8_marker, cX8_marker, some .int),
  (8, yX8_isCompared, cX8_isCompared, some .boolean),
  (8, yX8_isAskAhead, cX8_isAskAhead, some .boolean),
  (8, yX8_opensBy, cX8_opensBy, some .int),
  (8, yX8_beginOne, cX8_beginOne, some .int),
  (8, yX8_compareOf, cX8_compareOf, some .int),
  (8, yX8_betweenOf, cX8_betweenOf, some .int),
  (8, yX8_behindOne, cX8_behindOne, some .boolean),
  (8, yX8_parsed, cX8_parsed, some .int),
  (8, yX8_w7, cX8_w7, some .long),
  (8, yX8_nameOf, cX8_nameOf, some .int),
  (8, yX8_farName, cX8_farName, some .int),
  (8, yX8_isOf, cX8_isOf, some .boolean),
  (8, yX8_sortOf, cX8_sortOf, some .int),
  (8, yX8_figure, cX8_figure, some .int),
  (8, yX8_expects, cX8_expects, some .int),
  (8, yX8_laidBy, cX8_laidBy, some .int),
  (8, yX8_clause, cX8_clause, some .int),
  (8, yX8_readText, cX8_readText, some .int),
  (8, yX8_text, cX8_text, some .int),
  (8, yX8_fault, cX8_fault, some .int),
  (8, yX8_by, cX8_by, some .boolean),
  (8, yX8_laid, cX8_laid, some .int),
  (8, yX8_clip, cX8_clip, some .long),
  (8, yX8_two, cX8_two, some .long),
  (8, yX8_isAsked, cX8_isAsked, some .boolean),
  (8, yX8_work, cX8_work, none),
  (8, yX8_clauses, cX8_clauses, some .int),
  (8, yX8_clauseOf, cX8_clauseOf, some .int),
  (8, yX8_sumOf, cX8_sumOf, some .int),
  (8, yX8_besideOf, cX8_besideOf, some .int),
  (8, yX8_name, cX8_name, none),
  (8, yX8_thickOf, cX8_thickOf, some .int),
  (8, yX8_heatOf, cX8_heatOf, some .int),
  (8, yX8_isDry, cX8_isDry, some .boolean),
  (8, yX8_heightOf, cX8_heightOf, some .int),
  (8, yX8_leanOf, cX8_leanOf, some .int),
  (8, yX8_standOf, cX8_standOf, some .int),
  (8, yX8_dryMany, cX8_dryMany, some .int),
  (8, yX8_isBeetle, cX8_isBeetle, some .boolean),
  (8, yX8_of, cX8_of, some .int),
  (8, yX8_airIn, cX8_airIn, some .int),
  (8, yX8_beetles, cX8_beetles, some .int),
  (8, yX8_stack, cX8_stack, some .int),
  (8, yX8_driedOf, cX8_driedOf, some .int),
  (8, yX8_goBy, cX8_goBy, none),
  (8, yX8_week, cX8_week, some .int),
  (8, yX8_takeOff, cX8_takeOff, none),
  (8, yX8_takeOne, cX8_takeOne, some .int),
  (8, yX8_take, cX8_take, some .int),
  (8, yX8_tries, cX8_tries, none),
  (8, yX8_isTried, cX8_isTried, some .boolean),
  (8, yX8_keepOrder, cX8_keepOrder, none),
  (8, yX8_choosesNext, cX8_choosesNext, some .boolean),
  (8, yX8_findOrder, cX8_findOrder, none),
  (8, yX8_order, cX8_order, some .int),
  (8, yX8_goOn, cX8_goOn, some .int),
  (8, yX8_tryWays, cX8_tryWays, none),
  (8, yX8_bestOf, cX8_bestOf, some .int),
  (8, yX8_way, cX8_way, some .int),
  (8, yX8_tryEnds, cX8_tryEnds, none),
  (8, yX8_lesser, cX8_lesser, some .int),
  (8, yX8_greater, cX8_greater, some .int),
  (8, yX8_spans, cX8_spans, some .int),
  (8, yX8_sure, cX8_sure, some .int),
  (8, yX8_small, cX8_small, some .int),
  (8, yX8_winter, cX8_winter, some .int),
  (8, yX8_remember, cX8_remember, some .int),
  (8, yX8_missingOf, cX8_missingOf, some .int),
  (8, yX8_missing, cX8_missing, some .int),
  (8, yX8_falls, cX8_falls, some .int),
  (8, yX8_image, cX8_image, some .int),
  (8, yX8_back, cX8_back, some .int),
  (8, yX8_about, cX8_about, some .int),
  (0, yX0_init, cX0_init, none),
  (0, yX0_thickOf, cX0_thickOf, some .int),
  (0, yX0_heatOf, cX0_heatOf, some .int),
  (0, yX0_worthOf, cX0_worthOf, some .int),
  (0, yX0_standOf, cX0_standOf, some .int),
  (0, yX0_heightOf, cX0_heightOf, some .int),
  (0, yX0_leanOf, cX0_leanOf, some .int),
  (0, yX0_airIn, cX0_airIn, some .int),
  (0, yX0_beetlesIn, cX0_beetlesIn, some .int),
  (0, yX0_hasBeetle, cX0_hasBeetle, some .boolean),
  (0, yX0_pass, cX0_pass, none),
  (0, yX0_dryAll, cX0_dryAll, none),
  (0, yX0_driedBy, cX0_driedBy, some .int),
  (0, yX0_look, cX0_look, none),
  (0, yX0_valueOf, cX0_valueOf, some .int),
  (0, yX0_nameValue, cX0_nameValue, some .int),
  (0, yX0_joined, cX0_joined, some .long),
  (0, yX0_clamp, cX0_clamp, some .int),
  (1, yX1_init, cX1_init, none),
  (1, yX1_become, cX1_become, none),
  (1, yX1_isFallen, cX1_isFallen, some .boolean),
  (1, yX1_holds, cX1_holds, some .boolean),
  (1, yX1_clear, cX1_clear, none),
  (1, yX1_add, cX1_add, some .int),
  (1, yX1_remove, cX1_remove, none),
  (1, yX1_bringDown, cX1_bringDown, none),
  (1, yX1_turnBark, cX1_turnBark, none),
  (1, yX1_splits, cX1_splits, some .int),
  (1, yX1_drySplits, cX1_drySplits, some .int),
  (1, yX1_tallest, cX1_tallest, some .int),
  (1, yX1_isTop, cX1_isTop, some .boolean),
  (1, yX1_besideOf, cX1_besideOf, some .int),
  (1, yX1_isSunny, cX1_isSunny, some .boolean),
  (2, yX2_init, cX2_init, none),
  (2, yX2_readAll, cX2_readAll, none),
  (2, yX2_token, cX2_token, some .int),
  (2, yX2_number, cX2_number, some .int),
  (2, yX2_step, cX2_step, none),
  (2, yX2_fail, cX2_fail, none),
  (2, yX2_expect, cX2_expect, none),
  (2, yX2_emit, cX2_emit, none),
  (2, yX2_readClause, cX2_readClause, none),
  (2, yX2_readLay, cX2_readLay, none),
  (2, yX2_readTold, cX2_readTold, none),
  (2, yX2_readPart, cX2_readPart, none),
  (2, yX2_levelOf, cX2_levelOf, some .int),
  (2, yX2_readAsk, cX2_readAsk, none),
  (2, yX2_opens, cX2_opens, some .boolean),
  (2, yX2_readOne, cX2_readOne, none),
  (2, yX2_readName, cX2_readName, none),
  (2, yX2_isNameOfClause, cX2_isNameOfClause, some .boolean),
  (2, yX2_readPair, cX2_readPair, none),
  (3, yX3_init, cX3_init, none),
  (3, yX3_begin, cX3_begin, none),
  (3, yX3_tryFrom, cX3_tryFrom, none),
  (3, yX3_note, cX3_note, none),
  (4, yX4_init, cX4_init, none),
  (4, yX4_clear, cX4_clear, none),
  (4, yX4_begin, cX4_begin, some .boolean),
  (4, yX4_emit, cX4_emit, none),
  (4, yX4_clauseOf, cX4_clauseOf, some .int),
  (4, yX4_codeAt, cX4_codeAt, some .int),
  (4, yX4_standsOnce, cX4_standsOnce, some .boolean),
  (5, yX5_init, cX5_init, none),
  (5, yX5_cut, cX5_cut, none),
  (5, yX5_add, cX5_add, none),
  (5, yX5_cutWord, cX5_cutWord, some .int),
  (5, yX5_wordOf, cX5_wordOf, some .int),
  (5, yX5_cutNumber, cX5_cutNumber, some .int),
  (5, yX5_cutSign, cX5_cutSign, some .int),
  (5, yX5_signOf, cX5_signOf, some .int),
  (5, yX5_isLetter, cX5_isLetter, some .boolean),
  (5, yX5_isDigit, cX5_isDigit, some .boolean),
  (6, yX6_init, cX6_init, none),
  (6, yX6_become, cX6_become, none),
  (9, yL_cell, cL_cell, some .int),
  (9, yL_law, cL_law, some .boolean)]
def mN (f : Nat) : Nat := (qm_inf.getD f (0, yX0_init, cX0_init, none)).1
def mY (f : Nat) : MethodName := (qm_inf.getD f (0, yX0_init, cX0_init, none)).2.1
def mC (f : Nat) : ByteArray := (qm_inf.getD f (0, yX0_init, cX0_init, none)).2.2.1
def mR (f : Nat) : Option FieldType := (qm_inf.getD f (0, yX0_init, cX0_init, none)).2.2.2
def qm_bpcs : List (List Nat) := [
  [],
  [0, 38, 40],
  [0, 17, 40, 41],
  [0, 29, 31, 73, 75],
  [0, 15, 17],
  [0, 45, 46, 65, 67],
  [0, 18, 20],
  [0, 19, 21, 47, 48],
  [0, 12],
  [0, 3, 49],
  [0, 14],
  [0, 19, 62],
  [0, 16, 18, 32, 39],
  [0, 15],
  [0, 33, 37],
  [0, 11, 30, 60, 66],
  [0, 52, 53],
  [0, 21, 80, 89, 98, 107, 116, 125, 134, 146, 158, 176, 177, 178],
  [0, 37, 63, 108, 117, 126, 131, 136, 141, 150, 159],
  [0, 24, 26],
  [0, 24, 26, 30, 48],
  [0, 18, 38, 51, 57, 95, 105, 111, 117, 128],
  [0, 15, 19, 20, 42, 44, 101, 130, 131],
  [0, 23, 24, 44, 45, 57, 75, 77, 101, 107, 108, 111, 131, 173, 182, 184],
  [0, 28, 29, 68, 71, 75, 102, 103, 150, 156],
  [0, 4, 21, 27],
  [0, 2, 30, 36],
  [0, 33, 35, 57, 66],
  [0, 17, 19, 34, 39, 57, 98, 104, 114, 115, 123, 129],
  [0, 30, 46, 99, 100, 129, 139, 167, 177, 184, 190, 192, 257],
  [0],
  [0],
  [0, 6, 23, 97, 103, 109],
  [0, 22, 24, 28, 71, 115, 133, 139],
  [0, 13, 23, 45, 51],
  [0, 4, 20, 73, 79],
  [0, 4, 26, 32],
  [0],
  [0, 12, 42, 57, 59, 64, 94],
  [0],
  [0, 35, 36, 62, 64, 70, 94, 95, 104],
  [0, 24, 93],
  [0],
  [0],
  [0, 24, 76, 87, 98, 106, 114, 122, 133, 144, 155, 160],
  [0, 22, 26, 27],
  [0, 32, 33],
  [0],
  [0],
  [0],
  [0],
  [0, 23, 24],
  [0, 11, 12],
  [0, 14, 15],
  [0],
  [],
  [0, 2, 39],
  [0, 14, 15],
  [0, 11, 22, 24],
  [0],
  [0],
  [0],
  [0, 27, 28],
  [0, 4, 26],
  [0, 59, 61],
  [0],
  [0, 11, 31, 32],
  [0, 24, 25],
  [0, 23, 25, 60, 62],
  [0, 17, 19],
  [0, 52, 54],
  [0],
  [0, 18, 20],
  [0, 19, 21, 41, 42],
  [0, 3, 39],
  [0, 15],
  [0, 14],
  [0, 17, 18],
  [0, 22, 26, 27],
  [0],
  [0, 26, 39, 68, 85, 131, 144, 161, 210, 223, 245, 327, 331, 332, 342, 343, 358, 392, 393, 396],
  [0],
  [0],
  [0],
  [0],
  [0, 21, 22],
  [0],
  [0],
  [0, 10, 20, 30, 40, 50, 60, 70, 71],
  [0, 76, 89],
  [0],
  [0, 7, 28],
  [0, 7, 30, 51, 52],
  [0, 40, 44, 45],
  [0, 12, 16, 28, 39, 50],
  [0, 20, 39, 51, 64, 65, 80, 81, 94, 110, 125, 148, 171, 204, 205],
  [0, 14, 27, 41, 54, 68, 82, 83],
  [0, 11, 22, 33, 45, 56, 58, 70, 91, 115, 116],
  [0, 19, 25, 52, 75, 120, 122, 126, 133, 156, 179, 181],
  [0, 12, 32, 44, 47, 65, 67],
  [0],
  [0, 10, 33, 54, 75, 96, 117, 136, 162, 186, 208, 228],
  [0, 22, 42, 64, 86, 108, 132, 162, 163],
  [0, 23, 42, 46, 47],
  [0, 18, 40, 62, 82, 102, 128, 149, 150],
  [0, 10, 24],
  [0, 6],
  [0, 28, 29, 33, 48, 66, 67, 71, 87, 115, 116, 120, 136, 137],
  [0, 11, 30, 49, 66, 113, 123, 124, 127, 137, 165, 189],
  [0, 48, 66, 69],
  [0, 12, 32, 36, 53],
  [0, 11, 23, 24],
  [0, 18],
  [0, 19, 21, 45, 55, 133, 139],
  [0, 14, 28, 29],
  [0, 40, 47, 54, 61, 71, 72, 73, 83, 84, 85, 95, 101],
  [0, 16, 20, 36, 40, 56, 60, 76, 80, 96, 100, 110, 111],
  [0, 47, 111, 119, 126, 154, 197, 241, 272, 273, 277, 321, 325, 347, 351, 352, 353, 359],
  [0, 13, 28],
  [0, 2, 37, 43],
  [0, 15],
  [0, 19, 20, 47, 48, 59, 60, 78, 79],
  [0, 26, 27, 97, 98, 120, 124, 125, 141, 147, 174, 180, 187, 188],
  [0, 53, 54],
  [0],
  [0, 23, 24],
  [0, 4, 28],
  [0],
  [0, 4, 29, 30, 37],
  [0, 4, 14, 37, 38, 46, 52],
  [0, 8, 44, 60, 66],
  [0, 11, 34, 47, 60, 79, 83, 84],
  [0, 10, 25, 68, 70, 78, 103, 105, 113, 122, 139],
  [0, 4, 14, 37, 38, 46, 52],
  [0, 25, 50, 92, 97, 102, 110, 115, 120, 125, 130],
  [0, 9, 40, 80, 160, 161],
  [0, 9, 20, 56, 62, 64, 75, 117, 123, 160, 161, 185, 208],
  [0, 20, 22],
  [0, 2, 16, 59, 65],
  [0, 9, 37, 45, 47, 107, 121, 130, 136, 142],
  [0, 18, 20, 24, 42],
  [0],
  [0, 22, 40, 41],
  [0, 16, 23, 47, 48, 55],
  [0, 16, 38, 57, 58],
  [0, 27, 45, 46, 70, 76, 134, 204],
  [0, 35, 37, 53, 62],
  [0, 19, 22, 25, 67, 73],
  [0, 2, 21, 32, 65, 66, 73, 79, 137],
  [0, 4, 23, 24, 31],
  [0, 40, 41, 47, 49, 71, 77, 78, 110, 112, 113, 116, 160, 166],
  [0, 14, 26, 90, 101, 108, 114, 123, 135, 177, 183],
  [0, 24, 30],
  [0, 24, 30],
  [0, 29, 31, 69, 79],
  [0, 19, 21, 52, 64, 99, 105, 115, 116, 162, 176, 182, 188, 198, 199],
  [0, 30, 32, 39, 63, 94, 145, 151],
  [0, 13, 15, 34, 38, 55, 67, 115, 135, 141, 147, 167, 173],
  [0, 2, 30],
  [0, 35, 36],
  [0, 27, 42, 44, 54, 59, 83],
  [0, 50, 52, 58, 89, 129, 150, 151, 160],
  [0],
  [0],
  [0, 24, 76, 81, 88, 95, 102, 109, 116, 123, 131, 136],
  [],
  [0, 38, 87, 88],
  [0, 38],
  [0, 31],
  [0, 39],
  [0, 5, 33],
  [0],
  [0, 10, 28, 84, 102, 120, 134],
  [0, 4, 15, 42, 43, 51, 57],
  [0, 10, 48, 54],
  [0, 55],
  [0, 11, 66, 78, 136, 142],
  [0, 31, 113, 114, 137, 139],
  [0, 75, 76, 95, 96, 128, 129],
  [0, 12, 76, 86, 93, 107, 139, 148, 152, 206, 212],
  [0, 19, 20],
  [0, 132, 136, 140, 144, 154, 157, 158, 164, 170, 180, 181, 182, 192, 193, 194, 204, 205, 206, 216, 217, 218, 228, 229, 230, 240, 241, 242, 246, 250],
  [0],
  [],
  [0],
  [0, 12, 13],
  [0, 30, 31],
  [0, 2, 21],
  [0, 25, 27],
  [0, 10, 12, 39],
  [0],
  [0, 2, 21],
  [0, 4, 27],
  [0, 4, 14, 45, 46, 54, 60],
  [0, 4, 29],
  [0, 19, 23, 24],
  [0, 9, 17, 18, 36, 37, 60, 61, 90, 91],
  [0, 12, 18, 25, 26],
  [],
  [0, 36, 71],
  [0, 35, 37],
  [0, 35, 36],
  [0, 33],
  [0, 48, 49, 52],
  [0, 15, 20],
  [0, 22],
  [0, 29, 37, 60, 80, 89, 109, 123, 124, 128, 134],
  [0],
  [0, 17, 37, 49],
  [0, 13, 14, 27, 40, 50, 109],
  [0, 60, 62, 64, 66, 68],
  [0, 32, 33, 61],
  [0, 13],
  [0, 22, 40, 52, 61, 92, 124, 129],
  [0, 24, 29],
  [0, 8, 27, 28, 29, 48, 52, 62, 63],
  [0, 21, 66],
  [],
  [0],
  [0, 10, 17, 28, 140, 156, 162],
  [0, 32],
  [],
  [0, 2, 24],
  [0, 11, 67],
  [0, 52],
  [0, 19, 20],
  [0, 29, 30],
  [0],
  [],
  [0, 10, 40, 46, 65, 84, 92, 98],
  [0, 50],
  [0, 3, 25],
  [0, 11, 52, 64, 92, 93, 98, 104],
  [0, 6, 49],
  [0, 21, 22, 49, 74],
  [0, 128, 131, 134, 137, 140, 143, 146, 149, 152, 155, 158, 161, 164],
  [0, 22, 26, 27],
  [0],
  [],
  [0],
  [0, 12, 13],
  [28, 172, 225, 248, 249, 275, 276, 284, 337, 380, 433, 466, 484, 485, 511, 512, 525, 588, 611, 624, 647, 670, 693, 736, 759, 782, 805, 838, 881, 934, 967, 1010, 1033, 1046, 1079, 1122, 1135, 1148, 1171, 1177]]
def qm_bpc (m b : Nat) : Nat := (qm_bpcs.getD m []).getD b 0
/-- class, entry of its pool, kind of object, field -/
def qm_flk : List (Nat × Nat × Nat × Nat) := [(7, 71, 1, 0), (7, 106, 2, 0), (7, 121, 3, 4), (7, 130, 3, 5), (7, 133, 3, 6), (7, 136, 2, 7), (7, 139, 2, 8), (7, 142, 2, 5), (7, 145, 2, 1), (7, 148, 2, 2), (7, 151, 2, 3), (7, 154, 2, 4), (7, 160, 2, 6), (7, 163, 3, 10), (7, 166, 3, 11), (7, 169, 3, 12), (7, 40, 1, 7), (7, 36, 1, 6), (7, 175, 2, 11), (7, 32, 1, 5), (7, 11, 1, 2), (7, 44, 1, 8), (7, 181, 6, 4), (7, 184, 6, 5), (7, 190, 2, 12), (7, 25, 1, 4), (7, 16, 1, 3), (7, 196, 5, 0), (7, 202, 4, 6), (7, 205, 4, 1), (7, 215, 3, 1), (7, 218, 3, 2), (7, 221, 3, 3), (7, 234, 3, 0), (7, 241, 3, 7), (7, 251, 3, 9), (7, 268, 3, 8), (7, 91, 1, 11), (7, 296, 8, 3), (7, 299, 8, 4), (7, 302, 8, 2), (7, 51, 1, 13), (7, 54, 1, 14), (7, 81, 1, 9), (7, 85, 1, 10), (7, 48, 1, 12), (7, 347, 2, 9), (7, 356, 2, 10), (7, 75, 1, 1), (8, 7, 9, 0), (8, 74, 9, 2), (8, 67, 9, 1), (8, 16, 9, 4), (8, 107, 9, 5), (8, 114, 9, 8), (8, 120, 9, 9), (8, 123, 9, 10), (8, 129, 9, 11), (8, 136, 9, 12), (8, 13, 9, 3), (8, 148, 9, 13), (8, 151, 9, 15), (8, 26, 9, 17), (8, 154, 9, 18), (8, 163, 9, 19), (8, 166, 9, 20), (8, 237, 9, 21), (8, 252, 9, 22), (8, 19, 9, 6), (8, 23, 9, 7), (8, 32, 9, 24), (8, 29, 9, 23), (8, 36, 9, 25), (8, 40, 9, 26), (8, 350, 9, 27), (8, 362, 9, 31), (8, 49, 9, 30), (8, 43, 9, 28), (8, 46, 9, 29), (8, 55, 9, 33), (8, 52, 9, 32), (8, 58, 9, 34), (8, 61, 9, 35), (8, 64, 9, 36), (0, 18, 5, 0), (0, 43, 3, 2), (0, 48, 3, 3), (0, 51, 3, 0), (0, 55, 3, 10), (0, 58, 3, 11), (0, 9, 5, 1), (0, 65, 3, 8), (0, 68, 3, 7), (0, 92, 4, 6), (0, 95, 4, 1), (0, 113, 3, 9), (0, 120, 2, 1), (0, 125, 2, 2), (0, 128, 2, 3), (0, 131, 2, 4), (0, 140, 3, 4), (0, 147, 3, 1), (0, 154, 4, 2), (0, 157, 4, 3), (0, 160, 4, 0), (0, 15, 5, 2), (1, 9, 3, 1), (1, 15, 3, 2), (1, 18, 3, 3), (1, 21, 3, 4), (1, 24, 3, 5), (1, 27, 3, 6), (1, 30, 3, 7), (1, 33, 3, 8), (1, 37, 3, 9), (1, 40, 3, 10), (1, 43, 3, 11), (1, 46, 3, 12), (1, 49, 3, 0), (2, 12, 6, 0), (2, 18, 6, 1), (2, 22, 6, 2), (2, 29, 6, 4), (2, 32, 6, 5), (2, 52, 7, 3), (2, 59, 7, 0), (2, 62, 7, 1), (2, 65, 7, 2), (2, 26, 6, 3), (3, 24, 8, 3), (3, 28, 8, 4), (3, 11, 8, 0), (3, 42, 3, 0), (3, 45, 3, 7), (3, 17, 8, 1), (3, 57, 2, 6), (3, 21, 8, 2), (4, 24, 4, 4), (4, 27, 4, 5), (4, 31, 4, 6), (4, 15, 4, 1), (4, 18, 4, 2), (4, 21, 4, 3), (4, 9, 4, 0), (5, 21, 7, 3), (5, 9, 7, 0), (5, 15, 7, 1), (5, 18, 7, 2), (6, 55, 2, 0), (6, 9, 2, 1), (6, 15, 2, 2), (6, 18, 2, 3), (6, 21, 2, 4), (6, 24, 2, 5), (6, 28, 2, 6), (6, 31, 2, 7), (6, 34, 2, 8), (6, 37, 2, 9), (6, 40, 2, 10), (6, 44, 2, 11), (6, 47, 2, 12)]
/-- their words' places in lw_tbl -/
def qm_flp : List Nat := [410, 323, 271, 274, 276, 342, 344, 337, 325, 328, 331, 334, 340, 289, 292, 294, 417, 416, 350, 415, 412, 418, 223, 225, 352, 414, 413, 179, 155, 146, 263, 266, 269, 260, 280, 286, 283, 421, 396, 398, 394, 423, 424, 419, 420, 422, 346, 348, 411, 1039, 1041, 1040, 1043, 1044, 1047, 1048, 1049, 1050, 1051, 1042, 1052, 1053, 1054, 1055, 1056, 1057, 1058, 1059, 1045, 1046, 1061, 1060, 1062, 1063, 1064, 1068, 1067, 1065, 1066, 1070, 1069, 1071, 1072, 1073, 178, 265, 268, 259, 288, 291, 180, 282, 279, 154, 145, 285, 326, 329, 332, 335, 272, 262, 148, 150, 143, 181, 261, 264, 267, 270, 273, 275, 277, 281, 284, 287, 290, 293, 257, 218, 219, 220, 222, 224, 208, 202, 204, 206, 221, 395, 397, 391, 258, 278, 392, 339, 393, 151, 152, 153, 144, 147, 149, 142, 207, 201, 203, 205, 322, 324, 327, 330, 333, 336, 338, 341, 343, 345, 347, 349, 351]
def qm_mlk_0 : List (Nat × Nat × Nat × Nat × Nat) := [(7, 95, 49, 1, 1), (7, 99, 53, 1, 3), (7, 103, 50, 1, 1), (7, 109, 185, 0, 0), (7, 113, 188, 0, 4), (7, 117, 186, 0, 2), (7, 124, 54, 1, 2), (7, 127, 51, 1, 2), (7, 157, 47, 0, 1), (7, 172, 9, 0, 1), (7, 177, 199, 0, 3), (7, 187, 48, 0, 1), (7, 193, 14, 0, 0), (7, 199, 187, 0, 0), (7, 208, 16, 0, 2), (7, 212, 226, 0, 2), (7, 224, 166, 0, 3), (7, 228, 167, 0, 3), (7, 231, 52, 1, 1), (7, 237, 170, 0, 2), (7, 244, 171, 0, 1), (7, 248, 169, 0, 1), (7, 254, 192, 0, 0), (7, 258, 193, 0, 0)]
def qm_mlk_1 : List (Nat × Nat × Nat × Nat × Nat) := [(7, 261, 172, 0, 1), (7, 264, 173, 0, 1), (7, 271, 175, 0, 3), (7, 275, 21, 0, 0), (7, 278, 168, 0, 3), (7, 281, 189, 0, 2), (7, 285, 46, 0, 1), (7, 288, 218, 0, 1), (7, 292, 219, 2, 5), (7, 305, 24, 0, 2), (7, 308, 25, 1, 1), (7, 312, 26, 0, 2), (7, 315, 184, 0, 1), (7, 318, 191, 0, 1), (7, 321, 45, 0, 1), (7, 324, 29, 0, 1), (7, 327, 30, 0, 1), (7, 331, 31, 0, 1), (7, 334, 32, 0, 0), (7, 337, 176, 0, 3), (7, 341, 35, 0, 0), (7, 344, 36, 0, 1), (7, 359, 39, 0, 1), (7, 362, 41, 0, 2)]
def qm_mlk_2 : List (Nat × Nat × Nat × Nat × Nat) := [(7, 365, 239, 0, 1), (8, 77, 57, 1, 3), (8, 81, 61, 0, 1), (8, 85, 59, 0, 1), (8, 89, 65, 0, 4), (8, 93, 60, 0, 2), (8, 97, 62, 0, 2), (8, 101, 67, 1, 2), (8, 104, 71, 0, 1), (8, 110, 74, 0, 1), (8, 117, 77, 0, 1), (8, 126, 79, 1, 1), (8, 133, 78, 1, 1), (8, 140, 81, 1, 3), (8, 144, 82, 1, 5), (8, 157, 88, 1, 1), (8, 160, 86, 0, 2), (8, 170, 89, 0, 1), (8, 173, 91, 0, 0), (8, 177, 80, 0, 0), (8, 180, 87, 0, 1), (8, 183, 101, 0, 0), (8, 186, 103, 0, 1), (8, 189, 90, 0, 0)]
def qm_mlk_3 : List (Nat × Nat × Nat × Nat × Nat) := [(8, 192, 94, 0, 1), (8, 195, 85, 0, 1), (8, 199, 93, 0, 1), (8, 203, 92, 0, 0), (8, 207, 96, 0, 0), (8, 212, 97, 0, 1), (8, 216, 98, 0, 1), (8, 219, 95, 0, 1), (8, 222, 84, 1, 6), (8, 226, 83, 1, 4), (8, 230, 102, 0, 0), (8, 233, 100, 1, 7), (8, 240, 105, 0, 3), (8, 244, 106, 0, 1), (8, 249, 104, 0, 0), (8, 255, 107, 0, 1), (8, 258, 99, 0, 1), (8, 261, 108, 0, 0), (8, 264, 109, 0, 0), (8, 267, 64, 0, 4), (8, 275, 114, 1, 1), (8, 279, 115, 1, 3), (8, 283, 116, 1, 3), (8, 287, 118, 0, 0)]
def qm_mlk_4 : List (Nat × Nat × Nat × Nat × Nat) := [(8, 290, 119, 0, 1), (8, 293, 117, 0, 1), (8, 296, 58, 1, 3), (8, 300, 121, 0, 2), (8, 303, 122, 0, 2), (8, 306, 120, 0, 4), (8, 309, 123, 0, 2), (8, 312, 126, 0, 1), (8, 315, 125, 0, 2), (8, 318, 124, 0, 2), (8, 325, 130, 0, 2), (8, 328, 127, 0, 0), (8, 331, 128, 0, 0), (8, 334, 63, 0, 0), (8, 337, 129, 0, 0), (8, 340, 132, 0, 0), (8, 343, 133, 0, 0), (8, 347, 135, 0, 3), (8, 353, 136, 0, 1), (8, 356, 138, 0, 2), (8, 359, 139, 0, 0), (8, 365, 141, 0, 1), (8, 70, 56, 0, 2), (8, 368, 144, 0, 1)]
def qm_mlk_5 : List (Nat × Nat × Nat × Nat × Nat) := [(8, 371, 143, 0, 2), (8, 374, 142, 0, 2), (8, 377, 145, 0, 1), (8, 380, 147, 0, 1), (8, 383, 148, 0, 1), (8, 386, 149, 1, 1), (8, 390, 151, 0, 3), (8, 394, 152, 0, 1), (8, 397, 153, 0, 1), (8, 401, 159, 0, 1), (0, 22, 225, 0, 1), (0, 28, 178, 0, 3), (0, 32, 179, 0, 1), (0, 35, 182, 1, 3), (0, 39, 54, 3, 2), (0, 61, 194, 0, 0), (0, 71, 166, 0, 3), (0, 75, 170, 0, 2), (0, 88, 174, 0, 3), (0, 98, 176, 0, 3), (0, 102, 185, 0, 0), (0, 109, 169, 0, 1), (0, 116, 53, 3, 3), (0, 134, 177, 0, 3)]
def qm_mlk_6 : List (Nat × Nat × Nat × Nat × Nat) := [(0, 137, 196, 0, 2), (0, 143, 195, 0, 2), (0, 150, 197, 0, 1), (0, 163, 180, 0, 1), (0, 166, 181, 1, 3), (1, 58, 53, 3, 3), (1, 62, 54, 3, 2), (1, 66, 186, 0, 2), (1, 70, 190, 0, 1), (1, 74, 52, 3, 1), (1, 83, 185, 0, 0), (2, 35, 229, 0, 2), (2, 39, 222, 0, 0), (2, 44, 200, 0, 0), (2, 48, 206, 0, 1), (2, 55, 53, 3, 3), (2, 67, 202, 0, 0), (2, 70, 203, 0, 1), (2, 73, 224, 0, 1), (2, 76, 225, 0, 1), (2, 80, 223, 0, 1), (2, 84, 207, 0, 0), (2, 87, 209, 0, 2), (2, 91, 204, 0, 1)]
def qm_mlk_7 : List (Nat × Nat × Nat × Nat × Nat) := [(2, 94, 208, 0, 2), (2, 97, 201, 0, 0), (2, 100, 205, 0, 1), (2, 101, 211, 0, 1), (2, 104, 213, 0, 1), (2, 107, 210, 1, 1), (2, 110, 212, 0, 1), (2, 113, 214, 0, 1), (2, 116, 216, 0, 2), (2, 119, 215, 0, 1), (3, 34, 184, 0, 1), (3, 38, 220, 0, 2), (3, 48, 167, 0, 3), (3, 54, 189, 0, 2), (3, 62, 175, 0, 3), (3, 66, 219, 0, 5), (4, 34, 227, 1, 1), (4, 38, 53, 3, 3), (5, 25, 236, 1, 1), (5, 29, 231, 0, 3), (5, 33, 237, 1, 1), (5, 36, 233, 0, 3), (5, 39, 234, 0, 3), (5, 42, 230, 0, 3)]
def qm_mlk_8 : List (Nat × Nat × Nat × Nat × Nat) := [(5, 46, 232, 1, 3), (5, 67, 235, 1, 1), (5, 71, 53, 3, 3), (6, 59, 184, 0, 1), (9, 21, 1, 0, 4), (9, 25, 64, 0, 4), (9, 26, 2, 0, 3), (9, 30, 66, 0, 3), (9, 31, 3, 0, 4), (9, 35, 68, 0, 4), (9, 36, 4, 0, 3), (9, 40, 69, 0, 3), (9, 41, 5, 0, 4), (9, 44, 70, 0, 4), (9, 45, 6, 0, 2), (9, 49, 72, 0, 2), (9, 50, 7, 0, 3), (9, 54, 73, 0, 3), (9, 55, 8, 0, 5), (9, 59, 75, 0, 5), (9, 60, 10, 0, 1), (9, 64, 76, 0, 1), (9, 65, 11, 0, 0), (9, 69, 110, 0, 0)]
def qm_mlk_9 : List (Nat × Nat × Nat × Nat × Nat) := [(9, 70, 12, 0, 1), (9, 73, 111, 0, 1), (9, 74, 13, 0, 1), (9, 78, 112, 0, 1), (9, 79, 15, 0, 1), (9, 82, 113, 0, 1), (9, 83, 17, 0, 3), (9, 87, 131, 0, 3), (9, 88, 18, 0, 1), (9, 91, 134, 0, 1), (9, 92, 19, 0, 1), (9, 95, 137, 0, 1), (9, 96, 20, 0, 1), (9, 99, 140, 0, 1), (9, 100, 22, 0, 2), (9, 104, 146, 0, 2), (9, 105, 23, 0, 3), (9, 108, 150, 0, 3), (9, 109, 27, 0, 4), (9, 112, 154, 0, 4), (9, 113, 28, 0, 2), (9, 116, 155, 0, 2), (9, 117, 33, 0, 3), (9, 120, 156, 0, 3)]
def qm_mlk_10 : List (Nat × Nat × Nat × Nat × Nat) := [(9, 121, 34, 0, 1), (9, 124, 157, 0, 1), (9, 125, 37, 0, 0), (9, 128, 158, 0, 0), (9, 129, 38, 0, 2), (9, 132, 160, 0, 2), (9, 133, 40, 0, 3), (9, 136, 161, 0, 3), (9, 137, 42, 0, 0), (9, 140, 162, 0, 0), (9, 141, 43, 0, 0), (9, 144, 163, 0, 0), (9, 145, 44, 0, 1), (9, 148, 164, 0, 1)]
def qm_mlk : List (Nat × Nat × Nat × Nat × Nat) := qm_mlk_0 ++ (qm_mlk_1 ++ (qm_mlk_2 ++ (qm_mlk_3 ++ (qm_mlk_4 ++ (qm_mlk_5 ++ (qm_mlk_6 ++ (qm_mlk_7 ++ (qm_mlk_8 ++ (qm_mlk_9 ++ (qm_mlk_10))))))))))
def qm_ilk : List (Nat × Nat × Nat) := [(7, 63, 81), (7, 57, 82), (7, 350, 86), (0, 79, 81), (0, 106, 83), (0, 174, 85), (0, 178, 84), (0, 180, 82), (1, 52, 86), (1, 78, 81), (3, 70, 86), (5, 51, 87), (5, 57, 88), (5, 61, 82), (6, 63, 86)]
def qm_ilp : List Nat := [242, 239, 991, 793, 864, 781, 784, 792, 905, 823, 916, 553, 563, 612, 1017]
def qm_clk : List (Nat × Nat × Int) := [(7, 267, -100000), (7, 340, 999999), (8, 132, 100000), (8, 346, -100000), (8, 400, 999999)]
def qm_llk : List (Nat × Nat × Int) := [(8, 210, 28530), (8, 247, 28526), (8, 271, 1000000), (8, 273, -1000000), (8, 321, 1000), (8, 323, 785), (0, 84, 1000), (0, 86, 785), (0, 170, -1000000), (0, 172, 1000000)]
def qm_clp : List Nat := [847, 978, 1240, 1457, 1549]
def qm_llp : List Nat := [1308, 1280, 1403, 1404, 1447, 1448, 837, 838, 787, 788]
def qm_nest : List Cond := [Cond.methodLinkNest "WoodStack" 292 yX3_tryFrom "WoodStack", Cond.methodLinkNest "WoodStack$Laws" 39 yX7_placeOf "WoodStack", Cond.methodLinkNest "WoodStack$Laws" 116 yX7_within "WoodStack", Cond.methodLinkNest "WoodStack$Pile" 58 yX7_within "WoodStack", Cond.methodLinkNest "WoodStack$Pile" 62 yX7_placeOf "WoodStack", Cond.methodLinkNest "WoodStack$Pile" 74 yX7_isDry "WoodStack", Cond.methodLinkNest "WoodStack$Reader" 55 yX7_within "WoodStack", Cond.methodLinkNest "WoodStack$Text" 38 yX7_within "WoodStack", Cond.methodLinkNest "WoodStack$Tokens" 71 yX7_within "WoodStack"]
/-- a field: 0 int, 1 boolean, 2 long, 3 a final reference, 4 one that changes -/
def qm_fks : List (List Nat) := [[3, 3, 3, 3, 3, 3, 3, 0, 1, 3, 3, 3, 3, 3, 3], [3, 3, 3, 3, 3, 0, 3, 3, 3, 3, 1, 0, 0], [0, 3, 3, 3, 3, 3, 3, 3, 0, 0, 0, 0, 0], [3, 3, 3, 3, 3, 0, 0], [4, 3, 3], [3, 4, 0, 0, 0, 0], [3, 3, 3, 0], [3, 3, 3, 0, 0], [3, 0, 0, 3, 3, 0, 0, 0, 0, 0, 0, 0, 2, 0, 0, 0, 0, 3, 0, 0, 1, 0, 0, 3, 3, 3, 3, 1, 3, 3, 3, 0, 3, 3, 3, 3, 3]]
def qm_fk (k f : Nat) : Nat := ((([] : List Nat) :: qm_fks).getD k []).getD f 9
/-- where a final reference goes: kind, factor, first instance -/
def qm_fts : List (List (Nat × Nat × Nat)) := [[(2, 0, 0), (2, 0, 1), (51, 0, 0), (4, 0, 4), (5, 0, 0), (6, 0, 0), (52, 0, 0), (0, 0, 0), (0, 0, 0), (3, 0, 2), (3, 0, 3), (8, 0, 0), (53, 0, 0), (54, 0, 0), (55, 0, 0)], [(3, 1, 0), (21, 1, 0), (22, 1, 0), (23, 1, 0), (24, 1, 0), (0, 0, 0), (25, 1, 0), (26, 1, 0), (27, 1, 0), (28, 1, 0), (0, 0, 0), (0, 0, 0), (0, 0, 0)], [(0, 0, 0), (11, 1, 0), (12, 1, 0), (13, 1, 0), (14, 1, 0), (15, 1, 0), (16, 1, 0), (17, 1, 0), (0, 0, 0), (0, 0, 0), (0, 0, 0), (0, 0, 0), (0, 0, 0)], [(31, 1, 0), (32, 1, 0), (33, 1, 0), (34, 1, 0), (35, 1, 0), (0, 0, 0), (0, 0, 0)], [(0, 0, 0), (41, 0, 0), (42, 0, 0)], [(7, 0, 0), (0, 0, 0), (0, 0, 0), (0, 0, 0), (0, 0, 0), (0, 0, 0)], [(43, 0, 0), (44, 0, 0), (45, 0, 0), (0, 0, 0)], [(46, 0, 0), (47, 0, 0), (48, 0, 0), (0, 0, 0), (0, 0, 0)], [(61, 0, 0), (0, 0, 0), (0, 0, 0), (62, 0, 0), (63, 0, 0), (0, 0, 0), (0, 0, 0), (0, 0, 0), (0, 0, 0), (0, 0, 0), (0, 0, 0), (0, 0, 0), (0, 0, 0), (0, 0, 0), (0, 0, 0), (0, 0, 0), (0, 0, 0), (64, 0, 0), (0, 0, 0), (0, 0, 0), (0, 0, 0), (0, 0, 0), (0, 0, 0), (65, 0, 0), (66, 0, 0), (67, 0, 0), (68, 0, 0), (0, 0, 0), (69, 0, 0), (70, 0, 0), (71, 0, 0), (0, 0, 0), (72, 0, 0), (73, 0, 0), (74, 0, 0), (75, 0, 0), (76, 0, 0)]]
def qm_ft (k f : Nat) : Nat × Nat × Nat := ((([] : List (Nat × Nat × Nat)) :: qm_fts).getD k []).getD f (0, 0, 0)
/-- the cells in the order in which they are made: kind, instance -/
def qm_desc : List (Nat × Nat) := [(1, 0), (51, 0), (4, 4), (31, 4), (32, 4), (33, 4), (34, 4), (35, 4), (5, 0), (41, 0), (42, 0), (6, 0), (7, 0), (43, 0), (44, 0), (45, 0), (52, 0), (53, 0), (54, 0), (55, 0), (2, 0), (21, 0), (22, 0), (23, 0), (24, 0), (25, 0), (26, 0), (27, 0), (28, 0), (3, 0), (11, 0), (12, 0), (13, 0), (14, 0), (15, 0), (16, 0), (17, 0), (2, 1), (21, 1), (22, 1), (23, 1), (24, 1), (25, 1), (26, 1), (27, 1), (28, 1), (3, 1), (11, 1), (12, 1), (13, 1), (14, 1), (15, 1), (16, 1), (17, 1), (3, 2), (11, 2), (12, 2), (13, 2), (14, 2), (15, 2), (16, 2), (17, 2), (3, 3), (11, 3), (12, 3), (13, 3), (14, 3), (15, 3), (16, 3), (17, 3), (8, 0), (46, 0), (47, 0), (48, 0), (3, 4), (11, 4), (12, 4), (13, 4), (14, 4), (15, 4), (16, 4), (17, 4), (3, 5), (11, 5), (12, 5), (13, 5), (14, 5), (15, 5), (16, 5), (17, 5), (3, 6), (11, 6), (12, 6), (13, 6), (14, 6), (15, 6), (16, 6), (17, 6), (3, 7), (11, 7), (12, 7), (13, 7), (14, 7), (15, 7), (16, 7), (17, 7), (3, 8), (11, 8), (12, 8), (13, 8), (14, 8), (15, 8), (16, 8), (17, 8), (4, 0), (31, 0), (32, 0), (33, 0), (34, 0), (35, 0), (4, 1), (31, 1), (32, 1), (33, 1), (34, 1), (35, 1), (4, 2), (31, 2), (32, 2), (33, 2), (34, 2), (35, 2), (4, 3), (31, 3), (32, 3), (33, 3), (34, 3), (35, 3), (9, 0), (61, 0), (62, 0), (63, 0), (64, 0), (65, 0), (66, 0), (67, 0), (68, 0), (69, 0), (70, 0), (71, 0), (72, 0), (73, 0), (74, 0), (75, 0), (76, 0)]
def qm_cnt (k : Nat) : Nat := match k with
  | 1 => 1
  | 2 => 2
  | 3 => 9
  | 4 => 5
  | 5 => 1
  | 6 => 1
  | 7 => 1
  | 8 => 1
  | 9 => 1
  | 11 => 9
  | 12 => 9
  | 13 => 9
  | 14 => 9
  | 15 => 9
  | 16 => 9
  | 17 => 9
  | 21 => 2
  | 22 => 2
  | 23 => 2
  | 24 => 2
  | 25 => 2
  | 26 => 2
  | 27 => 2
  | 28 => 2
  | 31 => 5
  | 32 => 5
  | 33 => 5
  | 34 => 5
  | 35 => 5
  | 41 => 1
  | 42 => 1
  | 43 => 1
  | 44 => 1
  | 45 => 1
  | 46 => 1
  | 47 => 1
  | 48 => 1
  | 51 => 1
  | 52 => 1
  | 53 => 1
  | 54 => 1
  | 55 => 1
  | 61 => 1
  | 62 => 1
  | 63 => 1
  | 64 => 1
  | 65 => 1
  | 66 => 1
  | 67 => 1
  | 68 => 1
  | 69 => 1
  | 70 => 1
  | 71 => 1
  | 72 => 1
  | 73 => 1
  | 74 => 1
  | 75 => 1
  | 76 => 1
  | 80 => 1
  | 81 => 1
  | _ => 0
def qm_ads : List (List Nat) := [[], [0], [20, 37], [29, 46, 54, 62, 74, 82, 90, 98, 106], [114, 120, 126, 132, 2], [8], [11], [12], [70], [138], [], [30, 47, 55, 63, 75, 83, 91, 99, 107], [31, 48, 56, 64, 76, 84, 92, 100, 108], [32, 49, 57, 65, 77, 85, 93, 101, 109], [33, 50, 58, 66, 78, 86, 94, 102, 110], [34, 51, 59, 67, 79, 87, 95, 103, 111], [35, 52, 60, 68, 80, 88, 96, 104, 112], [36, 53, 61, 69, 81, 89, 97, 105, 113], [], [], [], [21, 38], [22, 39], [23, 40], [24, 41], [25, 42], [26, 43], [27, 44], [28, 45], [], [], [115, 121, 127, 133, 3], [116, 122, 128, 134, 4], [117, 123, 129, 135, 5], [118, 124, 130, 136, 6], [119, 125, 131, 137, 7], [], [], [], [], [], [9], [10], [13], [14], [15], [71], [72], [73], [], [], [1], [16], [17], [18], [19], [], [], [], [], [], [139], [140], [141], [142], [143], [144], [145], [146], [147], [148], [149], [150], [151], [152], [153], [154]]
def qm_ad (k i : Nat) : Nat := (qm_ads.getD k []).getD i 0
end
section
/-! the words of the links stand in lw_tbl -/
def qm_R (k : Nat) : String := match k with
  | 1 => RX7 | 2 => RX6 | 3 => RX1 | 4 => RX4 | 5 => RX0 | 6 => RX2 | 7 => RX5 | 8 => RX3 | _ => RX8
def qm_T (k : Nat) : u_T := match k with
  | 1 => TX7 | 2 => TX6 | 3 => TX1 | 4 => TX4 | 5 => TX0 | 6 => TX2 | 7 => TX5 | 8 => TX3 | _ => TX8
def qm_nf (k : Nat) : Nat := match k with
  | 1 => 15 | 2 => 13 | 3 => 13 | 4 => 7 | 5 => 3 | 6 => 6 | 7 => 4 | 8 => 5 | _ => 37
def qm_ci (k : Nat) : Nat := match k with
  | 1 => 7 | 2 => 6 | 3 => 1 | 4 => 4 | 5 => 0 | 6 => 2 | 7 => 5 | 8 => 3 | _ => 8
def qm_tb : List Cond := lw_tbl.filter goodWord
def qm_Tb (w : Cond) : Prop := w ∈ lw_tbl ∧ goodWord w = true
theorem qm_Tb.tb {w : Cond} (h : qm_Tb w) : w ∈ qm_tb := List.mem_filter.mpr h
theorem qm_in0 {w : Cond} (i : Nat) (h : lw_privs[i]?.map (fun q => Cond.selects q.1.cls q.1 q.1) = some w) : w ∈ lw_tbl := by
  refine List.mem_append_left _ ?_
  cases e : lw_privs[i]? with
  | none => rw [e] at h; cases h
  | some q => rw [e] at h; exact List.mem_map.mpr ⟨q, List.mem_of_getElem? e, Option.some.inj h⟩
theorem qm_in1 {w : Cond} (i : Nat) (h : tables_1_1[i]? = some w) : w ∈ lw_tbl := List.mem_append_right _ (List.mem_append_left _ (List.mem_of_getElem? h))
theorem qm_in2 {w : Cond} (i : Nat) (h : tables_1_2[i]? = some w) : w ∈ lw_tbl := List.mem_append_right _ (List.mem_append_right _ (List.mem_append_left _ (List.mem_of_getElem? h)))
theorem qm_in3 {w : Cond} (i : Nat) (h : tables_1_3[i]? = some w) : w ∈ lw_tbl := List.mem_append_right _ (List.mem_append_right _ (List.mem_append_right _ (List.mem_append_left _ (List.mem_of_getElem? h))))
theorem qm_in4 {w : Cond} (i : Nat) (h : tables_1_4[i]? = some w) : w ∈ lw_tbl := List.mem_append_right _ (List.mem_append_right _ (List.mem_append_right _ (List.mem_append_right _ (List.mem_append_left _ (List.mem_of_getElem? h)))))
theorem qm_in5 {w : Cond} (i : Nat) (h : tables_1_5[i]? = some w) : w ∈ lw_tbl := List.mem_append_right _ (List.mem_append_right _ (List.mem_append_right _ (List.mem_append_right _ (List.mem_append_right _ (List.mem_append_left _ (List.mem_of_getElem? h))))))
theorem qm_in6 {w : Cond} (i : Nat) (h : tables_1_6[i]? = some w) : w ∈ lw_tbl := List.mem_append_right _ (List.mem_append_right _ (List.mem_append_right _ (List.mem_append_right _ (List.mem_append_right _ (List.mem_append_right _ (List.mem_append_left _ (List.mem_of_getElem? h)))))))
theorem qm_in7 {w : Cond} (i : Nat) (h : tables_1_7[i]? = some w) : w ∈ lw_tbl := List.mem_append_right _ (List.mem_append_right _ (List.mem_append_right _ (List.mem_append_right _ (List.mem_append_right _ (List.mem_append_right _ (List.mem_append_right _ (List.mem_of_getElem? h)))))))
def qm_fw (e : Nat × Nat × Nat × Nat) : Cond := Cond.fieldLink (qm_cls e.1) e.2.1 (qm_R e.2.2.1) (qm_T e.2.2.1 e.2.2.2).2.1 (qm_T e.2.2.1 e.2.2.2).2.2.1
/-- what a call's link says -/
def qm_ML (e : Nat × Nat × Nat × Nat × Nat) : Prop :=
  (match e.2.2.2.1 with
    | 0 => qm_Tb (Cond.methodLink (qm_cls e.1) e.2.1 (mY e.2.2.1)) ∧ qm_Tb (Cond.instanceMethod (mY e.2.2.1)) ∧ qm_Tb (Cond.selects (mY e.2.2.1).cls (mY e.2.2.1) (mY e.2.2.1))
    | 1 => qm_Tb (Cond.methodLink (qm_cls e.1) e.2.1 (mY e.2.2.1)) ∧ qm_Tb (Cond.static (mY e.2.2.1))
    | 2 => Cond.methodLinkNest (qm_cls e.1) e.2.1 (mY e.2.2.1) "WoodStack" ∈ qm_nest ∧ qm_Tb (Cond.instanceMethod (mY e.2.2.1)) ∧ qm_Tb (Cond.selects (mY e.2.2.1).cls (mY e.2.2.1) (mY e.2.2.1))
    | _ => Cond.methodLinkNest (qm_cls e.1) e.2.1 (mY e.2.2.1) "WoodStack" ∈ qm_nest ∧ qm_Tb (Cond.static (mY e.2.2.1)))
  ∧ qm_Tb (Cond.initialized (mY e.2.2.1).cls)
theorem qm_nest_in : ∀ w ∈ qm_nest, w ∈ lw_tbl := by
  unfold qm_nest
  refine List.forall_mem_cons.mpr ⟨qm_in4 77 rfl, ?_⟩
  refine List.forall_mem_cons.mpr ⟨qm_in3 163 rfl, ?_⟩
  refine List.forall_mem_cons.mpr ⟨qm_in3 186 rfl, ?_⟩
  refine List.forall_mem_cons.mpr ⟨qm_in2 126 rfl, ?_⟩
  refine List.forall_mem_cons.mpr ⟨qm_in2 127 rfl, ?_⟩
  refine List.forall_mem_cons.mpr ⟨qm_in4 1 rfl, ?_⟩
  refine List.forall_mem_cons.mpr ⟨qm_in3 37 rfl, ?_⟩
  refine List.forall_mem_cons.mpr ⟨qm_in3 53 rfl, ?_⟩
  refine List.forall_mem_cons.mpr ⟨qm_in2 193 rfl, ?_⟩
  exact fun _ h => absurd h List.not_mem_nil
theorem fk_0 : qm_Tb (qm_fw (7, 71, 1, 0)) := ⟨qm_in2 59 rfl, rfl⟩
theorem fk_1 : qm_Tb (qm_fw (7, 106, 2, 0)) := ⟨qm_in1 212 rfl, rfl⟩
theorem fk_2 : qm_Tb (qm_fw (7, 121, 3, 4)) := ⟨qm_in1 160 rfl, rfl⟩
theorem fk_3 : qm_Tb (qm_fw (7, 130, 3, 5)) := ⟨qm_in1 163 rfl, rfl⟩
theorem fk_4 : qm_Tb (qm_fw (7, 133, 3, 6)) := ⟨qm_in1 165 rfl, rfl⟩
theorem fk_5 : qm_Tb (qm_fw (7, 136, 2, 7)) := ⟨qm_in1 231 rfl, rfl⟩
theorem fk_6 : qm_Tb (qm_fw (7, 139, 2, 8)) := ⟨qm_in1 233 rfl, rfl⟩
theorem fk_7 : qm_Tb (qm_fw (7, 142, 2, 5)) := ⟨qm_in1 226 rfl, rfl⟩
theorem fk_8 : qm_Tb (qm_fw (7, 145, 2, 1)) := ⟨qm_in1 214 rfl, rfl⟩
theorem fk_9 : qm_Tb (qm_fw (7, 148, 2, 2)) := ⟨qm_in1 217 rfl, rfl⟩
theorem fk_10 : qm_Tb (qm_fw (7, 151, 2, 3)) := ⟨qm_in1 220 rfl, rfl⟩
theorem fk_11 : qm_Tb (qm_fw (7, 154, 2, 4)) := ⟨qm_in1 223 rfl, rfl⟩
theorem fk_12 : qm_Tb (qm_fw (7, 160, 2, 6)) := ⟨qm_in1 229 rfl, rfl⟩
theorem fk_13 : qm_Tb (qm_fw (7, 163, 3, 10)) := ⟨qm_in1 178 rfl, rfl⟩
theorem fk_14 : qm_Tb (qm_fw (7, 166, 3, 11)) := ⟨qm_in1 181 rfl, rfl⟩
theorem fk_15 : qm_Tb (qm_fw (7, 169, 3, 12)) := ⟨qm_in1 183 rfl, rfl⟩
theorem fk_16 : qm_Tb (qm_fw (7, 40, 1, 7)) := ⟨qm_in2 66 rfl, rfl⟩
theorem fk_17 : qm_Tb (qm_fw (7, 36, 1, 6)) := ⟨qm_in2 65 rfl, rfl⟩
theorem fk_18 : qm_Tb (qm_fw (7, 175, 2, 11)) := ⟨qm_in1 239 rfl, rfl⟩
theorem fk_19 : qm_Tb (qm_fw (7, 32, 1, 5)) := ⟨qm_in2 64 rfl, rfl⟩
theorem fk_20 : qm_Tb (qm_fw (7, 11, 1, 2)) := ⟨qm_in2 61 rfl, rfl⟩
theorem fk_21 : qm_Tb (qm_fw (7, 44, 1, 8)) := ⟨qm_in2 67 rfl, rfl⟩
theorem fk_22 : qm_Tb (qm_fw (7, 181, 6, 4)) := ⟨qm_in1 112 rfl, rfl⟩
theorem fk_23 : qm_Tb (qm_fw (7, 184, 6, 5)) := ⟨qm_in1 114 rfl, rfl⟩
theorem fk_24 : qm_Tb (qm_fw (7, 190, 2, 12)) := ⟨qm_in2 1 rfl, rfl⟩
theorem fk_25 : qm_Tb (qm_fw (7, 25, 1, 4)) := ⟨qm_in2 63 rfl, rfl⟩
theorem fk_26 : qm_Tb (qm_fw (7, 16, 1, 3)) := ⟨qm_in2 62 rfl, rfl⟩
theorem fk_27 : qm_Tb (qm_fw (7, 196, 5, 0)) := ⟨qm_in1 68 rfl, rfl⟩
theorem fk_28 : qm_Tb (qm_fw (7, 202, 4, 6)) := ⟨qm_in1 44 rfl, rfl⟩
theorem fk_29 : qm_Tb (qm_fw (7, 205, 4, 1)) := ⟨qm_in1 35 rfl, rfl⟩
theorem fk_30 : qm_Tb (qm_fw (7, 215, 3, 1)) := ⟨qm_in1 152 rfl, rfl⟩
theorem fk_31 : qm_Tb (qm_fw (7, 218, 3, 2)) := ⟨qm_in1 155 rfl, rfl⟩
theorem fk_32 : qm_Tb (qm_fw (7, 221, 3, 3)) := ⟨qm_in1 158 rfl, rfl⟩
theorem fk_33 : qm_Tb (qm_fw (7, 234, 3, 0)) := ⟨qm_in1 149 rfl, rfl⟩
theorem fk_34 : qm_Tb (qm_fw (7, 241, 3, 7)) := ⟨qm_in1 169 rfl, rfl⟩
theorem fk_35 : qm_Tb (qm_fw (7, 251, 3, 9)) := ⟨qm_in1 175 rfl, rfl⟩
theorem fk_36 : qm_Tb (qm_fw (7, 268, 3, 8)) := ⟨qm_in1 172 rfl, rfl⟩
theorem fk_37 : qm_Tb (qm_fw (7, 91, 1, 11)) := ⟨qm_in2 70 rfl, rfl⟩
theorem fk_38 : qm_Tb (qm_fw (7, 296, 8, 3)) := ⟨qm_in2 45 rfl, rfl⟩
theorem fk_39 : qm_Tb (qm_fw (7, 299, 8, 4)) := ⟨qm_in2 47 rfl, rfl⟩
theorem fk_40 : qm_Tb (qm_fw (7, 302, 8, 2)) := ⟨qm_in2 43 rfl, rfl⟩
theorem fk_41 : qm_Tb (qm_fw (7, 51, 1, 13)) := ⟨qm_in2 72 rfl, rfl⟩
theorem fk_42 : qm_Tb (qm_fw (7, 54, 1, 14)) := ⟨qm_in2 73 rfl, rfl⟩
theorem fk_43 : qm_Tb (qm_fw (7, 81, 1, 9)) := ⟨qm_in2 68 rfl, rfl⟩
theorem fk_44 : qm_Tb (qm_fw (7, 85, 1, 10)) := ⟨qm_in2 69 rfl, rfl⟩
theorem fk_45 : qm_Tb (qm_fw (7, 48, 1, 12)) := ⟨qm_in2 71 rfl, rfl⟩
theorem fk_46 : qm_Tb (qm_fw (7, 347, 2, 9)) := ⟨qm_in1 235 rfl, rfl⟩
theorem fk_47 : qm_Tb (qm_fw (7, 356, 2, 10)) := ⟨qm_in1 237 rfl, rfl⟩
theorem fk_48 : qm_Tb (qm_fw (7, 75, 1, 1)) := ⟨qm_in2 60 rfl, rfl⟩
theorem fk_49 : qm_Tb (qm_fw (8, 7, 9, 0)) := ⟨qm_in4 208 rfl, rfl⟩
theorem fk_50 : qm_Tb (qm_fw (8, 74, 9, 2)) := ⟨qm_in4 210 rfl, rfl⟩
theorem fk_51 : qm_Tb (qm_fw (8, 67, 9, 1)) := ⟨qm_in4 209 rfl, rfl⟩
theorem fk_52 : qm_Tb (qm_fw (8, 16, 9, 4)) := ⟨qm_in4 212 rfl, rfl⟩
theorem fk_53 : qm_Tb (qm_fw (8, 107, 9, 5)) := ⟨qm_in4 213 rfl, rfl⟩
theorem fk_54 : qm_Tb (qm_fw (8, 114, 9, 8)) := ⟨qm_in4 216 rfl, rfl⟩
theorem fk_55 : qm_Tb (qm_fw (8, 120, 9, 9)) := ⟨qm_in4 217 rfl, rfl⟩
theorem fk_56 : qm_Tb (qm_fw (8, 123, 9, 10)) := ⟨qm_in4 218 rfl, rfl⟩
theorem fk_57 : qm_Tb (qm_fw (8, 129, 9, 11)) := ⟨qm_in4 219 rfl, rfl⟩
theorem fk_58 : qm_Tb (qm_fw (8, 136, 9, 12)) := ⟨qm_in4 220 rfl, rfl⟩
theorem fk_59 : qm_Tb (qm_fw (8, 13, 9, 3)) := ⟨qm_in4 211 rfl, rfl⟩
theorem fk_60 : qm_Tb (qm_fw (8, 148, 9, 13)) := ⟨qm_in4 221 rfl, rfl⟩
theorem fk_61 : qm_Tb (qm_fw (8, 151, 9, 15)) := ⟨qm_in4 222 rfl, rfl⟩
theorem fk_62 : qm_Tb (qm_fw (8, 26, 9, 17)) := ⟨qm_in4 223 rfl, rfl⟩
theorem fk_63 : qm_Tb (qm_fw (8, 154, 9, 18)) := ⟨qm_in4 224 rfl, rfl⟩
theorem fk_64 : qm_Tb (qm_fw (8, 163, 9, 19)) := ⟨qm_in4 225 rfl, rfl⟩
theorem fk_65 : qm_Tb (qm_fw (8, 166, 9, 20)) := ⟨qm_in4 226 rfl, rfl⟩
theorem fk_66 : qm_Tb (qm_fw (8, 237, 9, 21)) := ⟨qm_in4 227 rfl, rfl⟩
theorem fk_67 : qm_Tb (qm_fw (8, 252, 9, 22)) := ⟨qm_in4 228 rfl, rfl⟩
theorem fk_68 : qm_Tb (qm_fw (8, 19, 9, 6)) := ⟨qm_in4 214 rfl, rfl⟩
theorem fk_69 : qm_Tb (qm_fw (8, 23, 9, 7)) := ⟨qm_in4 215 rfl, rfl⟩
theorem fk_70 : qm_Tb (qm_fw (8, 32, 9, 24)) := ⟨qm_in4 230 rfl, rfl⟩
theorem fk_71 : qm_Tb (qm_fw (8, 29, 9, 23)) := ⟨qm_in4 229 rfl, rfl⟩
theorem fk_72 : qm_Tb (qm_fw (8, 36, 9, 25)) := ⟨qm_in4 231 rfl, rfl⟩
theorem fk_73 : qm_Tb (qm_fw (8, 40, 9, 26)) := ⟨qm_in4 232 rfl, rfl⟩
theorem fk_74 : qm_Tb (qm_fw (8, 350, 9, 27)) := ⟨qm_in4 233 rfl, rfl⟩
theorem fk_75 : qm_Tb (qm_fw (8, 362, 9, 31)) := ⟨qm_in4 237 rfl, rfl⟩
theorem fk_76 : qm_Tb (qm_fw (8, 49, 9, 30)) := ⟨qm_in4 236 rfl, rfl⟩
theorem fk_77 : qm_Tb (qm_fw (8, 43, 9, 28)) := ⟨qm_in4 234 rfl, rfl⟩
theorem fk_78 : qm_Tb (qm_fw (8, 46, 9, 29)) := ⟨qm_in4 235 rfl, rfl⟩
theorem fk_79 : qm_Tb (qm_fw (8, 55, 9, 33)) := ⟨qm_in4 239 rfl, rfl⟩
theorem fk_80 : qm_Tb (qm_fw (8, 52, 9, 32)) := ⟨qm_in4 238 rfl, rfl⟩
theorem fk_81 : qm_Tb (qm_fw (8, 58, 9, 34)) := ⟨qm_in5 0 rfl, rfl⟩
theorem fk_82 : qm_Tb (qm_fw (8, 61, 9, 35)) := ⟨qm_in5 1 rfl, rfl⟩
theorem fk_83 : qm_Tb (qm_fw (8, 64, 9, 36)) := ⟨qm_in5 2 rfl, rfl⟩
theorem fk_84 : qm_Tb (qm_fw (0, 18, 5, 0)) := ⟨qm_in1 67 rfl, rfl⟩
theorem fk_85 : qm_Tb (qm_fw (0, 43, 3, 2)) := ⟨qm_in1 154 rfl, rfl⟩
theorem fk_86 : qm_Tb (qm_fw (0, 48, 3, 3)) := ⟨qm_in1 157 rfl, rfl⟩
theorem fk_87 : qm_Tb (qm_fw (0, 51, 3, 0)) := ⟨qm_in1 148 rfl, rfl⟩
theorem fk_88 : qm_Tb (qm_fw (0, 55, 3, 10)) := ⟨qm_in1 177 rfl, rfl⟩
theorem fk_89 : qm_Tb (qm_fw (0, 58, 3, 11)) := ⟨qm_in1 180 rfl, rfl⟩
theorem fk_90 : qm_Tb (qm_fw (0, 9, 5, 1)) := ⟨qm_in1 69 rfl, rfl⟩
theorem fk_91 : qm_Tb (qm_fw (0, 65, 3, 8)) := ⟨qm_in1 171 rfl, rfl⟩
theorem fk_92 : qm_Tb (qm_fw (0, 68, 3, 7)) := ⟨qm_in1 168 rfl, rfl⟩
theorem fk_93 : qm_Tb (qm_fw (0, 92, 4, 6)) := ⟨qm_in1 43 rfl, rfl⟩
theorem fk_94 : qm_Tb (qm_fw (0, 95, 4, 1)) := ⟨qm_in1 34 rfl, rfl⟩
theorem fk_95 : qm_Tb (qm_fw (0, 113, 3, 9)) := ⟨qm_in1 174 rfl, rfl⟩
theorem fk_96 : qm_Tb (qm_fw (0, 120, 2, 1)) := ⟨qm_in1 215 rfl, rfl⟩
theorem fk_97 : qm_Tb (qm_fw (0, 125, 2, 2)) := ⟨qm_in1 218 rfl, rfl⟩
theorem fk_98 : qm_Tb (qm_fw (0, 128, 2, 3)) := ⟨qm_in1 221 rfl, rfl⟩
theorem fk_99 : qm_Tb (qm_fw (0, 131, 2, 4)) := ⟨qm_in1 224 rfl, rfl⟩
theorem fk_100 : qm_Tb (qm_fw (0, 140, 3, 4)) := ⟨qm_in1 161 rfl, rfl⟩
theorem fk_101 : qm_Tb (qm_fw (0, 147, 3, 1)) := ⟨qm_in1 151 rfl, rfl⟩
theorem fk_102 : qm_Tb (qm_fw (0, 154, 4, 2)) := ⟨qm_in1 37 rfl, rfl⟩
theorem fk_103 : qm_Tb (qm_fw (0, 157, 4, 3)) := ⟨qm_in1 39 rfl, rfl⟩
theorem fk_104 : qm_Tb (qm_fw (0, 160, 4, 0)) := ⟨qm_in1 32 rfl, rfl⟩
theorem fk_105 : qm_Tb (qm_fw (0, 15, 5, 2)) := ⟨qm_in1 70 rfl, rfl⟩
theorem fk_106 : qm_Tb (qm_fw (1, 9, 3, 1)) := ⟨qm_in1 150 rfl, rfl⟩
theorem fk_107 : qm_Tb (qm_fw (1, 15, 3, 2)) := ⟨qm_in1 153 rfl, rfl⟩
theorem fk_108 : qm_Tb (qm_fw (1, 18, 3, 3)) := ⟨qm_in1 156 rfl, rfl⟩
theorem fk_109 : qm_Tb (qm_fw (1, 21, 3, 4)) := ⟨qm_in1 159 rfl, rfl⟩
theorem fk_110 : qm_Tb (qm_fw (1, 24, 3, 5)) := ⟨qm_in1 162 rfl, rfl⟩
theorem fk_111 : qm_Tb (qm_fw (1, 27, 3, 6)) := ⟨qm_in1 164 rfl, rfl⟩
theorem fk_112 : qm_Tb (qm_fw (1, 30, 3, 7)) := ⟨qm_in1 166 rfl, rfl⟩
theorem fk_113 : qm_Tb (qm_fw (1, 33, 3, 8)) := ⟨qm_in1 170 rfl, rfl⟩
theorem fk_114 : qm_Tb (qm_fw (1, 37, 3, 9)) := ⟨qm_in1 173 rfl, rfl⟩
theorem fk_115 : qm_Tb (qm_fw (1, 40, 3, 10)) := ⟨qm_in1 176 rfl, rfl⟩
theorem fk_116 : qm_Tb (qm_fw (1, 43, 3, 11)) := ⟨qm_in1 179 rfl, rfl⟩
theorem fk_117 : qm_Tb (qm_fw (1, 46, 3, 12)) := ⟨qm_in1 182 rfl, rfl⟩
theorem fk_118 : qm_Tb (qm_fw (1, 49, 3, 0)) := ⟨qm_in1 146 rfl, rfl⟩
theorem fk_119 : qm_Tb (qm_fw (2, 12, 6, 0)) := ⟨qm_in1 107 rfl, rfl⟩
theorem fk_120 : qm_Tb (qm_fw (2, 18, 6, 1)) := ⟨qm_in1 108 rfl, rfl⟩
theorem fk_121 : qm_Tb (qm_fw (2, 22, 6, 2)) := ⟨qm_in1 109 rfl, rfl⟩
theorem fk_122 : qm_Tb (qm_fw (2, 29, 6, 4)) := ⟨qm_in1 111 rfl, rfl⟩
theorem fk_123 : qm_Tb (qm_fw (2, 32, 6, 5)) := ⟨qm_in1 113 rfl, rfl⟩
theorem fk_124 : qm_Tb (qm_fw (2, 52, 7, 3)) := ⟨qm_in1 97 rfl, rfl⟩
theorem fk_125 : qm_Tb (qm_fw (2, 59, 7, 0)) := ⟨qm_in1 91 rfl, rfl⟩
theorem fk_126 : qm_Tb (qm_fw (2, 62, 7, 1)) := ⟨qm_in1 93 rfl, rfl⟩
theorem fk_127 : qm_Tb (qm_fw (2, 65, 7, 2)) := ⟨qm_in1 95 rfl, rfl⟩
theorem fk_128 : qm_Tb (qm_fw (2, 26, 6, 3)) := ⟨qm_in1 110 rfl, rfl⟩
theorem fk_129 : qm_Tb (qm_fw (3, 24, 8, 3)) := ⟨qm_in2 44 rfl, rfl⟩
theorem fk_130 : qm_Tb (qm_fw (3, 28, 8, 4)) := ⟨qm_in2 46 rfl, rfl⟩
theorem fk_131 : qm_Tb (qm_fw (3, 11, 8, 0)) := ⟨qm_in2 40 rfl, rfl⟩
theorem fk_132 : qm_Tb (qm_fw (3, 42, 3, 0)) := ⟨qm_in1 147 rfl, rfl⟩
theorem fk_133 : qm_Tb (qm_fw (3, 45, 3, 7)) := ⟨qm_in1 167 rfl, rfl⟩
theorem fk_134 : qm_Tb (qm_fw (3, 17, 8, 1)) := ⟨qm_in2 41 rfl, rfl⟩
theorem fk_135 : qm_Tb (qm_fw (3, 57, 2, 6)) := ⟨qm_in1 228 rfl, rfl⟩
theorem fk_136 : qm_Tb (qm_fw (3, 21, 8, 2)) := ⟨qm_in2 42 rfl, rfl⟩
theorem fk_137 : qm_Tb (qm_fw (4, 24, 4, 4)) := ⟨qm_in1 40 rfl, rfl⟩
theorem fk_138 : qm_Tb (qm_fw (4, 27, 4, 5)) := ⟨qm_in1 41 rfl, rfl⟩
theorem fk_139 : qm_Tb (qm_fw (4, 31, 4, 6)) := ⟨qm_in1 42 rfl, rfl⟩
theorem fk_140 : qm_Tb (qm_fw (4, 15, 4, 1)) := ⟨qm_in1 33 rfl, rfl⟩
theorem fk_141 : qm_Tb (qm_fw (4, 18, 4, 2)) := ⟨qm_in1 36 rfl, rfl⟩
theorem fk_142 : qm_Tb (qm_fw (4, 21, 4, 3)) := ⟨qm_in1 38 rfl, rfl⟩
theorem fk_143 : qm_Tb (qm_fw (4, 9, 4, 0)) := ⟨qm_in1 31 rfl, rfl⟩
theorem fk_144 : qm_Tb (qm_fw (5, 21, 7, 3)) := ⟨qm_in1 96 rfl, rfl⟩
theorem fk_145 : qm_Tb (qm_fw (5, 9, 7, 0)) := ⟨qm_in1 90 rfl, rfl⟩
theorem fk_146 : qm_Tb (qm_fw (5, 15, 7, 1)) := ⟨qm_in1 92 rfl, rfl⟩
theorem fk_147 : qm_Tb (qm_fw (5, 18, 7, 2)) := ⟨qm_in1 94 rfl, rfl⟩
theorem fk_148 : qm_Tb (qm_fw (6, 55, 2, 0)) := ⟨qm_in1 211 rfl, rfl⟩
theorem fk_149 : qm_Tb (qm_fw (6, 9, 2, 1)) := ⟨qm_in1 213 rfl, rfl⟩
theorem fk_150 : qm_Tb (qm_fw (6, 15, 2, 2)) := ⟨qm_in1 216 rfl, rfl⟩
theorem fk_151 : qm_Tb (qm_fw (6, 18, 2, 3)) := ⟨qm_in1 219 rfl, rfl⟩
theorem fk_152 : qm_Tb (qm_fw (6, 21, 2, 4)) := ⟨qm_in1 222 rfl, rfl⟩
theorem fk_153 : qm_Tb (qm_fw (6, 24, 2, 5)) := ⟨qm_in1 225 rfl, rfl⟩
theorem fk_154 : qm_Tb (qm_fw (6, 28, 2, 6)) := ⟨qm_in1 227 rfl, rfl⟩
theorem fk_155 : qm_Tb (qm_fw (6, 31, 2, 7)) := ⟨qm_in1 230 rfl, rfl⟩
theorem fk_156 : qm_Tb (qm_fw (6, 34, 2, 8)) := ⟨qm_in1 232 rfl, rfl⟩
theorem fk_157 : qm_Tb (qm_fw (6, 37, 2, 9)) := ⟨qm_in1 234 rfl, rfl⟩
theorem fk_158 : qm_Tb (qm_fw (6, 40, 2, 10)) := ⟨qm_in1 236 rfl, rfl⟩
theorem fk_159 : qm_Tb (qm_fw (6, 44, 2, 11)) := ⟨qm_in1 238 rfl, rfl⟩
theorem fk_160 : qm_Tb (qm_fw (6, 47, 2, 12)) := ⟨qm_in2 0 rfl, rfl⟩
set_option maxRecDepth 20000 in
theorem qm_flk_ok : ∀ e ∈ qm_flk, qm_Tb (qm_fw e) := (List.forall_mem_cons.mpr ⟨fk_0, (List.forall_mem_cons.mpr ⟨fk_1, (List.forall_mem_cons.mpr ⟨fk_2, (List.forall_mem_cons.mpr ⟨fk_3, (List.forall_mem_cons.mpr ⟨fk_4, (List.forall_mem_cons.mpr ⟨fk_5, (List.forall_mem_cons.mpr ⟨fk_6, (List.forall_mem_cons.mpr ⟨fk_7, (List.forall_mem_cons.mpr ⟨fk_8, (List.forall_mem_cons.mpr ⟨fk_9, (List.forall_mem_cons.mpr ⟨fk_10, (List.forall_mem_cons.mpr ⟨fk_11, (List.forall_mem_cons.mpr ⟨fk_12, (List.forall_mem_cons.mpr ⟨fk_13, (List.forall_mem_cons.mpr ⟨fk_14, (List.forall_mem_cons.mpr ⟨fk_15, (List.forall_mem_cons.mpr ⟨fk_16, (List.forall_mem_cons.mpr ⟨fk_17, (List.forall_mem_cons.mpr ⟨fk_18, (List.forall_mem_cons.mpr ⟨fk_19, (List.forall_mem_cons.mpr ⟨fk_20, (List.forall_mem_cons.mpr ⟨fk_21, (List.forall_mem_cons.mpr ⟨fk_22, (List.forall_mem_cons.mpr ⟨fk_23, (List.forall_mem_cons.mpr ⟨fk_24, (List.forall_mem_cons.mpr ⟨fk_25, (List.forall_mem_cons.mpr ⟨fk_26, (List.forall_mem_cons.mpr ⟨fk_27, (List.forall_mem_cons.mpr ⟨fk_28, (List.forall_mem_cons.mpr ⟨fk_29, (List.forall_mem_cons.mpr ⟨fk_30, (List.forall_mem_cons.mpr ⟨fk_31, (List.forall_mem_cons.mpr ⟨fk_32, (List.forall_mem_cons.mpr ⟨fk_33, (List.forall_mem_cons.mpr ⟨fk_34, (List.forall_mem_cons.mpr ⟨fk_35, (List.forall_mem_cons.mpr ⟨fk_36, (List.forall_mem_cons.mpr ⟨fk_37, (List.forall_mem_cons.mpr ⟨fk_38, (List.forall_mem_cons.mpr ⟨fk_39, (List.forall_mem_cons.mpr ⟨fk_40, (List.forall_mem_cons.mpr ⟨fk_41, (List.forall_mem_cons.mpr ⟨fk_42, (List.forall_mem_cons.mpr ⟨fk_43, (List.forall_mem_cons.mpr ⟨fk_44, (List.forall_mem_cons.mpr ⟨fk_45, (List.forall_mem_cons.mpr ⟨fk_46, (List.forall_mem_cons.mpr ⟨fk_47, (List.forall_mem_cons.mpr ⟨fk_48, (List.forall_mem_cons.mpr ⟨fk_49, (List.forall_mem_cons.mpr ⟨fk_50, (List.forall_mem_cons.mpr ⟨fk_51, (List.forall_mem_cons.mpr ⟨fk_52, (List.forall_mem_cons.mpr ⟨fk_53, (List.forall_mem_cons.mpr ⟨fk_54, (List.forall_mem_cons.mpr ⟨fk_55, (List.forall_mem_cons.mpr ⟨fk_56, (List.forall_mem_cons.mpr ⟨fk_57, (List.forall_mem_cons.mpr ⟨fk_58, (List.forall_mem_cons.mpr ⟨fk_59, (List.forall_mem_cons.mpr ⟨fk_60, (List.forall_mem_cons.mpr ⟨fk_61, (List.forall_mem_cons.mpr ⟨fk_62, (List.forall_mem_cons.mpr ⟨fk_63, (List.forall_mem_cons.mpr ⟨fk_64, (List.forall_mem_cons.mpr ⟨fk_65, (List.forall_mem_cons.mpr ⟨fk_66, (List.forall_mem_cons.mpr ⟨fk_67, (List.forall_mem_cons.mpr ⟨fk_68, (List.forall_mem_cons.mpr ⟨fk_69, (List.forall_mem_cons.mpr ⟨fk_70, (List.forall_mem_cons.mpr ⟨fk_71, (List.forall_mem_cons.mpr ⟨fk_72, (List.forall_mem_cons.mpr ⟨fk_73, (List.forall_mem_cons.mpr ⟨fk_74, (List.forall_mem_cons.mpr ⟨fk_75, (List.forall_mem_cons.mpr ⟨fk_76, (List.forall_mem_cons.mpr ⟨fk_77, (List.forall_mem_cons.mpr ⟨fk_78, (List.forall_mem_cons.mpr ⟨fk_79, (List.forall_mem_cons.mpr ⟨fk_80, (List.forall_mem_cons.mpr ⟨fk_81, (List.forall_mem_cons.mpr ⟨fk_82, (List.forall_mem_cons.mpr ⟨fk_83, (List.forall_mem_cons.mpr ⟨fk_84, (List.forall_mem_cons.mpr ⟨fk_85, (List.forall_mem_cons.mpr ⟨fk_86, (List.forall_mem_cons.mpr ⟨fk_87, (List.forall_mem_cons.mpr ⟨fk_88, (List.forall_mem_cons.mpr ⟨fk_89, (List.forall_mem_cons.mpr ⟨fk_90, (List.forall_mem_cons.mpr ⟨fk_91, (List.forall_mem_cons.mpr ⟨fk_92, (List.forall_mem_cons.mpr ⟨fk_93, (List.forall_mem_cons.mpr ⟨fk_94, (List.forall_mem_cons.mpr ⟨fk_95, (List.forall_mem_cons.mpr ⟨fk_96, (List.forall_mem_cons.mpr ⟨fk_97, (List.forall_mem_cons.mpr ⟨fk_98, (List.forall_mem_cons.mpr ⟨fk_99, (List.forall_mem_cons.mpr ⟨fk_100, (List.forall_mem_cons.mpr ⟨fk_101, (List.forall_mem_cons.mpr ⟨fk_102, (List.forall_mem_cons.mpr ⟨fk_103, (List.forall_mem_cons.mpr ⟨fk_104, (List.forall_mem_cons.mpr ⟨fk_105, (List.forall_mem_cons.mpr ⟨fk_106, (List.forall_mem_cons.mpr ⟨fk_107, (List.forall_mem_cons.mpr ⟨fk_108, (List.forall_mem_cons.mpr ⟨fk_109, (List.forall_mem_cons.mpr ⟨fk_110, (List.forall_mem_cons.mpr ⟨fk_111, (List.forall_mem_cons.mpr ⟨fk_112, (List.forall_mem_cons.mpr ⟨fk_113, (List.forall_mem_cons.mpr ⟨fk_114, (List.forall_mem_cons.mpr ⟨fk_115, (List.forall_mem_cons.mpr ⟨fk_116, (List.forall_mem_cons.mpr ⟨fk_117, (List.forall_mem_cons.mpr ⟨fk_118, (List.forall_mem_cons.mpr ⟨fk_119, (List.forall_mem_cons.mpr ⟨fk_120, (List.forall_mem_cons.mpr ⟨fk_121, (List.forall_mem_cons.mpr ⟨fk_122, (List.forall_mem_cons.mpr ⟨fk_123, (List.forall_mem_cons.mpr ⟨fk_124, (List.forall_mem_cons.mpr ⟨fk_125, (List.forall_mem_cons.mpr ⟨fk_126, (List.forall_mem_cons.mpr ⟨fk_127, (List.forall_mem_cons.mpr ⟨fk_128, (List.forall_mem_cons.mpr ⟨fk_129, (List.forall_mem_cons.mpr ⟨fk_130, (List.forall_mem_cons.mpr ⟨fk_131, (List.forall_mem_cons.mpr ⟨fk_132, (List.forall_mem_cons.mpr ⟨fk_133, (List.forall_mem_cons.mpr ⟨fk_134, (List.forall_mem_cons.mpr ⟨fk_135, (List.forall_mem_cons.mpr ⟨fk_136, (List.forall_mem_cons.mpr ⟨fk_137, (List.forall_mem_cons.mpr ⟨fk_138, (List.forall_mem_cons.mpr ⟨fk_139, (List.forall_mem_cons.mpr ⟨fk_140, (List.forall_mem_cons.mpr ⟨fk_141, (List.forall_mem_cons.mpr ⟨fk_142, (List.forall_mem_cons.mpr ⟨fk_143, (List.forall_mem_cons.mpr ⟨fk_144, (List.forall_mem_cons.mpr ⟨fk_145, (List.forall_mem_cons.mpr ⟨fk_146, (List.forall_mem_cons.mpr ⟨fk_147, (List.forall_mem_cons.mpr ⟨fk_148, (List.forall_mem_cons.mpr ⟨fk_149, (List.forall_mem_cons.mpr ⟨fk_150, (List.forall_mem_cons.mpr ⟨fk_151, (List.forall_mem_cons.mpr ⟨fk_152, (List.forall_mem_cons.mpr ⟨fk_153, (List.forall_mem_cons.mpr ⟨fk_154, (List.forall_mem_cons.mpr ⟨fk_155, (List.forall_mem_cons.mpr ⟨fk_156, (List.forall_mem_cons.mpr ⟨fk_157, (List.forall_mem_cons.mpr ⟨fk_158, (List.forall_mem_cons.mpr ⟨fk_159, (List.forall_mem_cons.mpr ⟨fk_160, (fun _ h => absurd h List.not_mem_nil)⟩)⟩)⟩)⟩)⟩)⟩)⟩)⟩)⟩)⟩)⟩)⟩)⟩)⟩)⟩)⟩)⟩)⟩)⟩)⟩)⟩)⟩)⟩)⟩)⟩)⟩)⟩)⟩)⟩)⟩)⟩)⟩)⟩)⟩)⟩)⟩)⟩)⟩)⟩)⟩)⟩)⟩)⟩)⟩)⟩)⟩)⟩)⟩)⟩)⟩)⟩)⟩)⟩)⟩)⟩)⟩)⟩)⟩)⟩)⟩)⟩)⟩)⟩)⟩)⟩)⟩)⟩)⟩)⟩)⟩)⟩)⟩)⟩)⟩)⟩)⟩)⟩)⟩)⟩)⟩)⟩)⟩)⟩)⟩)⟩)⟩)⟩)⟩)⟩)⟩)⟩)⟩)⟩)⟩)⟩)⟩)⟩)⟩)⟩)⟩)⟩)⟩)⟩)⟩)⟩)⟩)⟩)⟩)⟩)⟩)⟩)⟩)⟩)⟩)⟩)⟩)⟩)⟩)⟩)⟩)⟩)⟩)⟩)⟩)⟩)⟩)⟩)⟩)⟩)⟩)⟩)⟩)⟩)⟩)⟩)⟩)⟩)⟩)⟩)⟩)⟩)⟩)⟩)⟩)⟩)⟩)⟩)⟩)⟩)⟩)⟩)⟩)⟩)⟩)⟩)⟩)⟩)⟩)⟩)⟩)⟩)
theorem mk_0 : qm_ML (7, 95, 49, 1, 1) := ⟨⟨⟨qm_in2 109 rfl, rfl⟩, ⟨qm_in2 110 rfl, rfl⟩⟩, ⟨qm_in1 1 rfl, rfl⟩⟩
theorem mk_1 : qm_ML (7, 99, 53, 1, 3) := ⟨⟨⟨qm_in2 112 rfl, rfl⟩, ⟨qm_in2 113 rfl, rfl⟩⟩, ⟨qm_in1 1 rfl, rfl⟩⟩
theorem mk_2 : qm_ML (7, 103, 50, 1, 1) := ⟨⟨⟨qm_in2 115 rfl, rfl⟩, ⟨qm_in2 116 rfl, rfl⟩⟩, ⟨qm_in1 1 rfl, rfl⟩⟩
theorem mk_3 : qm_ML (7, 109, 185, 0, 0) := ⟨⟨⟨qm_in2 118 rfl, rfl⟩, ⟨qm_in2 119 rfl, rfl⟩, ⟨qm_in2 120 rfl, rfl⟩⟩, ⟨qm_in1 8 rfl, rfl⟩⟩
theorem mk_4 : qm_ML (7, 113, 188, 0, 4) := ⟨⟨⟨qm_in2 122 rfl, rfl⟩, ⟨qm_in2 123 rfl, rfl⟩, ⟨qm_in2 124 rfl, rfl⟩⟩, ⟨qm_in1 8 rfl, rfl⟩⟩
theorem mk_5 : qm_ML (7, 117, 186, 0, 2) := ⟨⟨⟨qm_in2 134 rfl, rfl⟩, ⟨qm_in2 135 rfl, rfl⟩, ⟨qm_in2 136 rfl, rfl⟩⟩, ⟨qm_in1 8 rfl, rfl⟩⟩
theorem mk_6 : qm_ML (7, 124, 54, 1, 2) := ⟨⟨⟨qm_in2 138 rfl, rfl⟩, ⟨qm_in2 128 rfl, rfl⟩⟩, ⟨qm_in1 1 rfl, rfl⟩⟩
theorem mk_7 : qm_ML (7, 127, 51, 1, 2) := ⟨⟨⟨qm_in2 143 rfl, rfl⟩, ⟨qm_in2 144 rfl, rfl⟩⟩, ⟨qm_in1 1 rfl, rfl⟩⟩
theorem mk_8 : qm_ML (7, 157, 47, 0, 1) := ⟨⟨⟨qm_in2 158 rfl, rfl⟩, ⟨qm_in2 160 rfl, rfl⟩, ⟨qm_in0 0 rfl, rfl⟩⟩, ⟨qm_in1 1 rfl, rfl⟩⟩
theorem mk_9 : qm_ML (7, 172, 9, 0, 1) := ⟨⟨⟨qm_in2 170 rfl, rfl⟩, ⟨qm_in2 172 rfl, rfl⟩, ⟨qm_in0 1 rfl, rfl⟩⟩, ⟨qm_in1 1 rfl, rfl⟩⟩
theorem mk_10 : qm_ML (7, 177, 199, 0, 3) := ⟨⟨⟨qm_in2 182 rfl, rfl⟩, ⟨qm_in2 183 rfl, rfl⟩, ⟨qm_in2 184 rfl, rfl⟩⟩, ⟨qm_in1 4 rfl, rfl⟩⟩
theorem mk_11 : qm_ML (7, 187, 48, 0, 1) := ⟨⟨⟨qm_in3 126 rfl, rfl⟩, ⟨qm_in3 128 rfl, rfl⟩, ⟨qm_in0 22 rfl, rfl⟩⟩, ⟨qm_in1 1 rfl, rfl⟩⟩
theorem mk_12 : qm_ML (7, 193, 14, 0, 0) := ⟨⟨⟨qm_in3 130 rfl, rfl⟩, ⟨qm_in3 132 rfl, rfl⟩, ⟨qm_in0 23 rfl, rfl⟩⟩, ⟨qm_in1 1 rfl, rfl⟩⟩
theorem mk_13 : qm_ML (7, 199, 187, 0, 0) := ⟨⟨⟨qm_in3 138 rfl, rfl⟩, ⟨qm_in3 139 rfl, rfl⟩, ⟨qm_in3 140 rfl, rfl⟩⟩, ⟨qm_in1 8 rfl, rfl⟩⟩
theorem mk_14 : qm_ML (7, 208, 16, 0, 2) := ⟨⟨⟨qm_in3 142 rfl, rfl⟩, ⟨qm_in3 144 rfl, rfl⟩, ⟨qm_in0 24 rfl, rfl⟩⟩, ⟨qm_in1 1 rfl, rfl⟩⟩
theorem mk_15 : qm_ML (7, 212, 226, 0, 2) := ⟨⟨⟨qm_in3 146 rfl, rfl⟩, ⟨qm_in3 147 rfl, rfl⟩, ⟨qm_in3 148 rfl, rfl⟩⟩, ⟨qm_in1 2 rfl, rfl⟩⟩
theorem mk_16 : qm_ML (7, 224, 166, 0, 3) := ⟨⟨⟨qm_in3 154 rfl, rfl⟩, ⟨qm_in3 155 rfl, rfl⟩, ⟨qm_in3 156 rfl, rfl⟩⟩, ⟨qm_in1 3 rfl, rfl⟩⟩
theorem mk_17 : qm_ML (7, 228, 167, 0, 3) := ⟨⟨⟨qm_in3 203 rfl, rfl⟩, ⟨qm_in3 204 rfl, rfl⟩, ⟨qm_in3 205 rfl, rfl⟩⟩, ⟨qm_in1 3 rfl, rfl⟩⟩
theorem mk_18 : qm_ML (7, 231, 52, 1, 1) := ⟨⟨⟨qm_in3 207 rfl, rfl⟩, ⟨qm_in3 208 rfl, rfl⟩⟩, ⟨qm_in1 1 rfl, rfl⟩⟩
theorem mk_19 : qm_ML (7, 237, 170, 0, 2) := ⟨⟨⟨qm_in3 214 rfl, rfl⟩, ⟨qm_in3 215 rfl, rfl⟩, ⟨qm_in3 216 rfl, rfl⟩⟩, ⟨qm_in1 3 rfl, rfl⟩⟩
theorem mk_20 : qm_ML (7, 244, 171, 0, 1) := ⟨⟨⟨qm_in3 219 rfl, rfl⟩, ⟨qm_in3 220 rfl, rfl⟩, ⟨qm_in3 221 rfl, rfl⟩⟩, ⟨qm_in1 3 rfl, rfl⟩⟩
theorem mk_21 : qm_ML (7, 248, 169, 0, 1) := ⟨⟨⟨qm_in3 224 rfl, rfl⟩, ⟨qm_in3 225 rfl, rfl⟩, ⟨qm_in3 226 rfl, rfl⟩⟩, ⟨qm_in1 3 rfl, rfl⟩⟩
theorem mk_22 : qm_ML (7, 254, 192, 0, 0) := ⟨⟨⟨qm_in3 233 rfl, rfl⟩, ⟨qm_in3 234 rfl, rfl⟩, ⟨qm_in3 235 rfl, rfl⟩⟩, ⟨qm_in1 8 rfl, rfl⟩⟩
theorem mk_23 : qm_ML (7, 258, 193, 0, 0) := ⟨⟨⟨qm_in3 237 rfl, rfl⟩, ⟨qm_in3 238 rfl, rfl⟩, ⟨qm_in3 239 rfl, rfl⟩⟩, ⟨qm_in1 8 rfl, rfl⟩⟩
theorem mk_24 : qm_ML (7, 261, 172, 0, 1) := ⟨⟨⟨qm_in4 2 rfl, rfl⟩, ⟨qm_in4 3 rfl, rfl⟩, ⟨qm_in4 4 rfl, rfl⟩⟩, ⟨qm_in1 3 rfl, rfl⟩⟩
theorem mk_25 : qm_ML (7, 264, 173, 0, 1) := ⟨⟨⟨qm_in4 8 rfl, rfl⟩, ⟨qm_in4 9 rfl, rfl⟩, ⟨qm_in4 10 rfl, rfl⟩⟩, ⟨qm_in1 3 rfl, rfl⟩⟩
theorem mk_26 : qm_ML (7, 271, 175, 0, 3) := ⟨⟨⟨qm_in4 21 rfl, rfl⟩, ⟨qm_in4 22 rfl, rfl⟩, ⟨qm_in4 23 rfl, rfl⟩⟩, ⟨qm_in1 3 rfl, rfl⟩⟩
theorem mk_27 : qm_ML (7, 275, 21, 0, 0) := ⟨⟨⟨qm_in4 41 rfl, rfl⟩, ⟨qm_in4 43 rfl, rfl⟩, ⟨qm_in0 30 rfl, rfl⟩⟩, ⟨qm_in1 1 rfl, rfl⟩⟩
theorem mk_28 : qm_ML (7, 278, 168, 0, 3) := ⟨⟨⟨qm_in4 45 rfl, rfl⟩, ⟨qm_in4 46 rfl, rfl⟩, ⟨qm_in4 47 rfl, rfl⟩⟩, ⟨qm_in1 3 rfl, rfl⟩⟩
theorem mk_29 : qm_ML (7, 281, 189, 0, 2) := ⟨⟨⟨qm_in4 49 rfl, rfl⟩, ⟨qm_in4 50 rfl, rfl⟩, ⟨qm_in4 51 rfl, rfl⟩⟩, ⟨qm_in1 8 rfl, rfl⟩⟩
theorem mk_30 : qm_ML (7, 285, 46, 0, 1) := ⟨⟨⟨qm_in4 62 rfl, rfl⟩, ⟨qm_in4 64 rfl, rfl⟩, ⟨qm_in0 32 rfl, rfl⟩⟩, ⟨qm_in1 1 rfl, rfl⟩⟩
theorem mk_31 : qm_ML (7, 288, 218, 0, 1) := ⟨⟨⟨qm_in4 66 rfl, rfl⟩, ⟨qm_in4 67 rfl, rfl⟩, ⟨qm_in4 68 rfl, rfl⟩⟩, ⟨qm_in1 9 rfl, rfl⟩⟩
theorem mk_32 : qm_ML (7, 292, 219, 2, 5) := ⟨⟨List.mem_of_getElem? (i := 0) rfl, ⟨qm_in4 79 rfl, rfl⟩, ⟨qm_in0 33 rfl, rfl⟩⟩, ⟨qm_in1 9 rfl, rfl⟩⟩
theorem mk_33 : qm_ML (7, 305, 24, 0, 2) := ⟨⟨⟨qm_in4 94 rfl, rfl⟩, ⟨qm_in4 96 rfl, rfl⟩, ⟨qm_in0 35 rfl, rfl⟩⟩, ⟨qm_in1 1 rfl, rfl⟩⟩
theorem mk_34 : qm_ML (7, 308, 25, 1, 1) := ⟨⟨⟨qm_in4 103 rfl, rfl⟩, ⟨qm_in4 104 rfl, rfl⟩⟩, ⟨qm_in1 1 rfl, rfl⟩⟩
theorem mk_35 : qm_ML (7, 312, 26, 0, 2) := ⟨⟨⟨qm_in4 106 rfl, rfl⟩, ⟨qm_in4 108 rfl, rfl⟩, ⟨qm_in0 36 rfl, rfl⟩⟩, ⟨qm_in1 1 rfl, rfl⟩⟩
theorem mk_36 : qm_ML (7, 315, 184, 0, 1) := ⟨⟨⟨qm_in4 98 rfl, rfl⟩, ⟨qm_in4 71 rfl, rfl⟩, ⟨qm_in4 72 rfl, rfl⟩⟩, ⟨qm_in1 8 rfl, rfl⟩⟩
theorem mk_37 : qm_ML (7, 318, 191, 0, 1) := ⟨⟨⟨qm_in4 99 rfl, rfl⟩, ⟨qm_in4 100 rfl, rfl⟩, ⟨qm_in4 101 rfl, rfl⟩⟩, ⟨qm_in1 8 rfl, rfl⟩⟩
theorem mk_38 : qm_ML (7, 321, 45, 0, 1) := ⟨⟨⟨qm_in4 114 rfl, rfl⟩, ⟨qm_in4 116 rfl, rfl⟩, ⟨qm_in0 37 rfl, rfl⟩⟩, ⟨qm_in1 1 rfl, rfl⟩⟩
theorem mk_39 : qm_ML (7, 324, 29, 0, 1) := ⟨⟨⟨qm_in4 118 rfl, rfl⟩, ⟨qm_in4 120 rfl, rfl⟩, ⟨qm_in0 38 rfl, rfl⟩⟩, ⟨qm_in1 1 rfl, rfl⟩⟩
theorem mk_40 : qm_ML (7, 327, 30, 0, 1) := ⟨⟨⟨qm_in4 122 rfl, rfl⟩, ⟨qm_in4 124 rfl, rfl⟩, ⟨qm_in0 39 rfl, rfl⟩⟩, ⟨qm_in1 1 rfl, rfl⟩⟩
theorem mk_41 : qm_ML (7, 331, 31, 0, 1) := ⟨⟨⟨qm_in4 126 rfl, rfl⟩, ⟨qm_in4 128 rfl, rfl⟩, ⟨qm_in0 40 rfl, rfl⟩⟩, ⟨qm_in1 1 rfl, rfl⟩⟩
theorem mk_42 : qm_ML (7, 334, 32, 0, 0) := ⟨⟨⟨qm_in4 134 rfl, rfl⟩, ⟨qm_in4 136 rfl, rfl⟩, ⟨qm_in0 41 rfl, rfl⟩⟩, ⟨qm_in1 1 rfl, rfl⟩⟩
theorem mk_43 : qm_ML (7, 337, 176, 0, 3) := ⟨⟨⟨qm_in4 142 rfl, rfl⟩, ⟨qm_in4 26 rfl, rfl⟩, ⟨qm_in4 27 rfl, rfl⟩⟩, ⟨qm_in1 3 rfl, rfl⟩⟩
theorem mk_44 : qm_ML (7, 341, 35, 0, 0) := ⟨⟨⟨qm_in4 148 rfl, rfl⟩, ⟨qm_in4 150 rfl, rfl⟩, ⟨qm_in0 42 rfl, rfl⟩⟩, ⟨qm_in1 1 rfl, rfl⟩⟩
theorem mk_45 : qm_ML (7, 344, 36, 0, 1) := ⟨⟨⟨qm_in4 152 rfl, rfl⟩, ⟨qm_in4 154 rfl, rfl⟩, ⟨qm_in0 43 rfl, rfl⟩⟩, ⟨qm_in1 1 rfl, rfl⟩⟩
theorem mk_46 : qm_ML (7, 359, 39, 0, 1) := ⟨⟨⟨qm_in4 165 rfl, rfl⟩, ⟨qm_in4 167 rfl, rfl⟩, ⟨qm_in0 44 rfl, rfl⟩⟩, ⟨qm_in1 1 rfl, rfl⟩⟩
theorem mk_47 : qm_ML (7, 362, 41, 0, 2) := ⟨⟨⟨qm_in4 173 rfl, rfl⟩, ⟨qm_in4 175 rfl, rfl⟩, ⟨qm_in0 45 rfl, rfl⟩⟩, ⟨qm_in1 1 rfl, rfl⟩⟩
theorem mk_48 : qm_ML (7, 365, 239, 0, 1) := ⟨⟨⟨qm_in4 181 rfl, rfl⟩, ⟨qm_in4 182 rfl, rfl⟩, ⟨qm_in4 183 rfl, rfl⟩⟩, ⟨qm_in1 7 rfl, rfl⟩⟩
theorem mk_49 : qm_ML (8, 77, 57, 1, 3) := ⟨⟨⟨qm_in5 88 rfl, rfl⟩, ⟨qm_in5 89 rfl, rfl⟩⟩, ⟨qm_in1 10 rfl, rfl⟩⟩
theorem mk_50 : qm_ML (8, 81, 61, 0, 1) := ⟨⟨⟨qm_in5 84 rfl, rfl⟩, ⟨qm_in5 86 rfl, rfl⟩, ⟨qm_in0 47 rfl, rfl⟩⟩, ⟨qm_in1 10 rfl, rfl⟩⟩
theorem mk_51 : qm_ML (8, 85, 59, 0, 1) := ⟨⟨⟨qm_in5 91 rfl, rfl⟩, ⟨qm_in5 93 rfl, rfl⟩, ⟨qm_in0 48 rfl, rfl⟩⟩, ⟨qm_in1 10 rfl, rfl⟩⟩
theorem mk_52 : qm_ML (8, 89, 65, 0, 4) := ⟨⟨⟨qm_in5 95 rfl, rfl⟩, ⟨qm_in5 97 rfl, rfl⟩, ⟨qm_in0 49 rfl, rfl⟩⟩, ⟨qm_in1 10 rfl, rfl⟩⟩
theorem mk_53 : qm_ML (8, 93, 60, 0, 2) := ⟨⟨⟨qm_in5 99 rfl, rfl⟩, ⟨qm_in5 101 rfl, rfl⟩, ⟨qm_in0 50 rfl, rfl⟩⟩, ⟨qm_in1 10 rfl, rfl⟩⟩
theorem mk_54 : qm_ML (8, 97, 62, 0, 2) := ⟨⟨⟨qm_in5 107 rfl, rfl⟩, ⟨qm_in5 109 rfl, rfl⟩, ⟨qm_in0 51 rfl, rfl⟩⟩, ⟨qm_in1 10 rfl, rfl⟩⟩
theorem mk_55 : qm_ML (8, 101, 67, 1, 2) := ⟨⟨⟨qm_in5 115 rfl, rfl⟩, ⟨qm_in5 116 rfl, rfl⟩⟩, ⟨qm_in1 10 rfl, rfl⟩⟩
theorem mk_56 : qm_ML (8, 104, 71, 0, 1) := ⟨⟨⟨qm_in5 130 rfl, rfl⟩, ⟨qm_in5 132 rfl, rfl⟩, ⟨qm_in0 52 rfl, rfl⟩⟩, ⟨qm_in1 10 rfl, rfl⟩⟩
theorem mk_57 : qm_ML (8, 110, 74, 0, 1) := ⟨⟨⟨qm_in5 142 rfl, rfl⟩, ⟨qm_in5 144 rfl, rfl⟩, ⟨qm_in0 53 rfl, rfl⟩⟩, ⟨qm_in1 10 rfl, rfl⟩⟩
theorem mk_58 : qm_ML (8, 117, 77, 0, 1) := ⟨⟨⟨qm_in5 162 rfl, rfl⟩, ⟨qm_in5 164 rfl, rfl⟩, ⟨qm_in0 56 rfl, rfl⟩⟩, ⟨qm_in1 10 rfl, rfl⟩⟩
theorem mk_59 : qm_ML (8, 126, 79, 1, 1) := ⟨⟨⟨qm_in5 166 rfl, rfl⟩, ⟨qm_in5 167 rfl, rfl⟩⟩, ⟨qm_in1 10 rfl, rfl⟩⟩
theorem mk_60 : qm_ML (8, 133, 78, 1, 1) := ⟨⟨⟨qm_in5 170 rfl, rfl⟩, ⟨qm_in5 171 rfl, rfl⟩⟩, ⟨qm_in1 10 rfl, rfl⟩⟩
theorem mk_61 : qm_ML (8, 140, 81, 1, 3) := ⟨⟨⟨qm_in5 181 rfl, rfl⟩, ⟨qm_in5 182 rfl, rfl⟩⟩, ⟨qm_in1 10 rfl, rfl⟩⟩
theorem mk_62 : qm_ML (8, 144, 82, 1, 5) := ⟨⟨⟨qm_in5 188 rfl, rfl⟩, ⟨qm_in5 189 rfl, rfl⟩⟩, ⟨qm_in1 10 rfl, rfl⟩⟩
theorem mk_63 : qm_ML (8, 157, 88, 1, 1) := ⟨⟨⟨qm_in5 230 rfl, rfl⟩, ⟨qm_in5 231 rfl, rfl⟩⟩, ⟨qm_in1 10 rfl, rfl⟩⟩
theorem mk_64 : qm_ML (8, 160, 86, 0, 2) := ⟨⟨⟨qm_in6 2 rfl, rfl⟩, ⟨qm_in6 4 rfl, rfl⟩, ⟨qm_in0 70 rfl, rfl⟩⟩, ⟨qm_in1 10 rfl, rfl⟩⟩
theorem mk_65 : qm_ML (8, 170, 89, 0, 1) := ⟨⟨⟨qm_in5 238 rfl, rfl⟩, ⟨qm_in6 0 rfl, rfl⟩, ⟨qm_in0 69 rfl, rfl⟩⟩, ⟨qm_in1 10 rfl, rfl⟩⟩
theorem mk_66 : qm_ML (8, 173, 91, 0, 0) := ⟨⟨⟨qm_in5 222 rfl, rfl⟩, ⟨qm_in5 224 rfl, rfl⟩, ⟨qm_in0 66 rfl, rfl⟩⟩, ⟨qm_in1 10 rfl, rfl⟩⟩
theorem mk_67 : qm_ML (8, 177, 80, 0, 0) := ⟨⟨⟨qm_in5 158 rfl, rfl⟩, ⟨qm_in5 160 rfl, rfl⟩, ⟨qm_in0 55 rfl, rfl⟩⟩, ⟨qm_in1 10 rfl, rfl⟩⟩
theorem mk_68 : qm_ML (8, 180, 87, 0, 1) := ⟨⟨⟨qm_in6 6 rfl, rfl⟩, ⟨qm_in6 8 rfl, rfl⟩, ⟨qm_in0 71 rfl, rfl⟩⟩, ⟨qm_in1 10 rfl, rfl⟩⟩
theorem mk_69 : qm_ML (8, 183, 101, 0, 0) := ⟨⟨⟨qm_in6 18 rfl, rfl⟩, ⟨qm_in6 20 rfl, rfl⟩, ⟨qm_in0 74 rfl, rfl⟩⟩, ⟨qm_in1 10 rfl, rfl⟩⟩
theorem mk_70 : qm_ML (8, 186, 103, 0, 1) := ⟨⟨⟨qm_in6 29 rfl, rfl⟩, ⟨qm_in6 31 rfl, rfl⟩, ⟨qm_in0 76 rfl, rfl⟩⟩, ⟨qm_in1 10 rfl, rfl⟩⟩
theorem mk_71 : qm_ML (8, 189, 90, 0, 0) := ⟨⟨⟨qm_in6 10 rfl, rfl⟩, ⟨qm_in6 12 rfl, rfl⟩, ⟨qm_in0 72 rfl, rfl⟩⟩, ⟨qm_in1 10 rfl, rfl⟩⟩
theorem mk_72 : qm_ML (8, 192, 94, 0, 1) := ⟨⟨⟨qm_in6 33 rfl, rfl⟩, ⟨qm_in6 35 rfl, rfl⟩, ⟨qm_in0 77 rfl, rfl⟩⟩, ⟨qm_in1 10 rfl, rfl⟩⟩
theorem mk_73 : qm_ML (8, 195, 85, 0, 1) := ⟨⟨⟨qm_in5 184 rfl, rfl⟩, ⟨qm_in5 186 rfl, rfl⟩, ⟨qm_in0 59 rfl, rfl⟩⟩, ⟨qm_in1 10 rfl, rfl⟩⟩
theorem mk_74 : qm_ML (8, 199, 93, 0, 1) := ⟨⟨⟨qm_in6 37 rfl, rfl⟩, ⟨qm_in6 39 rfl, rfl⟩, ⟨qm_in0 78 rfl, rfl⟩⟩, ⟨qm_in1 10 rfl, rfl⟩⟩
theorem mk_75 : qm_ML (8, 203, 92, 0, 0) := ⟨⟨⟨qm_in5 226 rfl, rfl⟩, ⟨qm_in5 228 rfl, rfl⟩, ⟨qm_in0 67 rfl, rfl⟩⟩, ⟨qm_in1 10 rfl, rfl⟩⟩
theorem mk_76 : qm_ML (8, 207, 96, 0, 0) := ⟨⟨⟨qm_in5 233 rfl, rfl⟩, ⟨qm_in5 235 rfl, rfl⟩, ⟨qm_in0 68 rfl, rfl⟩⟩, ⟨qm_in1 10 rfl, rfl⟩⟩
theorem mk_77 : qm_ML (8, 212, 97, 0, 1) := ⟨⟨⟨qm_in5 218 rfl, rfl⟩, ⟨qm_in5 220 rfl, rfl⟩, ⟨qm_in0 65 rfl, rfl⟩⟩, ⟨qm_in1 10 rfl, rfl⟩⟩
theorem mk_78 : qm_ML (8, 216, 98, 0, 1) := ⟨⟨⟨qm_in5 214 rfl, rfl⟩, ⟨qm_in5 216 rfl, rfl⟩, ⟨qm_in0 64 rfl, rfl⟩⟩, ⟨qm_in1 10 rfl, rfl⟩⟩
theorem mk_79 : qm_ML (8, 219, 95, 0, 1) := ⟨⟨⟨qm_in6 14 rfl, rfl⟩, ⟨qm_in6 16 rfl, rfl⟩, ⟨qm_in0 73 rfl, rfl⟩⟩, ⟨qm_in1 10 rfl, rfl⟩⟩
theorem mk_80 : qm_ML (8, 222, 84, 1, 6) := ⟨⟨⟨qm_in5 194 rfl, rfl⟩, ⟨qm_in5 195 rfl, rfl⟩⟩, ⟨qm_in1 10 rfl, rfl⟩⟩
theorem mk_81 : qm_ML (8, 226, 83, 1, 4) := ⟨⟨⟨qm_in5 191 rfl, rfl⟩, ⟨qm_in5 192 rfl, rfl⟩⟩, ⟨qm_in1 10 rfl, rfl⟩⟩
theorem mk_82 : qm_ML (8, 230, 102, 0, 0) := ⟨⟨⟨qm_in6 22 rfl, rfl⟩, ⟨qm_in6 24 rfl, rfl⟩, ⟨qm_in0 75 rfl, rfl⟩⟩, ⟨qm_in1 10 rfl, rfl⟩⟩
theorem mk_83 : qm_ML (8, 233, 100, 1, 7) := ⟨⟨⟨qm_in6 26 rfl, rfl⟩, ⟨qm_in6 27 rfl, rfl⟩⟩, ⟨qm_in1 10 rfl, rfl⟩⟩
theorem mk_84 : qm_ML (8, 240, 105, 0, 3) := ⟨⟨⟨qm_in5 201 rfl, rfl⟩, ⟨qm_in5 203 rfl, rfl⟩, ⟨qm_in0 61 rfl, rfl⟩⟩, ⟨qm_in1 10 rfl, rfl⟩⟩
theorem mk_85 : qm_ML (8, 244, 106, 0, 1) := ⟨⟨⟨qm_in5 205 rfl, rfl⟩, ⟨qm_in5 207 rfl, rfl⟩, ⟨qm_in0 62 rfl, rfl⟩⟩, ⟨qm_in1 10 rfl, rfl⟩⟩
theorem mk_86 : qm_ML (8, 249, 104, 0, 0) := ⟨⟨⟨qm_in5 177 rfl, rfl⟩, ⟨qm_in5 179 rfl, rfl⟩, ⟨qm_in0 58 rfl, rfl⟩⟩, ⟨qm_in1 10 rfl, rfl⟩⟩
theorem mk_87 : qm_ML (8, 255, 107, 0, 1) := ⟨⟨⟨qm_in5 197 rfl, rfl⟩, ⟨qm_in5 199 rfl, rfl⟩, ⟨qm_in0 60 rfl, rfl⟩⟩, ⟨qm_in1 10 rfl, rfl⟩⟩
theorem mk_88 : qm_ML (8, 258, 99, 0, 1) := ⟨⟨⟨qm_in5 210 rfl, rfl⟩, ⟨qm_in5 212 rfl, rfl⟩, ⟨qm_in0 63 rfl, rfl⟩⟩, ⟨qm_in1 10 rfl, rfl⟩⟩
theorem mk_89 : qm_ML (8, 261, 108, 0, 0) := ⟨⟨⟨qm_in5 173 rfl, rfl⟩, ⟨qm_in5 175 rfl, rfl⟩, ⟨qm_in0 57 rfl, rfl⟩⟩, ⟨qm_in1 10 rfl, rfl⟩⟩
theorem mk_90 : qm_ML (8, 264, 109, 0, 0) := ⟨⟨⟨qm_in5 154 rfl, rfl⟩, ⟨qm_in5 156 rfl, rfl⟩, ⟨qm_in0 54 rfl, rfl⟩⟩, ⟨qm_in1 10 rfl, rfl⟩⟩
theorem mk_91 : qm_ML (8, 267, 64, 0, 4) := ⟨⟨⟨qm_in6 53 rfl, rfl⟩, ⟨qm_in5 81 rfl, rfl⟩, ⟨qm_in5 82 rfl, rfl⟩⟩, ⟨qm_in1 10 rfl, rfl⟩⟩
theorem mk_92 : qm_ML (8, 275, 114, 1, 1) := ⟨⟨⟨qm_in6 89 rfl, rfl⟩, ⟨qm_in6 90 rfl, rfl⟩⟩, ⟨qm_in1 10 rfl, rfl⟩⟩
theorem mk_93 : qm_ML (8, 279, 115, 1, 3) := ⟨⟨⟨qm_in6 86 rfl, rfl⟩, ⟨qm_in6 87 rfl, rfl⟩⟩, ⟨qm_in1 10 rfl, rfl⟩⟩
theorem mk_94 : qm_ML (8, 283, 116, 1, 3) := ⟨⟨⟨qm_in6 94 rfl, rfl⟩, ⟨qm_in6 95 rfl, rfl⟩⟩, ⟨qm_in1 10 rfl, rfl⟩⟩
theorem mk_95 : qm_ML (8, 287, 118, 0, 0) := ⟨⟨⟨qm_in6 78 rfl, rfl⟩, ⟨qm_in6 80 rfl, rfl⟩, ⟨qm_in0 84 rfl, rfl⟩⟩, ⟨qm_in1 10 rfl, rfl⟩⟩
theorem mk_96 : qm_ML (8, 290, 119, 0, 1) := ⟨⟨⟨qm_in6 74 rfl, rfl⟩, ⟨qm_in6 76 rfl, rfl⟩, ⟨qm_in0 83 rfl, rfl⟩⟩, ⟨qm_in1 10 rfl, rfl⟩⟩
theorem mk_97 : qm_ML (8, 293, 117, 0, 1) := ⟨⟨⟨qm_in6 82 rfl, rfl⟩, ⟨qm_in6 84 rfl, rfl⟩, ⟨qm_in0 85 rfl, rfl⟩⟩, ⟨qm_in1 10 rfl, rfl⟩⟩
theorem mk_98 : qm_ML (8, 296, 58, 1, 3) := ⟨⟨⟨qm_in6 97 rfl, rfl⟩, ⟨qm_in6 98 rfl, rfl⟩⟩, ⟨qm_in1 10 rfl, rfl⟩⟩
theorem mk_99 : qm_ML (8, 300, 121, 0, 2) := ⟨⟨⟨qm_in6 66 rfl, rfl⟩, ⟨qm_in6 68 rfl, rfl⟩, ⟨qm_in0 81 rfl, rfl⟩⟩, ⟨qm_in1 10 rfl, rfl⟩⟩
theorem mk_100 : qm_ML (8, 303, 122, 0, 2) := ⟨⟨⟨qm_in6 62 rfl, rfl⟩, ⟨qm_in6 64 rfl, rfl⟩, ⟨qm_in0 80 rfl, rfl⟩⟩, ⟨qm_in1 10 rfl, rfl⟩⟩
theorem mk_101 : qm_ML (8, 306, 120, 0, 4) := ⟨⟨⟨qm_in6 70 rfl, rfl⟩, ⟨qm_in6 72 rfl, rfl⟩, ⟨qm_in0 82 rfl, rfl⟩⟩, ⟨qm_in1 10 rfl, rfl⟩⟩
theorem mk_102 : qm_ML (8, 309, 123, 0, 2) := ⟨⟨⟨qm_in6 58 rfl, rfl⟩, ⟨qm_in6 60 rfl, rfl⟩, ⟨qm_in0 79 rfl, rfl⟩⟩, ⟨qm_in1 10 rfl, rfl⟩⟩
theorem mk_103 : qm_ML (8, 312, 126, 0, 1) := ⟨⟨⟨qm_in6 112 rfl, rfl⟩, ⟨qm_in6 114 rfl, rfl⟩, ⟨qm_in0 88 rfl, rfl⟩⟩, ⟨qm_in1 10 rfl, rfl⟩⟩
theorem mk_104 : qm_ML (8, 315, 125, 0, 2) := ⟨⟨⟨qm_in6 104 rfl, rfl⟩, ⟨qm_in6 106 rfl, rfl⟩, ⟨qm_in0 87 rfl, rfl⟩⟩, ⟨qm_in1 10 rfl, rfl⟩⟩
theorem mk_105 : qm_ML (8, 318, 124, 0, 2) := ⟨⟨⟨qm_in6 100 rfl, rfl⟩, ⟨qm_in6 102 rfl, rfl⟩, ⟨qm_in0 86 rfl, rfl⟩⟩, ⟨qm_in1 10 rfl, rfl⟩⟩
theorem mk_106 : qm_ML (8, 325, 130, 0, 2) := ⟨⟨⟨qm_in6 142 rfl, rfl⟩, ⟨qm_in6 144 rfl, rfl⟩, ⟨qm_in0 95 rfl, rfl⟩⟩, ⟨qm_in1 10 rfl, rfl⟩⟩
theorem mk_107 : qm_ML (8, 328, 127, 0, 0) := ⟨⟨⟨qm_in6 116 rfl, rfl⟩, ⟨qm_in6 118 rfl, rfl⟩, ⟨qm_in0 89 rfl, rfl⟩⟩, ⟨qm_in1 10 rfl, rfl⟩⟩
theorem mk_108 : qm_ML (8, 331, 128, 0, 0) := ⟨⟨⟨qm_in6 120 rfl, rfl⟩, ⟨qm_in6 122 rfl, rfl⟩, ⟨qm_in0 90 rfl, rfl⟩⟩, ⟨qm_in1 10 rfl, rfl⟩⟩
theorem mk_109 : qm_ML (8, 334, 63, 0, 0) := ⟨⟨⟨qm_in6 124 rfl, rfl⟩, ⟨qm_in6 126 rfl, rfl⟩, ⟨qm_in0 91 rfl, rfl⟩⟩, ⟨qm_in1 10 rfl, rfl⟩⟩
theorem mk_110 : qm_ML (8, 337, 129, 0, 0) := ⟨⟨⟨qm_in6 128 rfl, rfl⟩, ⟨qm_in6 130 rfl, rfl⟩, ⟨qm_in0 92 rfl, rfl⟩⟩, ⟨qm_in1 10 rfl, rfl⟩⟩
theorem mk_111 : qm_ML (8, 340, 132, 0, 0) := ⟨⟨⟨qm_in6 132 rfl, rfl⟩, ⟨qm_in6 134 rfl, rfl⟩, ⟨qm_in0 93 rfl, rfl⟩⟩, ⟨qm_in1 10 rfl, rfl⟩⟩
theorem mk_112 : qm_ML (8, 343, 133, 0, 0) := ⟨⟨⟨qm_in6 138 rfl, rfl⟩, ⟨qm_in6 140 rfl, rfl⟩, ⟨qm_in0 94 rfl, rfl⟩⟩, ⟨qm_in1 10 rfl, rfl⟩⟩
theorem mk_113 : qm_ML (8, 347, 135, 0, 3) := ⟨⟨⟨qm_in6 155 rfl, rfl⟩, ⟨qm_in6 157 rfl, rfl⟩, ⟨qm_in0 97 rfl, rfl⟩⟩, ⟨qm_in1 10 rfl, rfl⟩⟩
theorem mk_114 : qm_ML (8, 353, 136, 0, 1) := ⟨⟨⟨qm_in6 151 rfl, rfl⟩, ⟨qm_in6 153 rfl, rfl⟩, ⟨qm_in0 96 rfl, rfl⟩⟩, ⟨qm_in1 10 rfl, rfl⟩⟩
theorem mk_115 : qm_ML (8, 356, 138, 0, 2) := ⟨⟨⟨qm_in6 167 rfl, rfl⟩, ⟨qm_in6 169 rfl, rfl⟩, ⟨qm_in0 99 rfl, rfl⟩⟩, ⟨qm_in1 10 rfl, rfl⟩⟩
theorem mk_116 : qm_ML (8, 359, 139, 0, 0) := ⟨⟨⟨qm_in6 163 rfl, rfl⟩, ⟨qm_in6 165 rfl, rfl⟩, ⟨qm_in0 98 rfl, rfl⟩⟩, ⟨qm_in1 10 rfl, rfl⟩⟩
theorem mk_117 : qm_ML (8, 365, 141, 0, 1) := ⟨⟨⟨qm_in6 187 rfl, rfl⟩, ⟨qm_in6 189 rfl, rfl⟩, ⟨qm_in0 103 rfl, rfl⟩⟩, ⟨qm_in1 10 rfl, rfl⟩⟩
theorem mk_118 : qm_ML (8, 70, 56, 0, 2) := ⟨⟨⟨qm_in4 204 rfl, rfl⟩, ⟨qm_in4 206 rfl, rfl⟩, ⟨qm_in0 46 rfl, rfl⟩⟩, ⟨qm_in1 10 rfl, rfl⟩⟩
theorem mk_119 : qm_ML (8, 368, 144, 0, 1) := ⟨⟨⟨qm_in6 183 rfl, rfl⟩, ⟨qm_in6 185 rfl, rfl⟩, ⟨qm_in0 102 rfl, rfl⟩⟩, ⟨qm_in1 10 rfl, rfl⟩⟩
theorem mk_120 : qm_ML (8, 371, 143, 0, 2) := ⟨⟨⟨qm_in6 191 rfl, rfl⟩, ⟨qm_in6 193 rfl, rfl⟩, ⟨qm_in0 104 rfl, rfl⟩⟩, ⟨qm_in1 10 rfl, rfl⟩⟩
theorem mk_121 : qm_ML (8, 374, 142, 0, 2) := ⟨⟨⟨qm_in6 175 rfl, rfl⟩, ⟨qm_in6 177 rfl, rfl⟩, ⟨qm_in0 100 rfl, rfl⟩⟩, ⟨qm_in1 10 rfl, rfl⟩⟩
theorem mk_122 : qm_ML (8, 377, 145, 0, 1) := ⟨⟨⟨qm_in6 179 rfl, rfl⟩, ⟨qm_in6 181 rfl, rfl⟩, ⟨qm_in0 101 rfl, rfl⟩⟩, ⟨qm_in1 10 rfl, rfl⟩⟩
theorem mk_123 : qm_ML (8, 380, 147, 0, 1) := ⟨⟨⟨qm_in6 203 rfl, rfl⟩, ⟨qm_in6 205 rfl, rfl⟩, ⟨qm_in0 106 rfl, rfl⟩⟩, ⟨qm_in1 10 rfl, rfl⟩⟩
theorem mk_124 : qm_ML (8, 383, 148, 0, 1) := ⟨⟨⟨qm_in6 199 rfl, rfl⟩, ⟨qm_in6 201 rfl, rfl⟩, ⟨qm_in0 105 rfl, rfl⟩⟩, ⟨qm_in1 10 rfl, rfl⟩⟩
theorem mk_125 : qm_ML (8, 386, 149, 1, 1) := ⟨⟨⟨qm_in6 207 rfl, rfl⟩, ⟨qm_in6 208 rfl, rfl⟩⟩, ⟨qm_in1 10 rfl, rfl⟩⟩
theorem mk_126 : qm_ML (8, 390, 151, 0, 3) := ⟨⟨⟨qm_in6 214 rfl, rfl⟩, ⟨qm_in6 216 rfl, rfl⟩, ⟨qm_in0 107 rfl, rfl⟩⟩, ⟨qm_in1 10 rfl, rfl⟩⟩
theorem mk_127 : qm_ML (8, 394, 152, 0, 1) := ⟨⟨⟨qm_in6 218 rfl, rfl⟩, ⟨qm_in6 220 rfl, rfl⟩, ⟨qm_in0 108 rfl, rfl⟩⟩, ⟨qm_in1 10 rfl, rfl⟩⟩
theorem mk_128 : qm_ML (8, 397, 153, 0, 1) := ⟨⟨⟨qm_in6 222 rfl, rfl⟩, ⟨qm_in6 224 rfl, rfl⟩, ⟨qm_in0 109 rfl, rfl⟩⟩, ⟨qm_in1 10 rfl, rfl⟩⟩
theorem mk_129 : qm_ML (8, 401, 159, 0, 1) := ⟨⟨⟨qm_in7 7 rfl, rfl⟩, ⟨qm_in7 9 rfl, rfl⟩, ⟨qm_in0 110 rfl, rfl⟩⟩, ⟨qm_in1 10 rfl, rfl⟩⟩
theorem mk_130 : qm_ML (0, 22, 225, 0, 1) := ⟨⟨⟨qm_in3 158 rfl, rfl⟩, ⟨qm_in3 47 rfl, rfl⟩, ⟨qm_in3 48 rfl, rfl⟩⟩, ⟨qm_in1 2 rfl, rfl⟩⟩
theorem mk_131 : qm_ML (0, 28, 178, 0, 3) := ⟨⟨⟨qm_in3 159 rfl, rfl⟩, ⟨qm_in3 161 rfl, rfl⟩, ⟨qm_in0 25 rfl, rfl⟩⟩, ⟨qm_in1 3 rfl, rfl⟩⟩
theorem mk_132 : qm_ML (0, 32, 179, 0, 1) := ⟨⟨⟨qm_in3 178 rfl, rfl⟩, ⟨qm_in3 180 rfl, rfl⟩, ⟨qm_in0 26 rfl, rfl⟩⟩, ⟨qm_in1 3 rfl, rfl⟩⟩
theorem mk_133 : qm_ML (0, 35, 182, 1, 3) := ⟨⟨⟨qm_in3 198 rfl, rfl⟩, ⟨qm_in3 199 rfl, rfl⟩⟩, ⟨qm_in1 3 rfl, rfl⟩⟩
theorem mk_134 : qm_ML (0, 39, 54, 3, 2) := ⟨⟨List.mem_of_getElem? (i := 1) rfl, ⟨qm_in2 128 rfl, rfl⟩⟩, ⟨qm_in1 1 rfl, rfl⟩⟩
theorem mk_135 : qm_ML (0, 61, 194, 0, 0) := ⟨⟨⟨qm_in3 228 rfl, rfl⟩, ⟨qm_in3 229 rfl, rfl⟩, ⟨qm_in3 230 rfl, rfl⟩⟩, ⟨qm_in1 8 rfl, rfl⟩⟩
theorem mk_136 : qm_ML (0, 71, 166, 0, 3) := ⟨⟨⟨qm_in3 218 rfl, rfl⟩, ⟨qm_in3 155 rfl, rfl⟩, ⟨qm_in3 156 rfl, rfl⟩⟩, ⟨qm_in1 3 rfl, rfl⟩⟩
theorem mk_137 : qm_ML (0, 75, 170, 0, 2) := ⟨⟨⟨qm_in3 223 rfl, rfl⟩, ⟨qm_in3 215 rfl, rfl⟩, ⟨qm_in3 216 rfl, rfl⟩⟩, ⟨qm_in1 3 rfl, rfl⟩⟩
theorem mk_138 : qm_ML (0, 88, 174, 0, 3) := ⟨⟨⟨qm_in4 12 rfl, rfl⟩, ⟨qm_in4 14 rfl, rfl⟩, ⟨qm_in0 28 rfl, rfl⟩⟩, ⟨qm_in1 3 rfl, rfl⟩⟩
theorem mk_139 : qm_ML (0, 98, 176, 0, 3) := ⟨⟨⟨qm_in4 25 rfl, rfl⟩, ⟨qm_in4 26 rfl, rfl⟩, ⟨qm_in4 27 rfl, rfl⟩⟩, ⟨qm_in1 3 rfl, rfl⟩⟩
theorem mk_140 : qm_ML (0, 102, 185, 0, 0) := ⟨⟨⟨qm_in3 164 rfl, rfl⟩, ⟨qm_in2 119 rfl, rfl⟩, ⟨qm_in2 120 rfl, rfl⟩⟩, ⟨qm_in1 8 rfl, rfl⟩⟩
theorem mk_141 : qm_ML (0, 109, 169, 0, 1) := ⟨⟨⟨qm_in4 36 rfl, rfl⟩, ⟨qm_in3 225 rfl, rfl⟩, ⟨qm_in3 226 rfl, rfl⟩⟩, ⟨qm_in1 3 rfl, rfl⟩⟩
theorem mk_142 : qm_ML (0, 116, 53, 3, 3) := ⟨⟨List.mem_of_getElem? (i := 2) rfl, ⟨qm_in2 113 rfl, rfl⟩⟩, ⟨qm_in1 1 rfl, rfl⟩⟩
theorem mk_143 : qm_ML (0, 134, 177, 0, 3) := ⟨⟨⟨qm_in4 29 rfl, rfl⟩, ⟨qm_in4 31 rfl, rfl⟩, ⟨qm_in0 29 rfl, rfl⟩⟩, ⟨qm_in1 3 rfl, rfl⟩⟩
theorem mk_144 : qm_ML (0, 137, 196, 0, 2) := ⟨⟨⟨qm_in3 170 rfl, rfl⟩, ⟨qm_in3 171 rfl, rfl⟩, ⟨qm_in3 172 rfl, rfl⟩⟩, ⟨qm_in1 8 rfl, rfl⟩⟩
theorem mk_145 : qm_ML (0, 143, 195, 0, 2) := ⟨⟨⟨qm_in3 165 rfl, rfl⟩, ⟨qm_in3 166 rfl, rfl⟩, ⟨qm_in3 167 rfl, rfl⟩⟩, ⟨qm_in1 8 rfl, rfl⟩⟩
theorem mk_146 : qm_ML (0, 150, 197, 0, 1) := ⟨⟨⟨qm_in3 174 rfl, rfl⟩, ⟨qm_in3 175 rfl, rfl⟩, ⟨qm_in3 176 rfl, rfl⟩⟩, ⟨qm_in1 8 rfl, rfl⟩⟩
theorem mk_147 : qm_ML (0, 163, 180, 0, 1) := ⟨⟨⟨qm_in3 182 rfl, rfl⟩, ⟨qm_in3 184 rfl, rfl⟩, ⟨qm_in0 27 rfl, rfl⟩⟩, ⟨qm_in1 3 rfl, rfl⟩⟩
theorem mk_148 : qm_ML (0, 166, 181, 1, 3) := ⟨⟨⟨qm_in3 187 rfl, rfl⟩, ⟨qm_in3 188 rfl, rfl⟩⟩, ⟨qm_in1 3 rfl, rfl⟩⟩
theorem mk_149 : qm_ML (1, 58, 53, 3, 3) := ⟨⟨List.mem_of_getElem? (i := 3) rfl, ⟨qm_in2 113 rfl, rfl⟩⟩, ⟨qm_in1 1 rfl, rfl⟩⟩
theorem mk_150 : qm_ML (1, 62, 54, 3, 2) := ⟨⟨List.mem_of_getElem? (i := 4) rfl, ⟨qm_in2 128 rfl, rfl⟩⟩, ⟨qm_in1 1 rfl, rfl⟩⟩
theorem mk_151 : qm_ML (1, 66, 186, 0, 2) := ⟨⟨⟨qm_in4 53 rfl, rfl⟩, ⟨qm_in2 135 rfl, rfl⟩, ⟨qm_in2 136 rfl, rfl⟩⟩, ⟨qm_in1 8 rfl, rfl⟩⟩
theorem mk_152 : qm_ML (1, 70, 190, 0, 1) := ⟨⟨⟨qm_in4 54 rfl, rfl⟩, ⟨qm_in4 56 rfl, rfl⟩, ⟨qm_in0 31 rfl, rfl⟩⟩, ⟨qm_in1 8 rfl, rfl⟩⟩
theorem mk_153 : qm_ML (1, 74, 52, 3, 1) := ⟨⟨List.mem_of_getElem? (i := 5) rfl, ⟨qm_in3 208 rfl, rfl⟩⟩, ⟨qm_in1 1 rfl, rfl⟩⟩
theorem mk_154 : qm_ML (1, 83, 185, 0, 0) := ⟨⟨⟨qm_in3 169 rfl, rfl⟩, ⟨qm_in2 119 rfl, rfl⟩, ⟨qm_in2 120 rfl, rfl⟩⟩, ⟨qm_in1 8 rfl, rfl⟩⟩
theorem mk_155 : qm_ML (2, 35, 229, 0, 2) := ⟨⟨⟨qm_in2 186 rfl, rfl⟩, ⟨qm_in2 187 rfl, rfl⟩, ⟨qm_in2 188 rfl, rfl⟩⟩, ⟨qm_in1 5 rfl, rfl⟩⟩
theorem mk_156 : qm_ML (2, 39, 222, 0, 0) := ⟨⟨⟨qm_in3 29 rfl, rfl⟩, ⟨qm_in3 30 rfl, rfl⟩, ⟨qm_in3 31 rfl, rfl⟩⟩, ⟨qm_in1 2 rfl, rfl⟩⟩
theorem mk_157 : qm_ML (2, 44, 200, 0, 0) := ⟨⟨⟨qm_in3 33 rfl, rfl⟩, ⟨qm_in3 35 rfl, rfl⟩, ⟨qm_in0 6 rfl, rfl⟩⟩, ⟨qm_in1 4 rfl, rfl⟩⟩
theorem mk_158 : qm_ML (2, 48, 206, 0, 1) := ⟨⟨⟨qm_in3 38 rfl, rfl⟩, ⟨qm_in3 40 rfl, rfl⟩, ⟨qm_in0 7 rfl, rfl⟩⟩, ⟨qm_in1 4 rfl, rfl⟩⟩
theorem mk_159 : qm_ML (2, 55, 53, 3, 3) := ⟨⟨List.mem_of_getElem? (i := 6) rfl, ⟨qm_in2 113 rfl, rfl⟩⟩, ⟨qm_in1 1 rfl, rfl⟩⟩
theorem mk_160 : qm_ML (2, 67, 202, 0, 0) := ⟨⟨⟨qm_in3 58 rfl, rfl⟩, ⟨qm_in3 60 rfl, rfl⟩, ⟨qm_in0 9 rfl, rfl⟩⟩, ⟨qm_in1 4 rfl, rfl⟩⟩
theorem mk_161 : qm_ML (2, 70, 203, 0, 1) := ⟨⟨⟨qm_in3 42 rfl, rfl⟩, ⟨qm_in3 44 rfl, rfl⟩, ⟨qm_in0 8 rfl, rfl⟩⟩, ⟨qm_in1 4 rfl, rfl⟩⟩
theorem mk_162 : qm_ML (2, 73, 224, 0, 1) := ⟨⟨⟨qm_in3 78 rfl, rfl⟩, ⟨qm_in3 79 rfl, rfl⟩, ⟨qm_in3 80 rfl, rfl⟩⟩, ⟨qm_in1 2 rfl, rfl⟩⟩
theorem mk_163 : qm_ML (2, 76, 225, 0, 1) := ⟨⟨⟨qm_in3 46 rfl, rfl⟩, ⟨qm_in3 47 rfl, rfl⟩, ⟨qm_in3 48 rfl, rfl⟩⟩, ⟨qm_in1 2 rfl, rfl⟩⟩
theorem mk_164 : qm_ML (2, 80, 223, 0, 1) := ⟨⟨⟨qm_in3 54 rfl, rfl⟩, ⟨qm_in3 55 rfl, rfl⟩, ⟨qm_in3 56 rfl, rfl⟩⟩, ⟨qm_in1 2 rfl, rfl⟩⟩
theorem mk_165 : qm_ML (2, 84, 207, 0, 0) := ⟨⟨⟨qm_in3 62 rfl, rfl⟩, ⟨qm_in3 64 rfl, rfl⟩, ⟨qm_in0 10 rfl, rfl⟩⟩, ⟨qm_in1 4 rfl, rfl⟩⟩
theorem mk_166 : qm_ML (2, 87, 209, 0, 2) := ⟨⟨⟨qm_in3 86 rfl, rfl⟩, ⟨qm_in3 88 rfl, rfl⟩, ⟨qm_in0 15 rfl, rfl⟩⟩, ⟨qm_in1 4 rfl, rfl⟩⟩
theorem mk_167 : qm_ML (2, 91, 204, 0, 1) := ⟨⟨⟨qm_in3 82 rfl, rfl⟩, ⟨qm_in3 84 rfl, rfl⟩, ⟨qm_in0 14 rfl, rfl⟩⟩, ⟨qm_in1 4 rfl, rfl⟩⟩
theorem mk_168 : qm_ML (2, 94, 208, 0, 2) := ⟨⟨⟨qm_in3 66 rfl, rfl⟩, ⟨qm_in3 68 rfl, rfl⟩, ⟨qm_in0 11 rfl, rfl⟩⟩, ⟨qm_in1 4 rfl, rfl⟩⟩
theorem mk_169 : qm_ML (2, 97, 201, 0, 0) := ⟨⟨⟨qm_in3 70 rfl, rfl⟩, ⟨qm_in3 72 rfl, rfl⟩, ⟨qm_in0 12 rfl, rfl⟩⟩, ⟨qm_in1 4 rfl, rfl⟩⟩
theorem mk_170 : qm_ML (2, 100, 205, 0, 1) := ⟨⟨⟨qm_in3 74 rfl, rfl⟩, ⟨qm_in3 76 rfl, rfl⟩, ⟨qm_in0 13 rfl, rfl⟩⟩, ⟨qm_in1 4 rfl, rfl⟩⟩
theorem mk_171 : qm_ML (2, 101, 211, 0, 1) := ⟨⟨⟨qm_in3 90 rfl, rfl⟩, ⟨qm_in3 92 rfl, rfl⟩, ⟨qm_in0 16 rfl, rfl⟩⟩, ⟨qm_in1 4 rfl, rfl⟩⟩
theorem mk_172 : qm_ML (2, 104, 213, 0, 1) := ⟨⟨⟨qm_in3 98 rfl, rfl⟩, ⟨qm_in3 100 rfl, rfl⟩, ⟨qm_in0 18 rfl, rfl⟩⟩, ⟨qm_in1 4 rfl, rfl⟩⟩
theorem mk_173 : qm_ML (2, 107, 210, 1, 1) := ⟨⟨⟨qm_in3 114 rfl, rfl⟩, ⟨qm_in3 115 rfl, rfl⟩⟩, ⟨qm_in1 4 rfl, rfl⟩⟩
theorem mk_174 : qm_ML (2, 110, 212, 0, 1) := ⟨⟨⟨qm_in3 94 rfl, rfl⟩, ⟨qm_in3 96 rfl, rfl⟩, ⟨qm_in0 17 rfl, rfl⟩⟩, ⟨qm_in1 4 rfl, rfl⟩⟩
theorem mk_175 : qm_ML (2, 113, 214, 0, 1) := ⟨⟨⟨qm_in3 102 rfl, rfl⟩, ⟨qm_in3 104 rfl, rfl⟩, ⟨qm_in0 19 rfl, rfl⟩⟩, ⟨qm_in1 4 rfl, rfl⟩⟩
theorem mk_176 : qm_ML (2, 116, 216, 0, 2) := ⟨⟨⟨qm_in3 110 rfl, rfl⟩, ⟨qm_in3 112 rfl, rfl⟩, ⟨qm_in0 21 rfl, rfl⟩⟩, ⟨qm_in1 4 rfl, rfl⟩⟩
theorem mk_177 : qm_ML (2, 119, 215, 0, 1) := ⟨⟨⟨qm_in3 106 rfl, rfl⟩, ⟨qm_in3 108 rfl, rfl⟩, ⟨qm_in0 20 rfl, rfl⟩⟩, ⟨qm_in1 4 rfl, rfl⟩⟩
theorem mk_178 : qm_ML (3, 34, 184, 0, 1) := ⟨⟨⟨qm_in4 70 rfl, rfl⟩, ⟨qm_in4 71 rfl, rfl⟩, ⟨qm_in4 72 rfl, rfl⟩⟩, ⟨qm_in1 8 rfl, rfl⟩⟩
theorem mk_179 : qm_ML (3, 38, 220, 0, 2) := ⟨⟨⟨qm_in4 81 rfl, rfl⟩, ⟨qm_in4 83 rfl, rfl⟩, ⟨qm_in0 34 rfl, rfl⟩⟩, ⟨qm_in1 9 rfl, rfl⟩⟩
theorem mk_180 : qm_ML (3, 48, 167, 0, 3) := ⟨⟨⟨qm_in4 86 rfl, rfl⟩, ⟨qm_in3 204 rfl, rfl⟩, ⟨qm_in3 205 rfl, rfl⟩⟩, ⟨qm_in1 3 rfl, rfl⟩⟩
theorem mk_181 : qm_ML (3, 54, 189, 0, 2) := ⟨⟨⟨qm_in4 87 rfl, rfl⟩, ⟨qm_in4 50 rfl, rfl⟩, ⟨qm_in4 51 rfl, rfl⟩⟩, ⟨qm_in1 8 rfl, rfl⟩⟩
theorem mk_182 : qm_ML (3, 62, 175, 0, 3) := ⟨⟨⟨qm_in4 88 rfl, rfl⟩, ⟨qm_in4 22 rfl, rfl⟩, ⟨qm_in4 23 rfl, rfl⟩⟩, ⟨qm_in1 3 rfl, rfl⟩⟩
theorem mk_183 : qm_ML (3, 66, 219, 0, 5) := ⟨⟨⟨qm_in4 89 rfl, rfl⟩, ⟨qm_in4 79 rfl, rfl⟩, ⟨qm_in0 33 rfl, rfl⟩⟩, ⟨qm_in1 9 rfl, rfl⟩⟩
theorem mk_184 : qm_ML (4, 34, 227, 1, 1) := ⟨⟨⟨qm_in3 50 rfl, rfl⟩, ⟨qm_in3 51 rfl, rfl⟩⟩, ⟨qm_in1 2 rfl, rfl⟩⟩
theorem mk_185 : qm_ML (4, 38, 53, 3, 3) := ⟨⟨List.mem_of_getElem? (i := 7) rfl, ⟨qm_in2 113 rfl, rfl⟩⟩, ⟨qm_in1 1 rfl, rfl⟩⟩
theorem mk_186 : qm_ML (5, 25, 236, 1, 1) := ⟨⟨⟨qm_in2 190 rfl, rfl⟩, ⟨qm_in2 191 rfl, rfl⟩⟩, ⟨qm_in1 5 rfl, rfl⟩⟩
theorem mk_187 : qm_ML (5, 29, 231, 0, 3) := ⟨⟨⟨qm_in2 194 rfl, rfl⟩, ⟨qm_in2 196 rfl, rfl⟩, ⟨qm_in0 2 rfl, rfl⟩⟩, ⟨qm_in1 5 rfl, rfl⟩⟩
theorem mk_188 : qm_ML (5, 33, 237, 1, 1) := ⟨⟨⟨qm_in3 14 rfl, rfl⟩, ⟨qm_in3 15 rfl, rfl⟩⟩, ⟨qm_in1 5 rfl, rfl⟩⟩
theorem mk_189 : qm_ML (5, 36, 233, 0, 3) := ⟨⟨⟨qm_in3 17 rfl, rfl⟩, ⟨qm_in3 19 rfl, rfl⟩, ⟨qm_in0 4 rfl, rfl⟩⟩, ⟨qm_in1 5 rfl, rfl⟩⟩
theorem mk_190 : qm_ML (5, 39, 234, 0, 3) := ⟨⟨⟨qm_in3 22 rfl, rfl⟩, ⟨qm_in3 24 rfl, rfl⟩, ⟨qm_in0 5 rfl, rfl⟩⟩, ⟨qm_in1 5 rfl, rfl⟩⟩
theorem mk_191 : qm_ML (5, 42, 230, 0, 3) := ⟨⟨⟨qm_in3 10 rfl, rfl⟩, ⟨qm_in3 12 rfl, rfl⟩, ⟨qm_in0 3 rfl, rfl⟩⟩, ⟨qm_in1 5 rfl, rfl⟩⟩
theorem mk_192 : qm_ML (5, 46, 232, 1, 3) := ⟨⟨⟨qm_in2 198 rfl, rfl⟩, ⟨qm_in2 199 rfl, rfl⟩⟩, ⟨qm_in1 5 rfl, rfl⟩⟩
theorem mk_193 : qm_ML (5, 67, 235, 1, 1) := ⟨⟨⟨qm_in3 26 rfl, rfl⟩, ⟨qm_in3 27 rfl, rfl⟩⟩, ⟨qm_in1 5 rfl, rfl⟩⟩
theorem mk_194 : qm_ML (5, 71, 53, 3, 3) := ⟨⟨List.mem_of_getElem? (i := 8) rfl, ⟨qm_in2 113 rfl, rfl⟩⟩, ⟨qm_in1 1 rfl, rfl⟩⟩
theorem mk_195 : qm_ML (6, 59, 184, 0, 1) := ⟨⟨⟨qm_in4 185 rfl, rfl⟩, ⟨qm_in4 71 rfl, rfl⟩, ⟨qm_in4 72 rfl, rfl⟩⟩, ⟨qm_in1 8 rfl, rfl⟩⟩
theorem mk_196 : qm_ML (9, 21, 1, 0, 4) := ⟨⟨⟨qm_in2 105 rfl, rfl⟩, ⟨qm_in2 106 rfl, rfl⟩, ⟨qm_in2 107 rfl, rfl⟩⟩, ⟨qm_in1 1 rfl, rfl⟩⟩
theorem mk_197 : qm_ML (9, 25, 64, 0, 4) := ⟨⟨⟨qm_in5 80 rfl, rfl⟩, ⟨qm_in5 81 rfl, rfl⟩, ⟨qm_in5 82 rfl, rfl⟩⟩, ⟨qm_in1 10 rfl, rfl⟩⟩
theorem mk_198 : qm_ML (9, 26, 2, 0, 3) := ⟨⟨⟨qm_in2 130 rfl, rfl⟩, ⟨qm_in2 131 rfl, rfl⟩, ⟨qm_in2 132 rfl, rfl⟩⟩, ⟨qm_in1 1 rfl, rfl⟩⟩
theorem mk_199 : qm_ML (9, 30, 66, 0, 3) := ⟨⟨⟨qm_in5 103 rfl, rfl⟩, ⟨qm_in5 104 rfl, rfl⟩, ⟨qm_in5 105 rfl, rfl⟩⟩, ⟨qm_in1 10 rfl, rfl⟩⟩
theorem mk_200 : qm_ML (9, 31, 3, 0, 4) := ⟨⟨⟨qm_in2 139 rfl, rfl⟩, ⟨qm_in2 140 rfl, rfl⟩, ⟨qm_in2 141 rfl, rfl⟩⟩, ⟨qm_in1 1 rfl, rfl⟩⟩
theorem mk_201 : qm_ML (9, 35, 68, 0, 4) := ⟨⟨⟨qm_in5 111 rfl, rfl⟩, ⟨qm_in5 112 rfl, rfl⟩, ⟨qm_in5 113 rfl, rfl⟩⟩, ⟨qm_in1 10 rfl, rfl⟩⟩
theorem mk_202 : qm_ML (9, 36, 4, 0, 3) := ⟨⟨⟨qm_in2 146 rfl, rfl⟩, ⟨qm_in2 147 rfl, rfl⟩, ⟨qm_in2 148 rfl, rfl⟩⟩, ⟨qm_in1 1 rfl, rfl⟩⟩
theorem mk_203 : qm_ML (9, 40, 69, 0, 3) := ⟨⟨⟨qm_in5 118 rfl, rfl⟩, ⟨qm_in5 119 rfl, rfl⟩, ⟨qm_in5 120 rfl, rfl⟩⟩, ⟨qm_in1 10 rfl, rfl⟩⟩
theorem mk_204 : qm_ML (9, 41, 5, 0, 4) := ⟨⟨⟨qm_in2 150 rfl, rfl⟩, ⟨qm_in2 151 rfl, rfl⟩, ⟨qm_in2 152 rfl, rfl⟩⟩, ⟨qm_in1 1 rfl, rfl⟩⟩
theorem mk_205 : qm_ML (9, 44, 70, 0, 4) := ⟨⟨⟨qm_in5 122 rfl, rfl⟩, ⟨qm_in5 123 rfl, rfl⟩, ⟨qm_in5 124 rfl, rfl⟩⟩, ⟨qm_in1 10 rfl, rfl⟩⟩
theorem mk_206 : qm_ML (9, 45, 6, 0, 2) := ⟨⟨⟨qm_in2 154 rfl, rfl⟩, ⟨qm_in2 155 rfl, rfl⟩, ⟨qm_in2 156 rfl, rfl⟩⟩, ⟨qm_in1 1 rfl, rfl⟩⟩
theorem mk_207 : qm_ML (9, 49, 72, 0, 2) := ⟨⟨⟨qm_in5 126 rfl, rfl⟩, ⟨qm_in5 127 rfl, rfl⟩, ⟨qm_in5 128 rfl, rfl⟩⟩, ⟨qm_in1 10 rfl, rfl⟩⟩
theorem mk_208 : qm_ML (9, 50, 7, 0, 3) := ⟨⟨⟨qm_in2 162 rfl, rfl⟩, ⟨qm_in2 163 rfl, rfl⟩, ⟨qm_in2 164 rfl, rfl⟩⟩, ⟨qm_in1 1 rfl, rfl⟩⟩
theorem mk_209 : qm_ML (9, 54, 73, 0, 3) := ⟨⟨⟨qm_in5 134 rfl, rfl⟩, ⟨qm_in5 135 rfl, rfl⟩, ⟨qm_in5 136 rfl, rfl⟩⟩, ⟨qm_in1 10 rfl, rfl⟩⟩
theorem mk_210 : qm_ML (9, 55, 8, 0, 5) := ⟨⟨⟨qm_in2 166 rfl, rfl⟩, ⟨qm_in2 167 rfl, rfl⟩, ⟨qm_in2 168 rfl, rfl⟩⟩, ⟨qm_in1 1 rfl, rfl⟩⟩
theorem mk_211 : qm_ML (9, 59, 75, 0, 5) := ⟨⟨⟨qm_in5 138 rfl, rfl⟩, ⟨qm_in5 139 rfl, rfl⟩, ⟨qm_in5 140 rfl, rfl⟩⟩, ⟨qm_in1 10 rfl, rfl⟩⟩
theorem mk_212 : qm_ML (9, 60, 10, 0, 1) := ⟨⟨⟨qm_in2 174 rfl, rfl⟩, ⟨qm_in2 175 rfl, rfl⟩, ⟨qm_in2 176 rfl, rfl⟩⟩, ⟨qm_in1 1 rfl, rfl⟩⟩
theorem mk_213 : qm_ML (9, 64, 76, 0, 1) := ⟨⟨⟨qm_in5 146 rfl, rfl⟩, ⟨qm_in5 147 rfl, rfl⟩, ⟨qm_in5 148 rfl, rfl⟩⟩, ⟨qm_in1 10 rfl, rfl⟩⟩
theorem mk_214 : qm_ML (9, 65, 11, 0, 0) := ⟨⟨⟨qm_in2 178 rfl, rfl⟩, ⟨qm_in2 179 rfl, rfl⟩, ⟨qm_in2 180 rfl, rfl⟩⟩, ⟨qm_in1 1 rfl, rfl⟩⟩
theorem mk_215 : qm_ML (9, 69, 110, 0, 0) := ⟨⟨⟨qm_in5 150 rfl, rfl⟩, ⟨qm_in5 151 rfl, rfl⟩, ⟨qm_in5 152 rfl, rfl⟩⟩, ⟨qm_in1 10 rfl, rfl⟩⟩
theorem mk_216 : qm_ML (9, 70, 12, 0, 1) := ⟨⟨⟨qm_in3 118 rfl, rfl⟩, ⟨qm_in3 119 rfl, rfl⟩, ⟨qm_in3 120 rfl, rfl⟩⟩, ⟨qm_in1 1 rfl, rfl⟩⟩
theorem mk_217 : qm_ML (9, 73, 111, 0, 1) := ⟨⟨⟨qm_in6 41 rfl, rfl⟩, ⟨qm_in6 42 rfl, rfl⟩, ⟨qm_in6 43 rfl, rfl⟩⟩, ⟨qm_in1 10 rfl, rfl⟩⟩
theorem mk_218 : qm_ML (9, 74, 13, 0, 1) := ⟨⟨⟨qm_in3 122 rfl, rfl⟩, ⟨qm_in3 123 rfl, rfl⟩, ⟨qm_in3 124 rfl, rfl⟩⟩, ⟨qm_in1 1 rfl, rfl⟩⟩
theorem mk_219 : qm_ML (9, 78, 112, 0, 1) := ⟨⟨⟨qm_in6 45 rfl, rfl⟩, ⟨qm_in6 46 rfl, rfl⟩, ⟨qm_in6 47 rfl, rfl⟩⟩, ⟨qm_in1 10 rfl, rfl⟩⟩
theorem mk_220 : qm_ML (9, 79, 15, 0, 1) := ⟨⟨⟨qm_in3 134 rfl, rfl⟩, ⟨qm_in3 135 rfl, rfl⟩, ⟨qm_in3 136 rfl, rfl⟩⟩, ⟨qm_in1 1 rfl, rfl⟩⟩
theorem mk_221 : qm_ML (9, 82, 113, 0, 1) := ⟨⟨⟨qm_in6 49 rfl, rfl⟩, ⟨qm_in6 50 rfl, rfl⟩, ⟨qm_in6 51 rfl, rfl⟩⟩, ⟨qm_in1 10 rfl, rfl⟩⟩
theorem mk_222 : qm_ML (9, 83, 17, 0, 3) := ⟨⟨⟨qm_in3 150 rfl, rfl⟩, ⟨qm_in3 151 rfl, rfl⟩, ⟨qm_in3 152 rfl, rfl⟩⟩, ⟨qm_in1 1 rfl, rfl⟩⟩
theorem mk_223 : qm_ML (9, 87, 131, 0, 3) := ⟨⟨⟨qm_in6 54 rfl, rfl⟩, ⟨qm_in6 55 rfl, rfl⟩, ⟨qm_in6 56 rfl, rfl⟩⟩, ⟨qm_in1 10 rfl, rfl⟩⟩
theorem mk_224 : qm_ML (9, 88, 18, 0, 1) := ⟨⟨⟨qm_in3 210 rfl, rfl⟩, ⟨qm_in3 211 rfl, rfl⟩, ⟨qm_in3 212 rfl, rfl⟩⟩, ⟨qm_in1 1 rfl, rfl⟩⟩
theorem mk_225 : qm_ML (9, 91, 134, 0, 1) := ⟨⟨⟨qm_in6 108 rfl, rfl⟩, ⟨qm_in6 109 rfl, rfl⟩, ⟨qm_in6 110 rfl, rfl⟩⟩, ⟨qm_in1 10 rfl, rfl⟩⟩
theorem mk_226 : qm_ML (9, 92, 19, 0, 1) := ⟨⟨⟨qm_in4 17 rfl, rfl⟩, ⟨qm_in4 18 rfl, rfl⟩, ⟨qm_in4 19 rfl, rfl⟩⟩, ⟨qm_in1 1 rfl, rfl⟩⟩
theorem mk_227 : qm_ML (9, 95, 137, 0, 1) := ⟨⟨⟨qm_in6 147 rfl, rfl⟩, ⟨qm_in6 148 rfl, rfl⟩, ⟨qm_in6 149 rfl, rfl⟩⟩, ⟨qm_in1 10 rfl, rfl⟩⟩
theorem mk_228 : qm_ML (9, 96, 20, 0, 1) := ⟨⟨⟨qm_in4 37 rfl, rfl⟩, ⟨qm_in4 38 rfl, rfl⟩, ⟨qm_in4 39 rfl, rfl⟩⟩, ⟨qm_in1 1 rfl, rfl⟩⟩
theorem mk_229 : qm_ML (9, 99, 140, 0, 1) := ⟨⟨⟨qm_in6 159 rfl, rfl⟩, ⟨qm_in6 160 rfl, rfl⟩, ⟨qm_in6 161 rfl, rfl⟩⟩, ⟨qm_in1 10 rfl, rfl⟩⟩
theorem mk_230 : qm_ML (9, 100, 22, 0, 2) := ⟨⟨⟨qm_in4 58 rfl, rfl⟩, ⟨qm_in4 59 rfl, rfl⟩, ⟨qm_in4 60 rfl, rfl⟩⟩, ⟨qm_in1 1 rfl, rfl⟩⟩
theorem mk_231 : qm_ML (9, 104, 146, 0, 2) := ⟨⟨⟨qm_in6 171 rfl, rfl⟩, ⟨qm_in6 172 rfl, rfl⟩, ⟨qm_in6 173 rfl, rfl⟩⟩, ⟨qm_in1 10 rfl, rfl⟩⟩
theorem mk_232 : qm_ML (9, 105, 23, 0, 3) := ⟨⟨⟨qm_in4 90 rfl, rfl⟩, ⟨qm_in4 91 rfl, rfl⟩, ⟨qm_in4 92 rfl, rfl⟩⟩, ⟨qm_in1 1 rfl, rfl⟩⟩
theorem mk_233 : qm_ML (9, 108, 150, 0, 3) := ⟨⟨⟨qm_in6 195 rfl, rfl⟩, ⟨qm_in6 196 rfl, rfl⟩, ⟨qm_in6 197 rfl, rfl⟩⟩, ⟨qm_in1 10 rfl, rfl⟩⟩
theorem mk_234 : qm_ML (9, 109, 27, 0, 4) := ⟨⟨⟨qm_in4 110 rfl, rfl⟩, ⟨qm_in4 111 rfl, rfl⟩, ⟨qm_in4 112 rfl, rfl⟩⟩, ⟨qm_in1 1 rfl, rfl⟩⟩
theorem mk_235 : qm_ML (9, 112, 154, 0, 4) := ⟨⟨⟨qm_in6 210 rfl, rfl⟩, ⟨qm_in6 211 rfl, rfl⟩, ⟨qm_in6 212 rfl, rfl⟩⟩, ⟨qm_in1 10 rfl, rfl⟩⟩
theorem mk_236 : qm_ML (9, 113, 28, 0, 2) := ⟨⟨⟨qm_in4 130 rfl, rfl⟩, ⟨qm_in4 131 rfl, rfl⟩, ⟨qm_in4 132 rfl, rfl⟩⟩, ⟨qm_in1 1 rfl, rfl⟩⟩
theorem mk_237 : qm_ML (9, 116, 155, 0, 2) := ⟨⟨⟨qm_in6 226 rfl, rfl⟩, ⟨qm_in6 227 rfl, rfl⟩, ⟨qm_in6 228 rfl, rfl⟩⟩, ⟨qm_in1 10 rfl, rfl⟩⟩
theorem mk_238 : qm_ML (9, 117, 33, 0, 3) := ⟨⟨⟨qm_in4 138 rfl, rfl⟩, ⟨qm_in4 139 rfl, rfl⟩, ⟨qm_in4 140 rfl, rfl⟩⟩, ⟨qm_in1 1 rfl, rfl⟩⟩
theorem mk_239 : qm_ML (9, 120, 156, 0, 3) := ⟨⟨⟨qm_in6 230 rfl, rfl⟩, ⟨qm_in6 231 rfl, rfl⟩, ⟨qm_in6 232 rfl, rfl⟩⟩, ⟨qm_in1 10 rfl, rfl⟩⟩
theorem mk_240 : qm_ML (9, 121, 34, 0, 1) := ⟨⟨⟨qm_in4 143 rfl, rfl⟩, ⟨qm_in4 144 rfl, rfl⟩, ⟨qm_in4 145 rfl, rfl⟩⟩, ⟨qm_in1 1 rfl, rfl⟩⟩
theorem mk_241 : qm_ML (9, 124, 157, 0, 1) := ⟨⟨⟨qm_in6 234 rfl, rfl⟩, ⟨qm_in6 235 rfl, rfl⟩, ⟨qm_in6 236 rfl, rfl⟩⟩, ⟨qm_in1 10 rfl, rfl⟩⟩
theorem mk_242 : qm_ML (9, 125, 37, 0, 0) := ⟨⟨⟨qm_in4 156 rfl, rfl⟩, ⟨qm_in4 157 rfl, rfl⟩, ⟨qm_in4 158 rfl, rfl⟩⟩, ⟨qm_in1 1 rfl, rfl⟩⟩
theorem mk_243 : qm_ML (9, 128, 158, 0, 0) := ⟨⟨⟨qm_in6 239 rfl, rfl⟩, ⟨qm_in7 0 rfl, rfl⟩, ⟨qm_in7 1 rfl, rfl⟩⟩, ⟨qm_in1 10 rfl, rfl⟩⟩
theorem mk_244 : qm_ML (9, 129, 38, 0, 2) := ⟨⟨⟨qm_in4 161 rfl, rfl⟩, ⟨qm_in4 162 rfl, rfl⟩, ⟨qm_in4 163 rfl, rfl⟩⟩, ⟨qm_in1 1 rfl, rfl⟩⟩
theorem mk_245 : qm_ML (9, 132, 160, 0, 2) := ⟨⟨⟨qm_in7 3 rfl, rfl⟩, ⟨qm_in7 4 rfl, rfl⟩, ⟨qm_in7 5 rfl, rfl⟩⟩, ⟨qm_in1 10 rfl, rfl⟩⟩
theorem mk_246 : qm_ML (9, 133, 40, 0, 3) := ⟨⟨⟨qm_in4 169 rfl, rfl⟩, ⟨qm_in4 170 rfl, rfl⟩, ⟨qm_in4 171 rfl, rfl⟩⟩, ⟨qm_in1 1 rfl, rfl⟩⟩
theorem mk_247 : qm_ML (9, 136, 161, 0, 3) := ⟨⟨⟨qm_in7 11 rfl, rfl⟩, ⟨qm_in7 12 rfl, rfl⟩, ⟨qm_in7 13 rfl, rfl⟩⟩, ⟨qm_in1 10 rfl, rfl⟩⟩
theorem mk_248 : qm_ML (9, 137, 42, 0, 0) := ⟨⟨⟨qm_in4 177 rfl, rfl⟩, ⟨qm_in4 178 rfl, rfl⟩, ⟨qm_in4 179 rfl, rfl⟩⟩, ⟨qm_in1 1 rfl, rfl⟩⟩
theorem mk_249 : qm_ML (9, 140, 162, 0, 0) := ⟨⟨⟨qm_in7 15 rfl, rfl⟩, ⟨qm_in7 16 rfl, rfl⟩, ⟨qm_in7 17 rfl, rfl⟩⟩, ⟨qm_in1 10 rfl, rfl⟩⟩
theorem mk_250 : qm_ML (9, 141, 43, 0, 0) := ⟨⟨⟨qm_in4 187 rfl, rfl⟩, ⟨qm_in4 188 rfl, rfl⟩, ⟨qm_in4 189 rfl, rfl⟩⟩, ⟨qm_in1 1 rfl, rfl⟩⟩
theorem mk_251 : qm_ML (9, 144, 163, 0, 0) := ⟨⟨⟨qm_in7 19 rfl, rfl⟩, ⟨qm_in7 20 rfl, rfl⟩, ⟨qm_in7 21 rfl, rfl⟩⟩, ⟨qm_in1 10 rfl, rfl⟩⟩
theorem mk_252 : qm_ML (9, 145, 44, 0, 1) := ⟨⟨⟨qm_in4 191 rfl, rfl⟩, ⟨qm_in4 192 rfl, rfl⟩, ⟨qm_in4 193 rfl, rfl⟩⟩, ⟨qm_in1 1 rfl, rfl⟩⟩
theorem mk_253 : qm_ML (9, 148, 164, 0, 1) := ⟨⟨⟨qm_in7 23 rfl, rfl⟩, ⟨qm_in7 24 rfl, rfl⟩, ⟨qm_in7 25 rfl, rfl⟩⟩, ⟨qm_in1 10 rfl, rfl⟩⟩
theorem qm_mlk_ok_0 : ∀ e ∈ qm_mlk_0, qm_ML e := (List.forall_mem_cons.mpr ⟨mk_0, (List.forall_mem_cons.mpr ⟨mk_1, (List.forall_mem_cons.mpr ⟨mk_2, (List.forall_mem_cons.mpr ⟨mk_3, (List.forall_mem_cons.mpr ⟨mk_4, (List.forall_mem_cons.mpr ⟨mk_5, (List.forall_mem_cons.mpr ⟨mk_6, (List.forall_mem_cons.mpr ⟨mk_7, (List.forall_mem_cons.mpr ⟨mk_8, (List.forall_mem_cons.mpr ⟨mk_9, (List.forall_mem_cons.mpr ⟨mk_10, (List.forall_mem_cons.mpr ⟨mk_11, (List.forall_mem_cons.mpr ⟨mk_12, (List.forall_mem_cons.mpr ⟨mk_13, (List.forall_mem_cons.mpr ⟨mk_14, (List.forall_mem_cons.mpr ⟨mk_15, (List.forall_mem_cons.mpr ⟨mk_16, (List.forall_mem_cons.mpr ⟨mk_17, (List.forall_mem_cons.mpr ⟨mk_18, (List.forall_mem_cons.mpr ⟨mk_19, (List.forall_mem_cons.mpr ⟨mk_20, (List.forall_mem_cons.mpr ⟨mk_21, (List.forall_mem_cons.mpr ⟨mk_22, (List.forall_mem_cons.mpr ⟨mk_23, (fun _ h => absurd h List.not_mem_nil)⟩)⟩)⟩)⟩)⟩)⟩)⟩)⟩)⟩)⟩)⟩)⟩)⟩)⟩)⟩)⟩)⟩)⟩)⟩)⟩)⟩)⟩)⟩)⟩)
theorem qm_mlk_ok_1 : ∀ e ∈ qm_mlk_1, qm_ML e := (List.forall_mem_cons.mpr ⟨mk_24, (List.forall_mem_cons.mpr ⟨mk_25, (List.forall_mem_cons.mpr ⟨mk_26, (List.forall_mem_cons.mpr ⟨mk_27, (List.forall_mem_cons.mpr ⟨mk_28, (List.forall_mem_cons.mpr ⟨mk_29, (List.forall_mem_cons.mpr ⟨mk_30, (List.forall_mem_cons.mpr ⟨mk_31, (List.forall_mem_cons.mpr ⟨mk_32, (List.forall_mem_cons.mpr ⟨mk_33, (List.forall_mem_cons.mpr ⟨mk_34, (List.forall_mem_cons.mpr ⟨mk_35, (List.forall_mem_cons.mpr ⟨mk_36, (List.forall_mem_cons.mpr ⟨mk_37, (List.forall_mem_cons.mpr ⟨mk_38, (List.forall_mem_cons.mpr ⟨mk_39, (List.forall_mem_cons.mpr ⟨mk_40, (List.forall_mem_cons.mpr ⟨mk_41, (List.forall_mem_cons.mpr ⟨mk_42, (List.forall_mem_cons.mpr ⟨mk_43, (List.forall_mem_cons.mpr ⟨mk_44, (List.forall_mem_cons.mpr ⟨mk_45, (List.forall_mem_cons.mpr ⟨mk_46, (List.forall_mem_cons.mpr ⟨mk_47, (fun _ h => absurd h List.not_mem_nil)⟩)⟩)⟩)⟩)⟩)⟩)⟩)⟩)⟩)⟩)⟩)⟩)⟩)⟩)⟩)⟩)⟩)⟩)⟩)⟩)⟩)⟩)⟩)⟩)
theorem qm_mlk_ok_2 : ∀ e ∈ qm_mlk_2, qm_ML e := (List.forall_mem_cons.mpr ⟨mk_48, (List.forall_mem_cons.mpr ⟨mk_49, (List.forall_mem_cons.mpr ⟨mk_50, (List.forall_mem_cons.mpr ⟨mk_51, (List.forall_mem_cons.mpr ⟨mk_52, (List.forall_mem_cons.mpr ⟨mk_53, (List.forall_mem_cons.mpr ⟨mk_54, (List.forall_mem_cons.mpr ⟨mk_55, (List.forall_mem_cons.mpr ⟨mk_56, (List.forall_mem_cons.mpr ⟨mk_57, (List.forall_mem_cons.mpr ⟨mk_58, (List.forall_mem_cons.mpr ⟨mk_59, (List.forall_mem_cons.mpr ⟨mk_60, (List.forall_mem_cons.mpr ⟨mk_61, (List.forall_mem_cons.mpr ⟨mk_62, (List.forall_mem_cons.mpr ⟨mk_63, (List.forall_mem_cons.mpr ⟨mk_64, (List.forall_mem_cons.mpr ⟨mk_65, (List.forall_mem_cons.mpr ⟨mk_66, (List.forall_mem_cons.mpr ⟨mk_67, (List.forall_mem_cons.mpr ⟨mk_68, (List.forall_mem_cons.mpr ⟨mk_69, (List.forall_mem_cons.mpr ⟨mk_70, (List.forall_mem_cons.mpr ⟨mk_71, (fun _ h => absurd h List.not_mem_nil)⟩)⟩)⟩)⟩)⟩)⟩)⟩)⟩)⟩)⟩)⟩)⟩)⟩)⟩)⟩)⟩)⟩)⟩)⟩)⟩)⟩)⟩)⟩)⟩)
theorem qm_mlk_ok_3 : ∀ e ∈ qm_mlk_3, qm_ML e := (List.forall_mem_cons.mpr ⟨mk_72, (List.forall_mem_cons.mpr ⟨mk_73, (List.forall_mem_cons.mpr ⟨mk_74, (List.forall_mem_cons.mpr ⟨mk_75, (List.forall_mem_cons.mpr ⟨mk_76, (List.forall_mem_cons.mpr ⟨mk_77, (List.forall_mem_cons.mpr ⟨mk_78, (List.forall_mem_cons.mpr ⟨mk_79, (List.forall_mem_cons.mpr ⟨mk_80, (List.forall_mem_cons.mpr ⟨mk_81, (List.forall_mem_cons.mpr ⟨mk_82, (List.forall_mem_cons.mpr ⟨mk_83, (List.forall_mem_cons.mpr ⟨mk_84, (List.forall_mem_cons.mpr ⟨mk_85, (List.forall_mem_cons.mpr ⟨mk_86, (List.forall_mem_cons.mpr ⟨mk_87, (List.forall_mem_cons.mpr ⟨mk_88, (List.forall_mem_cons.mpr ⟨mk_89, (List.forall_mem_cons.mpr ⟨mk_90, (List.forall_mem_cons.mpr ⟨mk_91, (List.forall_mem_cons.mpr ⟨mk_92, (List.forall_mem_cons.mpr ⟨mk_93, (List.forall_mem_cons.mpr ⟨mk_94, (List.forall_mem_cons.mpr ⟨mk_95, (fun _ h => absurd h List.not_mem_nil)⟩)⟩)⟩)⟩)⟩)⟩)⟩)⟩)⟩)⟩)⟩)⟩)⟩)⟩)⟩)⟩)⟩)⟩)⟩)⟩)⟩)⟩)⟩)⟩)
theorem qm_mlk_ok_4 : ∀ e ∈ qm_mlk_4, qm_ML e := (List.forall_mem_cons.mpr ⟨mk_96, (List.forall_mem_cons.mpr ⟨mk_97, (List.forall_mem_cons.mpr ⟨mk_98, (List.forall_mem_cons.mpr ⟨mk_99, (List.forall_mem_cons.mpr ⟨mk_100, (List.forall_mem_cons.mpr ⟨mk_101, (List.forall_mem_cons.mpr ⟨mk_102, (List.forall_mem_cons.mpr ⟨mk_103, (List.forall_mem_cons.mpr ⟨mk_104, (List.forall_mem_cons.mpr ⟨mk_105, (List.forall_mem_cons.mpr ⟨mk_106, (List.forall_mem_cons.mpr ⟨mk_107, (List.forall_mem_cons.mpr ⟨mk_108, (List.forall_mem_cons.mpr ⟨mk_109, (List.forall_mem_cons.mpr ⟨mk_110, (List.forall_mem_cons.mpr ⟨mk_111, (List.forall_mem_cons.mpr ⟨mk_112, (List.forall_mem_cons.mpr ⟨mk_113, (List.forall_mem_cons.mpr ⟨mk_114, (List.forall_mem_cons.mpr ⟨mk_115, (List.forall_mem_cons.mpr ⟨mk_116, (List.forall_mem_cons.mpr ⟨mk_117, (List.forall_mem_cons.mpr ⟨mk_118, (List.forall_mem_cons.mpr ⟨mk_119, (fun _ h => absurd h List.not_mem_nil)⟩)⟩)⟩)⟩)⟩)⟩)⟩)⟩)⟩)⟩)⟩)⟩)⟩)⟩)⟩)⟩)⟩)⟩)⟩)⟩)⟩)⟩)⟩)⟩)
theorem qm_mlk_ok_5 : ∀ e ∈ qm_mlk_5, qm_ML e := (List.forall_mem_cons.mpr ⟨mk_120, (List.forall_mem_cons.mpr ⟨mk_121, (List.forall_mem_cons.mpr ⟨mk_122, (List.forall_mem_cons.mpr ⟨mk_123, (List.forall_mem_cons.mpr ⟨mk_124, (List.forall_mem_cons.mpr ⟨mk_125, (List.forall_mem_cons.mpr ⟨mk_126, (List.forall_mem_cons.mpr ⟨mk_127, (List.forall_mem_cons.mpr ⟨mk_128, (List.forall_mem_cons.mpr ⟨mk_129, (List.forall_mem_cons.mpr ⟨mk_130, (List.forall_mem_cons.mpr ⟨mk_131, (List.forall_mem_cons.mpr ⟨mk_132, (List.forall_mem_cons.mpr ⟨mk_133, (List.forall_mem_cons.mpr ⟨mk_134, (List.forall_mem_cons.mpr ⟨mk_135, (List.forall_mem_cons.mpr ⟨mk_136, (List.forall_mem_cons.mpr ⟨mk_137, (List.forall_mem_cons.mpr ⟨mk_138, (List.forall_mem_cons.mpr ⟨mk_139, (List.forall_mem_cons.mpr ⟨mk_140, (List.forall_mem_cons.mpr ⟨mk_141, (List.forall_mem_cons.mpr ⟨mk_142, (List.forall_mem_cons.mpr ⟨mk_143, (fun _ h => absurd h List.not_mem_nil)⟩)⟩)⟩)⟩)⟩)⟩)⟩)⟩)⟩)⟩)⟩)⟩)⟩)⟩)⟩)⟩)⟩)⟩)⟩)⟩)⟩)⟩)⟩)⟩)
theorem qm_mlk_ok_6 : ∀ e ∈ qm_mlk_6, qm_ML e := (List.forall_mem_cons.mpr ⟨mk_144, (List.forall_mem_cons.mpr ⟨mk_145, (List.forall_mem_cons.mpr ⟨mk_146, (List.forall_mem_cons.mpr ⟨mk_147, (List.forall_mem_cons.mpr ⟨mk_148, (List.forall_mem_cons.mpr ⟨mk_149, (List.forall_mem_cons.mpr ⟨mk_150, (List.forall_mem_cons.mpr ⟨mk_151, (List.forall_mem_cons.mpr ⟨mk_152, (List.forall_mem_cons.mpr ⟨mk_153, (List.forall_mem_cons.mpr ⟨mk_154, (List.forall_mem_cons.mpr ⟨mk_155, (List.forall_mem_cons.mpr ⟨mk_156, (List.forall_mem_cons.mpr ⟨mk_157, (List.forall_mem_cons.mpr ⟨mk_158, (List.forall_mem_cons.mpr ⟨mk_159, (List.forall_mem_cons.mpr ⟨mk_160, (List.forall_mem_cons.mpr ⟨mk_161, (List.forall_mem_cons.mpr ⟨mk_162, (List.forall_mem_cons.mpr ⟨mk_163, (List.forall_mem_cons.mpr ⟨mk_164, (List.forall_mem_cons.mpr ⟨mk_165, (List.forall_mem_cons.mpr ⟨mk_166, (List.forall_mem_cons.mpr ⟨mk_167, (fun _ h => absurd h List.not_mem_nil)⟩)⟩)⟩)⟩)⟩)⟩)⟩)⟩)⟩)⟩)⟩)⟩)⟩)⟩)⟩)⟩)⟩)⟩)⟩)⟩)⟩)⟩)⟩)⟩)
theorem qm_mlk_ok_7 : ∀ e ∈ qm_mlk_7, qm_ML e := (List.forall_mem_cons.mpr ⟨mk_168, (List.forall_mem_cons.mpr ⟨mk_169, (List.forall_mem_cons.mpr ⟨mk_170, (List.forall_mem_cons.mpr ⟨mk_171, (List.forall_mem_cons.mpr ⟨mk_172, (List.forall_mem_cons.mpr ⟨mk_173, (List.forall_mem_cons.mpr ⟨mk_174, (List.forall_mem_cons.mpr ⟨mk_175, (List.forall_mem_cons.mpr ⟨mk_176, (List.forall_mem_cons.mpr ⟨mk_177, (List.forall_mem_cons.mpr ⟨mk_178, (List.forall_mem_cons.mpr ⟨mk_179, (List.forall_mem_cons.mpr ⟨mk_180, (List.forall_mem_cons.mpr ⟨mk_181, (List.forall_mem_cons.mpr ⟨mk_182, (List.forall_mem_cons.mpr ⟨mk_183, (List.forall_mem_cons.mpr ⟨mk_184, (List.forall_mem_cons.mpr ⟨mk_185, (List.forall_mem_cons.mpr ⟨mk_186, (List.forall_mem_cons.mpr ⟨mk_187, (List.forall_mem_cons.mpr ⟨mk_188, (List.forall_mem_cons.mpr ⟨mk_189, (List.forall_mem_cons.mpr ⟨mk_190, (List.forall_mem_cons.mpr ⟨mk_191, (fun _ h => absurd h List.not_mem_nil)⟩)⟩)⟩)⟩)⟩)⟩)⟩)⟩)⟩)⟩)⟩)⟩)⟩)⟩)⟩)⟩)⟩)⟩)⟩)⟩)⟩)⟩)⟩)⟩)
theorem qm_mlk_ok_8 : ∀ e ∈ qm_mlk_8, qm_ML e := (List.forall_mem_cons.mpr ⟨mk_192, (List.forall_mem_cons.mpr ⟨mk_193, (List.forall_mem_cons.mpr ⟨mk_194, (List.forall_mem_cons.mpr ⟨mk_195, (List.forall_mem_cons.mpr ⟨mk_196, (List.forall_mem_cons.mpr ⟨mk_197, (List.forall_mem_cons.mpr ⟨mk_198, (List.forall_mem_cons.mpr ⟨mk_199, (List.forall_mem_cons.mpr ⟨mk_200, (List.forall_mem_cons.mpr ⟨mk_201, (List.forall_mem_cons.mpr ⟨mk_202, (List.forall_mem_cons.mpr ⟨mk_203, (List.forall_mem_cons.mpr ⟨mk_204, (List.forall_mem_cons.mpr ⟨mk_205, (List.forall_mem_cons.mpr ⟨mk_206, (List.forall_mem_cons.mpr ⟨mk_207, (List.forall_mem_cons.mpr ⟨mk_208, (List.forall_mem_cons.mpr ⟨mk_209, (List.forall_mem_cons.mpr ⟨mk_210, (List.forall_mem_cons.mpr ⟨mk_211, (List.forall_mem_cons.mpr ⟨mk_212, (List.forall_mem_cons.mpr ⟨mk_213, (List.forall_mem_cons.mpr ⟨mk_214, (List.forall_mem_cons.mpr ⟨mk_215, (fun _ h => absurd h List.not_mem_nil)⟩)⟩)⟩)⟩)⟩)⟩)⟩)⟩)⟩)⟩)⟩)⟩)⟩)⟩)⟩)⟩)⟩)⟩)⟩)⟩)⟩)⟩)⟩)⟩)
theorem qm_mlk_ok_9 : ∀ e ∈ qm_mlk_9, qm_ML e := (List.forall_mem_cons.mpr ⟨mk_216, (List.forall_mem_cons.mpr ⟨mk_217, (List.forall_mem_cons.mpr ⟨mk_218, (List.forall_mem_cons.mpr ⟨mk_219, (List.forall_mem_cons.mpr ⟨mk_220, (List.forall_mem_cons.mpr ⟨mk_221, (List.forall_mem_cons.mpr ⟨mk_222, (List.forall_mem_cons.mpr ⟨mk_223, (List.forall_mem_cons.mpr ⟨mk_224, (List.forall_mem_cons.mpr ⟨mk_225, (List.forall_mem_cons.mpr ⟨mk_226, (List.forall_mem_cons.mpr ⟨mk_227, (List.forall_mem_cons.mpr ⟨mk_228, (List.forall_mem_cons.mpr ⟨mk_229, (List.forall_mem_cons.mpr ⟨mk_230, (List.forall_mem_cons.mpr ⟨mk_231, (List.forall_mem_cons.mpr ⟨mk_232, (List.forall_mem_cons.mpr ⟨mk_233, (List.forall_mem_cons.mpr ⟨mk_234, (List.forall_mem_cons.mpr ⟨mk_235, (List.forall_mem_cons.mpr ⟨mk_236, (List.forall_mem_cons.mpr ⟨mk_237, (List.forall_mem_cons.mpr ⟨mk_238, (List.forall_mem_cons.mpr ⟨mk_239, (fun _ h => absurd h List.not_mem_nil)⟩)⟩)⟩)⟩)⟩)⟩)⟩)⟩)⟩)⟩)⟩)⟩)⟩)⟩)⟩)⟩)⟩)⟩)⟩)⟩)⟩)⟩)⟩)⟩)
theorem qm_mlk_ok_10 : ∀ e ∈ qm_mlk_10, qm_ML e := (List.forall_mem_cons.mpr ⟨mk_240, (List.forall_mem_cons.mpr ⟨mk_241, (List.forall_mem_cons.mpr ⟨mk_242, (List.forall_mem_cons.mpr ⟨mk_243, (List.forall_mem_cons.mpr ⟨mk_244, (List.forall_mem_cons.mpr ⟨mk_245, (List.forall_mem_cons.mpr ⟨mk_246, (List.forall_mem_cons.mpr ⟨mk_247, (List.forall_mem_cons.mpr ⟨mk_248, (List.forall_mem_cons.mpr ⟨mk_249, (List.forall_mem_cons.mpr ⟨mk_250, (List.forall_mem_cons.mpr ⟨mk_251, (List.forall_mem_cons.mpr ⟨mk_252, (List.forall_mem_cons.mpr ⟨mk_253, (fun _ h => absurd h List.not_mem_nil)⟩)⟩)⟩)⟩)⟩)⟩)⟩)⟩)⟩)⟩)⟩)⟩)⟩)⟩)
theorem qm_mlk_ok : ∀ e ∈ qm_mlk, qm_ML e := List.forall_mem_append.mpr ⟨qm_mlk_ok_0, List.forall_mem_append.mpr ⟨qm_mlk_ok_1, List.forall_mem_append.mpr ⟨qm_mlk_ok_2, List.forall_mem_append.mpr ⟨qm_mlk_ok_3, List.forall_mem_append.mpr ⟨qm_mlk_ok_4, List.forall_mem_append.mpr ⟨qm_mlk_ok_5, List.forall_mem_append.mpr ⟨qm_mlk_ok_6, List.forall_mem_append.mpr ⟨qm_mlk_ok_7, List.forall_mem_append.mpr ⟨qm_mlk_ok_8, List.forall_mem_append.mpr ⟨qm_mlk_ok_9, qm_mlk_ok_10⟩⟩⟩⟩⟩⟩⟩⟩⟩⟩
end
section
/-- what a callable method is: its code word, its name's descriptor -/
def qm_CW (f n : Nat) : Prop := qm_Tb (Cond.code (mY f) (mC f) (qm_maxL f) (mR f)) ∧ (mY f).cls ≠ "java/lang/invoke/MethodHandle" ∧ (mY f).cls ≠ "java/lang/invoke/VarHandle" ∧ plainName (mY f).cls = true ∧ (parseMethodDescriptor (mY f).desc).map (fun d => d.parameters.length) = some n
theorem cw_1 : qm_CW 1 4 := ⟨⟨qm_in2 108 rfl, rfl⟩, by decide +kernel, by decide +kernel, by decide +kernel, by decide +kernel⟩
theorem cw_2 : qm_CW 2 3 := ⟨⟨qm_in2 133 rfl, rfl⟩, by decide +kernel, by decide +kernel, by decide +kernel, by decide +kernel⟩
theorem cw_3 : qm_CW 3 4 := ⟨⟨qm_in2 142 rfl, rfl⟩, by decide +kernel, by decide +kernel, by decide +kernel, by decide +kernel⟩
theorem cw_4 : qm_CW 4 3 := ⟨⟨qm_in2 149 rfl, rfl⟩, by decide +kernel, by decide +kernel, by decide +kernel, by decide +kernel⟩
theorem cw_5 : qm_CW 5 4 := ⟨⟨qm_in2 153 rfl, rfl⟩, by decide +kernel, by decide +kernel, by decide +kernel, by decide +kernel⟩
theorem cw_6 : qm_CW 6 2 := ⟨⟨qm_in2 157 rfl, rfl⟩, by decide +kernel, by decide +kernel, by decide +kernel, by decide +kernel⟩
theorem cw_7 : qm_CW 7 3 := ⟨⟨qm_in2 165 rfl, rfl⟩, by decide +kernel, by decide +kernel, by decide +kernel, by decide +kernel⟩
theorem cw_8 : qm_CW 8 5 := ⟨⟨qm_in2 169 rfl, rfl⟩, by decide +kernel, by decide +kernel, by decide +kernel, by decide +kernel⟩
theorem cw_9 : qm_CW 9 1 := ⟨⟨qm_in2 173 rfl, rfl⟩, by decide +kernel, by decide +kernel, by decide +kernel, by decide +kernel⟩
theorem cw_10 : qm_CW 10 1 := ⟨⟨qm_in2 177 rfl, rfl⟩, by decide +kernel, by decide +kernel, by decide +kernel, by decide +kernel⟩
theorem cw_11 : qm_CW 11 0 := ⟨⟨qm_in2 181 rfl, rfl⟩, by decide +kernel, by decide +kernel, by decide +kernel, by decide +kernel⟩
theorem cw_12 : qm_CW 12 1 := ⟨⟨qm_in3 121 rfl, rfl⟩, by decide +kernel, by decide +kernel, by decide +kernel, by decide +kernel⟩
theorem cw_13 : qm_CW 13 1 := ⟨⟨qm_in3 125 rfl, rfl⟩, by decide +kernel, by decide +kernel, by decide +kernel, by decide +kernel⟩
theorem cw_14 : qm_CW 14 0 := ⟨⟨qm_in3 133 rfl, rfl⟩, by decide +kernel, by decide +kernel, by decide +kernel, by decide +kernel⟩
theorem cw_15 : qm_CW 15 1 := ⟨⟨qm_in3 137 rfl, rfl⟩, by decide +kernel, by decide +kernel, by decide +kernel, by decide +kernel⟩
theorem cw_16 : qm_CW 16 2 := ⟨⟨qm_in3 145 rfl, rfl⟩, by decide +kernel, by decide +kernel, by decide +kernel, by decide +kernel⟩
theorem cw_17 : qm_CW 17 3 := ⟨⟨qm_in3 153 rfl, rfl⟩, by decide +kernel, by decide +kernel, by decide +kernel, by decide +kernel⟩
theorem cw_18 : qm_CW 18 1 := ⟨⟨qm_in3 213 rfl, rfl⟩, by decide +kernel, by decide +kernel, by decide +kernel, by decide +kernel⟩
theorem cw_19 : qm_CW 19 1 := ⟨⟨qm_in4 20 rfl, rfl⟩, by decide +kernel, by decide +kernel, by decide +kernel, by decide +kernel⟩
theorem cw_20 : qm_CW 20 1 := ⟨⟨qm_in4 40 rfl, rfl⟩, by decide +kernel, by decide +kernel, by decide +kernel, by decide +kernel⟩
theorem cw_21 : qm_CW 21 0 := ⟨⟨qm_in4 44 rfl, rfl⟩, by decide +kernel, by decide +kernel, by decide +kernel, by decide +kernel⟩
theorem cw_22 : qm_CW 22 2 := ⟨⟨qm_in4 61 rfl, rfl⟩, by decide +kernel, by decide +kernel, by decide +kernel, by decide +kernel⟩
theorem cw_23 : qm_CW 23 3 := ⟨⟨qm_in4 93 rfl, rfl⟩, by decide +kernel, by decide +kernel, by decide +kernel, by decide +kernel⟩
theorem cw_24 : qm_CW 24 2 := ⟨⟨qm_in4 97 rfl, rfl⟩, by decide +kernel, by decide +kernel, by decide +kernel, by decide +kernel⟩
theorem cw_25 : qm_CW 25 1 := ⟨⟨qm_in4 105 rfl, rfl⟩, by decide +kernel, by decide +kernel, by decide +kernel, by decide +kernel⟩
theorem cw_26 : qm_CW 26 2 := ⟨⟨qm_in4 109 rfl, rfl⟩, by decide +kernel, by decide +kernel, by decide +kernel, by decide +kernel⟩
theorem cw_27 : qm_CW 27 4 := ⟨⟨qm_in4 113 rfl, rfl⟩, by decide +kernel, by decide +kernel, by decide +kernel, by decide +kernel⟩
theorem cw_28 : qm_CW 28 2 := ⟨⟨qm_in4 133 rfl, rfl⟩, by decide +kernel, by decide +kernel, by decide +kernel, by decide +kernel⟩
theorem cw_29 : qm_CW 29 1 := ⟨⟨qm_in4 121 rfl, rfl⟩, by decide +kernel, by decide +kernel, by decide +kernel, by decide +kernel⟩
theorem cw_30 : qm_CW 30 1 := ⟨⟨qm_in4 125 rfl, rfl⟩, by decide +kernel, by decide +kernel, by decide +kernel, by decide +kernel⟩
theorem cw_31 : qm_CW 31 1 := ⟨⟨qm_in4 129 rfl, rfl⟩, by decide +kernel, by decide +kernel, by decide +kernel, by decide +kernel⟩
theorem cw_32 : qm_CW 32 0 := ⟨⟨qm_in4 137 rfl, rfl⟩, by decide +kernel, by decide +kernel, by decide +kernel, by decide +kernel⟩
theorem cw_33 : qm_CW 33 3 := ⟨⟨qm_in4 141 rfl, rfl⟩, by decide +kernel, by decide +kernel, by decide +kernel, by decide +kernel⟩
theorem cw_34 : qm_CW 34 1 := ⟨⟨qm_in4 146 rfl, rfl⟩, by decide +kernel, by decide +kernel, by decide +kernel, by decide +kernel⟩
theorem cw_35 : qm_CW 35 0 := ⟨⟨qm_in4 151 rfl, rfl⟩, by decide +kernel, by decide +kernel, by decide +kernel, by decide +kernel⟩
theorem cw_36 : qm_CW 36 1 := ⟨⟨qm_in4 155 rfl, rfl⟩, by decide +kernel, by decide +kernel, by decide +kernel, by decide +kernel⟩
theorem cw_37 : qm_CW 37 0 := ⟨⟨qm_in4 159 rfl, rfl⟩, by decide +kernel, by decide +kernel, by decide +kernel, by decide +kernel⟩
theorem cw_38 : qm_CW 38 2 := ⟨⟨qm_in4 164 rfl, rfl⟩, by decide +kernel, by decide +kernel, by decide +kernel, by decide +kernel⟩
theorem cw_39 : qm_CW 39 1 := ⟨⟨qm_in4 168 rfl, rfl⟩, by decide +kernel, by decide +kernel, by decide +kernel, by decide +kernel⟩
theorem cw_40 : qm_CW 40 3 := ⟨⟨qm_in4 172 rfl, rfl⟩, by decide +kernel, by decide +kernel, by decide +kernel, by decide +kernel⟩
theorem cw_41 : qm_CW 41 2 := ⟨⟨qm_in4 176 rfl, rfl⟩, by decide +kernel, by decide +kernel, by decide +kernel, by decide +kernel⟩
theorem cw_42 : qm_CW 42 0 := ⟨⟨qm_in4 180 rfl, rfl⟩, by decide +kernel, by decide +kernel, by decide +kernel, by decide +kernel⟩
theorem cw_43 : qm_CW 43 0 := ⟨⟨qm_in4 190 rfl, rfl⟩, by decide +kernel, by decide +kernel, by decide +kernel, by decide +kernel⟩
theorem cw_44 : qm_CW 44 1 := ⟨⟨qm_in4 194 rfl, rfl⟩, by decide +kernel, by decide +kernel, by decide +kernel, by decide +kernel⟩
theorem cw_45 : qm_CW 45 1 := ⟨⟨qm_in4 117 rfl, rfl⟩, by decide +kernel, by decide +kernel, by decide +kernel, by decide +kernel⟩
theorem cw_46 : qm_CW 46 1 := ⟨⟨qm_in4 65 rfl, rfl⟩, by decide +kernel, by decide +kernel, by decide +kernel, by decide +kernel⟩
theorem cw_47 : qm_CW 47 1 := ⟨⟨qm_in2 161 rfl, rfl⟩, by decide +kernel, by decide +kernel, by decide +kernel, by decide +kernel⟩
theorem cw_48 : qm_CW 48 1 := ⟨⟨qm_in3 129 rfl, rfl⟩, by decide +kernel, by decide +kernel, by decide +kernel, by decide +kernel⟩
theorem cw_49 : qm_CW 49 1 := ⟨⟨qm_in2 111 rfl, rfl⟩, by decide +kernel, by decide +kernel, by decide +kernel, by decide +kernel⟩
theorem cw_50 : qm_CW 50 1 := ⟨⟨qm_in2 117 rfl, rfl⟩, by decide +kernel, by decide +kernel, by decide +kernel, by decide +kernel⟩
theorem cw_51 : qm_CW 51 2 := ⟨⟨qm_in2 145 rfl, rfl⟩, by decide +kernel, by decide +kernel, by decide +kernel, by decide +kernel⟩
theorem cw_52 : qm_CW 52 1 := ⟨⟨qm_in3 209 rfl, rfl⟩, by decide +kernel, by decide +kernel, by decide +kernel, by decide +kernel⟩
theorem cw_53 : qm_CW 53 3 := ⟨⟨qm_in2 114 rfl, rfl⟩, by decide +kernel, by decide +kernel, by decide +kernel, by decide +kernel⟩
theorem cw_54 : qm_CW 54 2 := ⟨⟨qm_in2 129 rfl, rfl⟩, by decide +kernel, by decide +kernel, by decide +kernel, by decide +kernel⟩
theorem cw_56 : qm_CW 56 2 := ⟨⟨qm_in4 207 rfl, rfl⟩, by decide +kernel, by decide +kernel, by decide +kernel, by decide +kernel⟩
theorem cw_57 : qm_CW 57 3 := ⟨⟨qm_in5 90 rfl, rfl⟩, by decide +kernel, by decide +kernel, by decide +kernel, by decide +kernel⟩
theorem cw_58 : qm_CW 58 3 := ⟨⟨qm_in6 99 rfl, rfl⟩, by decide +kernel, by decide +kernel, by decide +kernel, by decide +kernel⟩
theorem cw_59 : qm_CW 59 1 := ⟨⟨qm_in5 94 rfl, rfl⟩, by decide +kernel, by decide +kernel, by decide +kernel, by decide +kernel⟩
theorem cw_60 : qm_CW 60 2 := ⟨⟨qm_in5 102 rfl, rfl⟩, by decide +kernel, by decide +kernel, by decide +kernel, by decide +kernel⟩
theorem cw_61 : qm_CW 61 1 := ⟨⟨qm_in5 87 rfl, rfl⟩, by decide +kernel, by decide +kernel, by decide +kernel, by decide +kernel⟩
theorem cw_62 : qm_CW 62 2 := ⟨⟨qm_in5 110 rfl, rfl⟩, by decide +kernel, by decide +kernel, by decide +kernel, by decide +kernel⟩
theorem cw_63 : qm_CW 63 0 := ⟨⟨qm_in6 127 rfl, rfl⟩, by decide +kernel, by decide +kernel, by decide +kernel, by decide +kernel⟩
theorem cw_64 : qm_CW 64 4 := ⟨⟨qm_in5 83 rfl, rfl⟩, by decide +kernel, by decide +kernel, by decide +kernel, by decide +kernel⟩
theorem cw_65 : qm_CW 65 4 := ⟨⟨qm_in5 98 rfl, rfl⟩, by decide +kernel, by decide +kernel, by decide +kernel, by decide +kernel⟩
theorem cw_66 : qm_CW 66 3 := ⟨⟨qm_in5 106 rfl, rfl⟩, by decide +kernel, by decide +kernel, by decide +kernel, by decide +kernel⟩
theorem cw_67 : qm_CW 67 2 := ⟨⟨qm_in5 117 rfl, rfl⟩, by decide +kernel, by decide +kernel, by decide +kernel, by decide +kernel⟩
theorem cw_68 : qm_CW 68 4 := ⟨⟨qm_in5 114 rfl, rfl⟩, by decide +kernel, by decide +kernel, by decide +kernel, by decide +kernel⟩
theorem cw_69 : qm_CW 69 3 := ⟨⟨qm_in5 121 rfl, rfl⟩, by decide +kernel, by decide +kernel, by decide +kernel, by decide +kernel⟩
theorem cw_70 : qm_CW 70 4 := ⟨⟨qm_in5 125 rfl, rfl⟩, by decide +kernel, by decide +kernel, by decide +kernel, by decide +kernel⟩
theorem cw_71 : qm_CW 71 1 := ⟨⟨qm_in5 133 rfl, rfl⟩, by decide +kernel, by decide +kernel, by decide +kernel, by decide +kernel⟩
theorem cw_72 : qm_CW 72 2 := ⟨⟨qm_in5 129 rfl, rfl⟩, by decide +kernel, by decide +kernel, by decide +kernel, by decide +kernel⟩
theorem cw_73 : qm_CW 73 3 := ⟨⟨qm_in5 137 rfl, rfl⟩, by decide +kernel, by decide +kernel, by decide +kernel, by decide +kernel⟩
theorem cw_74 : qm_CW 74 1 := ⟨⟨qm_in5 145 rfl, rfl⟩, by decide +kernel, by decide +kernel, by decide +kernel, by decide +kernel⟩
theorem cw_75 : qm_CW 75 5 := ⟨⟨qm_in5 141 rfl, rfl⟩, by decide +kernel, by decide +kernel, by decide +kernel, by decide +kernel⟩
theorem cw_76 : qm_CW 76 1 := ⟨⟨qm_in5 149 rfl, rfl⟩, by decide +kernel, by decide +kernel, by decide +kernel, by decide +kernel⟩
theorem cw_77 : qm_CW 77 1 := ⟨⟨qm_in5 165 rfl, rfl⟩, by decide +kernel, by decide +kernel, by decide +kernel, by decide +kernel⟩
theorem cw_78 : qm_CW 78 1 := ⟨⟨qm_in5 172 rfl, rfl⟩, by decide +kernel, by decide +kernel, by decide +kernel, by decide +kernel⟩
theorem cw_79 : qm_CW 79 1 := ⟨⟨qm_in5 168 rfl, rfl⟩, by decide +kernel, by decide +kernel, by decide +kernel, by decide +kernel⟩
theorem cw_80 : qm_CW 80 0 := ⟨⟨qm_in5 161 rfl, rfl⟩, by decide +kernel, by decide +kernel, by decide +kernel, by decide +kernel⟩
theorem cw_81 : qm_CW 81 3 := ⟨⟨qm_in5 183 rfl, rfl⟩, by decide +kernel, by decide +kernel, by decide +kernel, by decide +kernel⟩
theorem cw_82 : qm_CW 82 5 := ⟨⟨qm_in5 190 rfl, rfl⟩, by decide +kernel, by decide +kernel, by decide +kernel, by decide +kernel⟩
theorem cw_83 : qm_CW 83 4 := ⟨⟨qm_in5 193 rfl, rfl⟩, by decide +kernel, by decide +kernel, by decide +kernel, by decide +kernel⟩
theorem cw_84 : qm_CW 84 6 := ⟨⟨qm_in5 196 rfl, rfl⟩, by decide +kernel, by decide +kernel, by decide +kernel, by decide +kernel⟩
theorem cw_85 : qm_CW 85 1 := ⟨⟨qm_in5 187 rfl, rfl⟩, by decide +kernel, by decide +kernel, by decide +kernel, by decide +kernel⟩
theorem cw_86 : qm_CW 86 2 := ⟨⟨qm_in6 5 rfl, rfl⟩, by decide +kernel, by decide +kernel, by decide +kernel, by decide +kernel⟩
theorem cw_87 : qm_CW 87 1 := ⟨⟨qm_in6 9 rfl, rfl⟩, by decide +kernel, by decide +kernel, by decide +kernel, by decide +kernel⟩
theorem cw_88 : qm_CW 88 1 := ⟨⟨qm_in5 232 rfl, rfl⟩, by decide +kernel, by decide +kernel, by decide +kernel, by decide +kernel⟩
theorem cw_89 : qm_CW 89 1 := ⟨⟨qm_in6 1 rfl, rfl⟩, by decide +kernel, by decide +kernel, by decide +kernel, by decide +kernel⟩
theorem cw_90 : qm_CW 90 0 := ⟨⟨qm_in6 13 rfl, rfl⟩, by decide +kernel, by decide +kernel, by decide +kernel, by decide +kernel⟩
theorem cw_91 : qm_CW 91 0 := ⟨⟨qm_in5 225 rfl, rfl⟩, by decide +kernel, by decide +kernel, by decide +kernel, by decide +kernel⟩
theorem cw_92 : qm_CW 92 0 := ⟨⟨qm_in5 229 rfl, rfl⟩, by decide +kernel, by decide +kernel, by decide +kernel, by decide +kernel⟩
theorem cw_93 : qm_CW 93 1 := ⟨⟨qm_in6 40 rfl, rfl⟩, by decide +kernel, by decide +kernel, by decide +kernel, by decide +kernel⟩
theorem cw_94 : qm_CW 94 1 := ⟨⟨qm_in6 36 rfl, rfl⟩, by decide +kernel, by decide +kernel, by decide +kernel, by decide +kernel⟩
theorem cw_95 : qm_CW 95 1 := ⟨⟨qm_in6 17 rfl, rfl⟩, by decide +kernel, by decide +kernel, by decide +kernel, by decide +kernel⟩
theorem cw_96 : qm_CW 96 0 := ⟨⟨qm_in5 236 rfl, rfl⟩, by decide +kernel, by decide +kernel, by decide +kernel, by decide +kernel⟩
theorem cw_97 : qm_CW 97 1 := ⟨⟨qm_in5 221 rfl, rfl⟩, by decide +kernel, by decide +kernel, by decide +kernel, by decide +kernel⟩
theorem cw_98 : qm_CW 98 1 := ⟨⟨qm_in5 217 rfl, rfl⟩, by decide +kernel, by decide +kernel, by decide +kernel, by decide +kernel⟩
theorem cw_99 : qm_CW 99 1 := ⟨⟨qm_in5 213 rfl, rfl⟩, by decide +kernel, by decide +kernel, by decide +kernel, by decide +kernel⟩
theorem cw_100 : qm_CW 100 7 := ⟨⟨qm_in6 28 rfl, rfl⟩, by decide +kernel, by decide +kernel, by decide +kernel, by decide +kernel⟩
theorem cw_101 : qm_CW 101 0 := ⟨⟨qm_in6 21 rfl, rfl⟩, by decide +kernel, by decide +kernel, by decide +kernel, by decide +kernel⟩
theorem cw_102 : qm_CW 102 0 := ⟨⟨qm_in6 25 rfl, rfl⟩, by decide +kernel, by decide +kernel, by decide +kernel, by decide +kernel⟩
theorem cw_103 : qm_CW 103 1 := ⟨⟨qm_in6 32 rfl, rfl⟩, by decide +kernel, by decide +kernel, by decide +kernel, by decide +kernel⟩
theorem cw_104 : qm_CW 104 0 := ⟨⟨qm_in5 180 rfl, rfl⟩, by decide +kernel, by decide +kernel, by decide +kernel, by decide +kernel⟩
theorem cw_105 : qm_CW 105 3 := ⟨⟨qm_in5 204 rfl, rfl⟩, by decide +kernel, by decide +kernel, by decide +kernel, by decide +kernel⟩
theorem cw_106 : qm_CW 106 1 := ⟨⟨qm_in5 208 rfl, rfl⟩, by decide +kernel, by decide +kernel, by decide +kernel, by decide +kernel⟩
theorem cw_107 : qm_CW 107 1 := ⟨⟨qm_in5 200 rfl, rfl⟩, by decide +kernel, by decide +kernel, by decide +kernel, by decide +kernel⟩
theorem cw_108 : qm_CW 108 0 := ⟨⟨qm_in5 176 rfl, rfl⟩, by decide +kernel, by decide +kernel, by decide +kernel, by decide +kernel⟩
theorem cw_109 : qm_CW 109 0 := ⟨⟨qm_in5 157 rfl, rfl⟩, by decide +kernel, by decide +kernel, by decide +kernel, by decide +kernel⟩
theorem cw_110 : qm_CW 110 0 := ⟨⟨qm_in5 153 rfl, rfl⟩, by decide +kernel, by decide +kernel, by decide +kernel, by decide +kernel⟩
theorem cw_111 : qm_CW 111 1 := ⟨⟨qm_in6 44 rfl, rfl⟩, by decide +kernel, by decide +kernel, by decide +kernel, by decide +kernel⟩
theorem cw_112 : qm_CW 112 1 := ⟨⟨qm_in6 48 rfl, rfl⟩, by decide +kernel, by decide +kernel, by decide +kernel, by decide +kernel⟩
theorem cw_113 : qm_CW 113 1 := ⟨⟨qm_in6 52 rfl, rfl⟩, by decide +kernel, by decide +kernel, by decide +kernel, by decide +kernel⟩
theorem cw_114 : qm_CW 114 1 := ⟨⟨qm_in6 91 rfl, rfl⟩, by decide +kernel, by decide +kernel, by decide +kernel, by decide +kernel⟩
theorem cw_115 : qm_CW 115 3 := ⟨⟨qm_in6 88 rfl, rfl⟩, by decide +kernel, by decide +kernel, by decide +kernel, by decide +kernel⟩
theorem cw_116 : qm_CW 116 3 := ⟨⟨qm_in6 96 rfl, rfl⟩, by decide +kernel, by decide +kernel, by decide +kernel, by decide +kernel⟩
theorem cw_117 : qm_CW 117 1 := ⟨⟨qm_in6 85 rfl, rfl⟩, by decide +kernel, by decide +kernel, by decide +kernel, by decide +kernel⟩
theorem cw_118 : qm_CW 118 0 := ⟨⟨qm_in6 81 rfl, rfl⟩, by decide +kernel, by decide +kernel, by decide +kernel, by decide +kernel⟩
theorem cw_119 : qm_CW 119 1 := ⟨⟨qm_in6 77 rfl, rfl⟩, by decide +kernel, by decide +kernel, by decide +kernel, by decide +kernel⟩
theorem cw_120 : qm_CW 120 4 := ⟨⟨qm_in6 73 rfl, rfl⟩, by decide +kernel, by decide +kernel, by decide +kernel, by decide +kernel⟩
theorem cw_121 : qm_CW 121 2 := ⟨⟨qm_in6 69 rfl, rfl⟩, by decide +kernel, by decide +kernel, by decide +kernel, by decide +kernel⟩
theorem cw_122 : qm_CW 122 2 := ⟨⟨qm_in6 65 rfl, rfl⟩, by decide +kernel, by decide +kernel, by decide +kernel, by decide +kernel⟩
theorem cw_123 : qm_CW 123 2 := ⟨⟨qm_in6 61 rfl, rfl⟩, by decide +kernel, by decide +kernel, by decide +kernel, by decide +kernel⟩
theorem cw_124 : qm_CW 124 2 := ⟨⟨qm_in6 103 rfl, rfl⟩, by decide +kernel, by decide +kernel, by decide +kernel, by decide +kernel⟩
theorem cw_125 : qm_CW 125 2 := ⟨⟨qm_in6 107 rfl, rfl⟩, by decide +kernel, by decide +kernel, by decide +kernel, by decide +kernel⟩
theorem cw_126 : qm_CW 126 1 := ⟨⟨qm_in6 115 rfl, rfl⟩, by decide +kernel, by decide +kernel, by decide +kernel, by decide +kernel⟩
theorem cw_127 : qm_CW 127 0 := ⟨⟨qm_in6 119 rfl, rfl⟩, by decide +kernel, by decide +kernel, by decide +kernel, by decide +kernel⟩
theorem cw_128 : qm_CW 128 0 := ⟨⟨qm_in6 123 rfl, rfl⟩, by decide +kernel, by decide +kernel, by decide +kernel, by decide +kernel⟩
theorem cw_129 : qm_CW 129 0 := ⟨⟨qm_in6 131 rfl, rfl⟩, by decide +kernel, by decide +kernel, by decide +kernel, by decide +kernel⟩
theorem cw_130 : qm_CW 130 2 := ⟨⟨qm_in6 145 rfl, rfl⟩, by decide +kernel, by decide +kernel, by decide +kernel, by decide +kernel⟩
theorem cw_131 : qm_CW 131 3 := ⟨⟨qm_in6 57 rfl, rfl⟩, by decide +kernel, by decide +kernel, by decide +kernel, by decide +kernel⟩
theorem cw_132 : qm_CW 132 0 := ⟨⟨qm_in6 135 rfl, rfl⟩, by decide +kernel, by decide +kernel, by decide +kernel, by decide +kernel⟩
theorem cw_133 : qm_CW 133 0 := ⟨⟨qm_in6 141 rfl, rfl⟩, by decide +kernel, by decide +kernel, by decide +kernel, by decide +kernel⟩
theorem cw_134 : qm_CW 134 1 := ⟨⟨qm_in6 111 rfl, rfl⟩, by decide +kernel, by decide +kernel, by decide +kernel, by decide +kernel⟩
theorem cw_135 : qm_CW 135 3 := ⟨⟨qm_in6 158 rfl, rfl⟩, by decide +kernel, by decide +kernel, by decide +kernel, by decide +kernel⟩
theorem cw_136 : qm_CW 136 1 := ⟨⟨qm_in6 154 rfl, rfl⟩, by decide +kernel, by decide +kernel, by decide +kernel, by decide +kernel⟩
theorem cw_137 : qm_CW 137 1 := ⟨⟨qm_in6 150 rfl, rfl⟩, by decide +kernel, by decide +kernel, by decide +kernel, by decide +kernel⟩
theorem cw_138 : qm_CW 138 2 := ⟨⟨qm_in6 170 rfl, rfl⟩, by decide +kernel, by decide +kernel, by decide +kernel, by decide +kernel⟩
theorem cw_139 : qm_CW 139 0 := ⟨⟨qm_in6 166 rfl, rfl⟩, by decide +kernel, by decide +kernel, by decide +kernel, by decide +kernel⟩
theorem cw_140 : qm_CW 140 1 := ⟨⟨qm_in6 162 rfl, rfl⟩, by decide +kernel, by decide +kernel, by decide +kernel, by decide +kernel⟩
theorem cw_141 : qm_CW 141 1 := ⟨⟨qm_in6 190 rfl, rfl⟩, by decide +kernel, by decide +kernel, by decide +kernel, by decide +kernel⟩
theorem cw_142 : qm_CW 142 2 := ⟨⟨qm_in6 178 rfl, rfl⟩, by decide +kernel, by decide +kernel, by decide +kernel, by decide +kernel⟩
theorem cw_143 : qm_CW 143 2 := ⟨⟨qm_in6 194 rfl, rfl⟩, by decide +kernel, by decide +kernel, by decide +kernel, by decide +kernel⟩
theorem cw_144 : qm_CW 144 1 := ⟨⟨qm_in6 186 rfl, rfl⟩, by decide +kernel, by decide +kernel, by decide +kernel, by decide +kernel⟩
theorem cw_145 : qm_CW 145 1 := ⟨⟨qm_in6 182 rfl, rfl⟩, by decide +kernel, by decide +kernel, by decide +kernel, by decide +kernel⟩
theorem cw_146 : qm_CW 146 2 := ⟨⟨qm_in6 174 rfl, rfl⟩, by decide +kernel, by decide +kernel, by decide +kernel, by decide +kernel⟩
theorem cw_147 : qm_CW 147 1 := ⟨⟨qm_in6 206 rfl, rfl⟩, by decide +kernel, by decide +kernel, by decide +kernel, by decide +kernel⟩
theorem cw_148 : qm_CW 148 1 := ⟨⟨qm_in6 202 rfl, rfl⟩, by decide +kernel, by decide +kernel, by decide +kernel, by decide +kernel⟩
theorem cw_149 : qm_CW 149 1 := ⟨⟨qm_in6 209 rfl, rfl⟩, by decide +kernel, by decide +kernel, by decide +kernel, by decide +kernel⟩
theorem cw_150 : qm_CW 150 3 := ⟨⟨qm_in6 198 rfl, rfl⟩, by decide +kernel, by decide +kernel, by decide +kernel, by decide +kernel⟩
theorem cw_151 : qm_CW 151 3 := ⟨⟨qm_in6 217 rfl, rfl⟩, by decide +kernel, by decide +kernel, by decide +kernel, by decide +kernel⟩
theorem cw_152 : qm_CW 152 1 := ⟨⟨qm_in6 221 rfl, rfl⟩, by decide +kernel, by decide +kernel, by decide +kernel, by decide +kernel⟩
theorem cw_153 : qm_CW 153 1 := ⟨⟨qm_in6 225 rfl, rfl⟩, by decide +kernel, by decide +kernel, by decide +kernel, by decide +kernel⟩
theorem cw_154 : qm_CW 154 4 := ⟨⟨qm_in6 213 rfl, rfl⟩, by decide +kernel, by decide +kernel, by decide +kernel, by decide +kernel⟩
theorem cw_155 : qm_CW 155 2 := ⟨⟨qm_in6 229 rfl, rfl⟩, by decide +kernel, by decide +kernel, by decide +kernel, by decide +kernel⟩
theorem cw_156 : qm_CW 156 3 := ⟨⟨qm_in6 233 rfl, rfl⟩, by decide +kernel, by decide +kernel, by decide +kernel, by decide +kernel⟩
theorem cw_157 : qm_CW 157 1 := ⟨⟨qm_in6 237 rfl, rfl⟩, by decide +kernel, by decide +kernel, by decide +kernel, by decide +kernel⟩
theorem cw_158 : qm_CW 158 0 := ⟨⟨qm_in7 2 rfl, rfl⟩, by decide +kernel, by decide +kernel, by decide +kernel, by decide +kernel⟩
theorem cw_159 : qm_CW 159 1 := ⟨⟨qm_in7 10 rfl, rfl⟩, by decide +kernel, by decide +kernel, by decide +kernel, by decide +kernel⟩
theorem cw_160 : qm_CW 160 2 := ⟨⟨qm_in7 6 rfl, rfl⟩, by decide +kernel, by decide +kernel, by decide +kernel, by decide +kernel⟩
theorem cw_161 : qm_CW 161 3 := ⟨⟨qm_in7 14 rfl, rfl⟩, by decide +kernel, by decide +kernel, by decide +kernel, by decide +kernel⟩
theorem cw_162 : qm_CW 162 0 := ⟨⟨qm_in7 18 rfl, rfl⟩, by decide +kernel, by decide +kernel, by decide +kernel, by decide +kernel⟩
theorem cw_163 : qm_CW 163 0 := ⟨⟨qm_in7 22 rfl, rfl⟩, by decide +kernel, by decide +kernel, by decide +kernel, by decide +kernel⟩
theorem cw_164 : qm_CW 164 1 := ⟨⟨qm_in7 26 rfl, rfl⟩, by decide +kernel, by decide +kernel, by decide +kernel, by decide +kernel⟩
theorem cw_166 : qm_CW 166 3 := ⟨⟨qm_in3 157 rfl, rfl⟩, by decide +kernel, by decide +kernel, by decide +kernel, by decide +kernel⟩
theorem cw_167 : qm_CW 167 3 := ⟨⟨qm_in3 206 rfl, rfl⟩, by decide +kernel, by decide +kernel, by decide +kernel, by decide +kernel⟩
theorem cw_168 : qm_CW 168 3 := ⟨⟨qm_in4 48 rfl, rfl⟩, by decide +kernel, by decide +kernel, by decide +kernel, by decide +kernel⟩
theorem cw_169 : qm_CW 169 1 := ⟨⟨qm_in3 227 rfl, rfl⟩, by decide +kernel, by decide +kernel, by decide +kernel, by decide +kernel⟩
theorem cw_170 : qm_CW 170 2 := ⟨⟨qm_in3 217 rfl, rfl⟩, by decide +kernel, by decide +kernel, by decide +kernel, by decide +kernel⟩
theorem cw_171 : qm_CW 171 1 := ⟨⟨qm_in3 222 rfl, rfl⟩, by decide +kernel, by decide +kernel, by decide +kernel, by decide +kernel⟩
theorem cw_172 : qm_CW 172 1 := ⟨⟨qm_in4 5 rfl, rfl⟩, by decide +kernel, by decide +kernel, by decide +kernel, by decide +kernel⟩
theorem cw_173 : qm_CW 173 1 := ⟨⟨qm_in4 11 rfl, rfl⟩, by decide +kernel, by decide +kernel, by decide +kernel, by decide +kernel⟩
theorem cw_174 : qm_CW 174 3 := ⟨⟨qm_in4 15 rfl, rfl⟩, by decide +kernel, by decide +kernel, by decide +kernel, by decide +kernel⟩
theorem cw_175 : qm_CW 175 3 := ⟨⟨qm_in4 24 rfl, rfl⟩, by decide +kernel, by decide +kernel, by decide +kernel, by decide +kernel⟩
theorem cw_176 : qm_CW 176 3 := ⟨⟨qm_in4 28 rfl, rfl⟩, by decide +kernel, by decide +kernel, by decide +kernel, by decide +kernel⟩
theorem cw_177 : qm_CW 177 3 := ⟨⟨qm_in4 32 rfl, rfl⟩, by decide +kernel, by decide +kernel, by decide +kernel, by decide +kernel⟩
theorem cw_178 : qm_CW 178 3 := ⟨⟨qm_in3 162 rfl, rfl⟩, by decide +kernel, by decide +kernel, by decide +kernel, by decide +kernel⟩
theorem cw_179 : qm_CW 179 1 := ⟨⟨qm_in3 181 rfl, rfl⟩, by decide +kernel, by decide +kernel, by decide +kernel, by decide +kernel⟩
theorem cw_180 : qm_CW 180 1 := ⟨⟨qm_in3 185 rfl, rfl⟩, by decide +kernel, by decide +kernel, by decide +kernel, by decide +kernel⟩
theorem cw_181 : qm_CW 181 3 := ⟨⟨qm_in3 189 rfl, rfl⟩, by decide +kernel, by decide +kernel, by decide +kernel, by decide +kernel⟩
theorem cw_182 : qm_CW 182 3 := ⟨⟨qm_in3 200 rfl, rfl⟩, by decide +kernel, by decide +kernel, by decide +kernel, by decide +kernel⟩
theorem cw_184 : qm_CW 184 1 := ⟨⟨qm_in4 73 rfl, rfl⟩, by decide +kernel, by decide +kernel, by decide +kernel, by decide +kernel⟩
theorem cw_185 : qm_CW 185 0 := ⟨⟨qm_in2 121 rfl, rfl⟩, by decide +kernel, by decide +kernel, by decide +kernel, by decide +kernel⟩
theorem cw_186 : qm_CW 186 2 := ⟨⟨qm_in2 137 rfl, rfl⟩, by decide +kernel, by decide +kernel, by decide +kernel, by decide +kernel⟩
theorem cw_187 : qm_CW 187 0 := ⟨⟨qm_in3 141 rfl, rfl⟩, by decide +kernel, by decide +kernel, by decide +kernel, by decide +kernel⟩
theorem cw_188 : qm_CW 188 4 := ⟨⟨qm_in2 125 rfl, rfl⟩, by decide +kernel, by decide +kernel, by decide +kernel, by decide +kernel⟩
theorem cw_189 : qm_CW 189 2 := ⟨⟨qm_in4 52 rfl, rfl⟩, by decide +kernel, by decide +kernel, by decide +kernel, by decide +kernel⟩
theorem cw_190 : qm_CW 190 1 := ⟨⟨qm_in4 57 rfl, rfl⟩, by decide +kernel, by decide +kernel, by decide +kernel, by decide +kernel⟩
theorem cw_191 : qm_CW 191 1 := ⟨⟨qm_in4 102 rfl, rfl⟩, by decide +kernel, by decide +kernel, by decide +kernel, by decide +kernel⟩
theorem cw_192 : qm_CW 192 0 := ⟨⟨qm_in3 236 rfl, rfl⟩, by decide +kernel, by decide +kernel, by decide +kernel, by decide +kernel⟩
theorem cw_193 : qm_CW 193 0 := ⟨⟨qm_in4 0 rfl, rfl⟩, by decide +kernel, by decide +kernel, by decide +kernel, by decide +kernel⟩
theorem cw_194 : qm_CW 194 0 := ⟨⟨qm_in3 231 rfl, rfl⟩, by decide +kernel, by decide +kernel, by decide +kernel, by decide +kernel⟩
theorem cw_195 : qm_CW 195 2 := ⟨⟨qm_in3 168 rfl, rfl⟩, by decide +kernel, by decide +kernel, by decide +kernel, by decide +kernel⟩
theorem cw_196 : qm_CW 196 2 := ⟨⟨qm_in3 173 rfl, rfl⟩, by decide +kernel, by decide +kernel, by decide +kernel, by decide +kernel⟩
theorem cw_197 : qm_CW 197 1 := ⟨⟨qm_in3 177 rfl, rfl⟩, by decide +kernel, by decide +kernel, by decide +kernel, by decide +kernel⟩
theorem cw_199 : qm_CW 199 3 := ⟨⟨qm_in2 185 rfl, rfl⟩, by decide +kernel, by decide +kernel, by decide +kernel, by decide +kernel⟩
theorem cw_200 : qm_CW 200 0 := ⟨⟨qm_in3 36 rfl, rfl⟩, by decide +kernel, by decide +kernel, by decide +kernel, by decide +kernel⟩
theorem cw_201 : qm_CW 201 0 := ⟨⟨qm_in3 73 rfl, rfl⟩, by decide +kernel, by decide +kernel, by decide +kernel, by decide +kernel⟩
theorem cw_202 : qm_CW 202 0 := ⟨⟨qm_in3 61 rfl, rfl⟩, by decide +kernel, by decide +kernel, by decide +kernel, by decide +kernel⟩
theorem cw_203 : qm_CW 203 1 := ⟨⟨qm_in3 45 rfl, rfl⟩, by decide +kernel, by decide +kernel, by decide +kernel, by decide +kernel⟩
theorem cw_204 : qm_CW 204 1 := ⟨⟨qm_in3 85 rfl, rfl⟩, by decide +kernel, by decide +kernel, by decide +kernel, by decide +kernel⟩
theorem cw_205 : qm_CW 205 1 := ⟨⟨qm_in3 77 rfl, rfl⟩, by decide +kernel, by decide +kernel, by decide +kernel, by decide +kernel⟩
theorem cw_206 : qm_CW 206 1 := ⟨⟨qm_in3 41 rfl, rfl⟩, by decide +kernel, by decide +kernel, by decide +kernel, by decide +kernel⟩
theorem cw_207 : qm_CW 207 0 := ⟨⟨qm_in3 65 rfl, rfl⟩, by decide +kernel, by decide +kernel, by decide +kernel, by decide +kernel⟩
theorem cw_208 : qm_CW 208 2 := ⟨⟨qm_in3 69 rfl, rfl⟩, by decide +kernel, by decide +kernel, by decide +kernel, by decide +kernel⟩
theorem cw_209 : qm_CW 209 2 := ⟨⟨qm_in3 89 rfl, rfl⟩, by decide +kernel, by decide +kernel, by decide +kernel, by decide +kernel⟩
theorem cw_210 : qm_CW 210 1 := ⟨⟨qm_in3 116 rfl, rfl⟩, by decide +kernel, by decide +kernel, by decide +kernel, by decide +kernel⟩
theorem cw_211 : qm_CW 211 1 := ⟨⟨qm_in3 93 rfl, rfl⟩, by decide +kernel, by decide +kernel, by decide +kernel, by decide +kernel⟩
theorem cw_212 : qm_CW 212 1 := ⟨⟨qm_in3 97 rfl, rfl⟩, by decide +kernel, by decide +kernel, by decide +kernel, by decide +kernel⟩
theorem cw_213 : qm_CW 213 1 := ⟨⟨qm_in3 101 rfl, rfl⟩, by decide +kernel, by decide +kernel, by decide +kernel, by decide +kernel⟩
theorem cw_214 : qm_CW 214 1 := ⟨⟨qm_in3 105 rfl, rfl⟩, by decide +kernel, by decide +kernel, by decide +kernel, by decide +kernel⟩
theorem cw_215 : qm_CW 215 1 := ⟨⟨qm_in3 109 rfl, rfl⟩, by decide +kernel, by decide +kernel, by decide +kernel, by decide +kernel⟩
theorem cw_216 : qm_CW 216 2 := ⟨⟨qm_in3 113 rfl, rfl⟩, by decide +kernel, by decide +kernel, by decide +kernel, by decide +kernel⟩
theorem cw_218 : qm_CW 218 1 := ⟨⟨qm_in4 69 rfl, rfl⟩, by decide +kernel, by decide +kernel, by decide +kernel, by decide +kernel⟩
theorem cw_219 : qm_CW 219 5 := ⟨⟨qm_in4 80 rfl, rfl⟩, by decide +kernel, by decide +kernel, by decide +kernel, by decide +kernel⟩
theorem cw_220 : qm_CW 220 2 := ⟨⟨qm_in4 84 rfl, rfl⟩, by decide +kernel, by decide +kernel, by decide +kernel, by decide +kernel⟩
theorem cw_222 : qm_CW 222 0 := ⟨⟨qm_in3 32 rfl, rfl⟩, by decide +kernel, by decide +kernel, by decide +kernel, by decide +kernel⟩
theorem cw_223 : qm_CW 223 1 := ⟨⟨qm_in3 57 rfl, rfl⟩, by decide +kernel, by decide +kernel, by decide +kernel, by decide +kernel⟩
theorem cw_224 : qm_CW 224 1 := ⟨⟨qm_in3 81 rfl, rfl⟩, by decide +kernel, by decide +kernel, by decide +kernel, by decide +kernel⟩
theorem cw_225 : qm_CW 225 1 := ⟨⟨qm_in3 49 rfl, rfl⟩, by decide +kernel, by decide +kernel, by decide +kernel, by decide +kernel⟩
theorem cw_226 : qm_CW 226 2 := ⟨⟨qm_in3 149 rfl, rfl⟩, by decide +kernel, by decide +kernel, by decide +kernel, by decide +kernel⟩
theorem cw_227 : qm_CW 227 1 := ⟨⟨qm_in3 52 rfl, rfl⟩, by decide +kernel, by decide +kernel, by decide +kernel, by decide +kernel⟩
theorem cw_229 : qm_CW 229 2 := ⟨⟨qm_in2 189 rfl, rfl⟩, by decide +kernel, by decide +kernel, by decide +kernel, by decide +kernel⟩
theorem cw_230 : qm_CW 230 3 := ⟨⟨qm_in3 13 rfl, rfl⟩, by decide +kernel, by decide +kernel, by decide +kernel, by decide +kernel⟩
theorem cw_231 : qm_CW 231 3 := ⟨⟨qm_in2 197 rfl, rfl⟩, by decide +kernel, by decide +kernel, by decide +kernel, by decide +kernel⟩
theorem cw_232 : qm_CW 232 3 := ⟨⟨qm_in2 200 rfl, rfl⟩, by decide +kernel, by decide +kernel, by decide +kernel, by decide +kernel⟩
theorem cw_233 : qm_CW 233 3 := ⟨⟨qm_in3 20 rfl, rfl⟩, by decide +kernel, by decide +kernel, by decide +kernel, by decide +kernel⟩
theorem cw_234 : qm_CW 234 3 := ⟨⟨qm_in3 25 rfl, rfl⟩, by decide +kernel, by decide +kernel, by decide +kernel, by decide +kernel⟩
theorem cw_235 : qm_CW 235 1 := ⟨⟨qm_in3 28 rfl, rfl⟩, by decide +kernel, by decide +kernel, by decide +kernel, by decide +kernel⟩
theorem cw_236 : qm_CW 236 1 := ⟨⟨qm_in2 192 rfl, rfl⟩, by decide +kernel, by decide +kernel, by decide +kernel, by decide +kernel⟩
theorem cw_237 : qm_CW 237 1 := ⟨⟨qm_in3 16 rfl, rfl⟩, by decide +kernel, by decide +kernel, by decide +kernel, by decide +kernel⟩
theorem cw_239 : qm_CW 239 1 := ⟨⟨qm_in4 184 rfl, rfl⟩, by decide +kernel, by decide +kernel, by decide +kernel, by decide +kernel⟩
theorem cw_240 : qm_CW 240 2 := ⟨⟨qm_in4 197 rfl, rfl⟩, by decide +kernel, by decide +kernel, by decide +kernel, by decide +kernel⟩
def qm_cp_0 : List (Nat × Nat) := [(1, 4), (2, 3), (3, 4), (4, 3), (5, 4), (6, 2), (7, 3), (8, 5), (9, 1), (10, 1), (11, 0), (12, 1), (13, 1), (14, 0), (15, 1), (16, 2), (17, 3), (18, 1), (19, 1), (20, 1), (21, 0), (22, 2), (23, 3), (24, 2)]
theorem qm_cp_ok_0 : ∀ e ∈ qm_cp_0, qm_CW e.1 e.2 := (List.forall_mem_cons.mpr ⟨cw_1, (List.forall_mem_cons.mpr ⟨cw_2, (List.forall_mem_cons.mpr ⟨cw_3, (List.forall_mem_cons.mpr ⟨cw_4, (List.forall_mem_cons.mpr ⟨cw_5, (List.forall_mem_cons.mpr ⟨cw_6, (List.forall_mem_cons.mpr ⟨cw_7, (List.forall_mem_cons.mpr ⟨cw_8, (List.forall_mem_cons.mpr ⟨cw_9, (List.forall_mem_cons.mpr ⟨cw_10, (List.forall_mem_cons.mpr ⟨cw_11, (List.forall_mem_cons.mpr ⟨cw_12, (List.forall_mem_cons.mpr ⟨cw_13, (List.forall_mem_cons.mpr ⟨cw_14, (List.forall_mem_cons.mpr ⟨cw_15, (List.forall_mem_cons.mpr ⟨cw_16, (List.forall_mem_cons.mpr ⟨cw_17, (List.forall_mem_cons.mpr ⟨cw_18, (List.forall_mem_cons.mpr ⟨cw_19, (List.forall_mem_cons.mpr ⟨cw_20, (List.forall_mem_cons.mpr ⟨cw_21, (List.forall_mem_cons.mpr ⟨cw_22, (List.forall_mem_cons.mpr ⟨cw_23, (List.forall_mem_cons.mpr ⟨cw_24, (fun _ h => absurd h List.not_mem_nil)⟩)⟩)⟩)⟩)⟩)⟩)⟩)⟩)⟩)⟩)⟩)⟩)⟩)⟩)⟩)⟩)⟩)⟩)⟩)⟩)⟩)⟩)⟩)⟩)
def qm_cp_1 : List (Nat × Nat) := [(25, 1), (26, 2), (27, 4), (28, 2), (29, 1), (30, 1), (31, 1), (32, 0), (33, 3), (34, 1), (35, 0), (36, 1), (37, 0), (38, 2), (39, 1), (40, 3), (41, 2), (42, 0), (43, 0), (44, 1), (45, 1), (46, 1), (47, 1), (48, 1)]
theorem qm_cp_ok_1 : ∀ e ∈ qm_cp_1, qm_CW e.1 e.2 := (List.forall_mem_cons.mpr ⟨cw_25, (List.forall_mem_cons.mpr ⟨cw_26, (List.forall_mem_cons.mpr ⟨cw_27, (List.forall_mem_cons.mpr ⟨cw_28, (List.forall_mem_cons.mpr ⟨cw_29, (List.forall_mem_cons.mpr ⟨cw_30, (List.forall_mem_cons.mpr ⟨cw_31, (List.forall_mem_cons.mpr ⟨cw_32, (List.forall_mem_cons.mpr ⟨cw_33, (List.forall_mem_cons.mpr ⟨cw_34, (List.forall_mem_cons.mpr ⟨cw_35, (List.forall_mem_cons.mpr ⟨cw_36, (List.forall_mem_cons.mpr ⟨cw_37, (List.forall_mem_cons.mpr ⟨cw_38, (List.forall_mem_cons.mpr ⟨cw_39, (List.forall_mem_cons.mpr ⟨cw_40, (List.forall_mem_cons.mpr ⟨cw_41, (List.forall_mem_cons.mpr ⟨cw_42, (List.forall_mem_cons.mpr ⟨cw_43, (List.forall_mem_cons.mpr ⟨cw_44, (List.forall_mem_cons.mpr ⟨cw_45, (List.forall_mem_cons.mpr ⟨cw_46, (List.forall_mem_cons.mpr ⟨cw_47, (List.forall_mem_cons.mpr ⟨cw_48, (fun _ h => absurd h List.not_mem_nil)⟩)⟩)⟩)⟩)⟩)⟩)⟩)⟩)⟩)⟩)⟩)⟩)⟩)⟩)⟩)⟩)⟩)⟩)⟩)⟩)⟩)⟩)⟩)⟩)
def qm_cp_2 : List (Nat × Nat) := [(49, 1), (50, 1), (51, 2), (52, 1), (53, 3), (54, 2), (56, 2), (57, 3), (58, 3), (59, 1), (60, 2), (61, 1), (62, 2), (63, 0), (64, 4), (65, 4), (66, 3), (67, 2), (68, 4), (69, 3), (70, 4), (71, 1), (72, 2), (73, 3)]
theorem qm_cp_ok_2 : ∀ e ∈ qm_cp_2, qm_CW e.1 e.2 := (List.forall_mem_cons.mpr ⟨cw_49, (List.forall_mem_cons.mpr ⟨cw_50, (List.forall_mem_cons.mpr ⟨cw_51, (List.forall_mem_cons.mpr ⟨cw_52, (List.forall_mem_cons.mpr ⟨cw_53, (List.forall_mem_cons.mpr ⟨cw_54, (List.forall_mem_cons.mpr ⟨cw_56, (List.forall_mem_cons.mpr ⟨cw_57, (List.forall_mem_cons.mpr ⟨cw_58, (List.forall_mem_cons.mpr ⟨cw_59, (List.forall_mem_cons.mpr ⟨cw_60, (List.forall_mem_cons.mpr ⟨cw_61, (List.forall_mem_cons.mpr ⟨cw_62, (List.forall_mem_cons.mpr ⟨cw_63, (List.forall_mem_cons.mpr ⟨cw_64, (List.forall_mem_cons.mpr ⟨cw_65, (List.forall_mem_cons.mpr ⟨cw_66, (List.forall_mem_cons.mpr ⟨cw_67, (List.forall_mem_cons.mpr ⟨cw_68, (List.forall_mem_cons.mpr ⟨cw_69, (List.forall_mem_cons.mpr ⟨cw_70, (List.forall_mem_cons.mpr ⟨cw_71, (List.forall_mem_cons.mpr ⟨cw_72, (List.forall_mem_cons.mpr ⟨cw_73, (fun _ h => absurd h List.not_mem_nil)⟩)⟩)⟩)⟩)⟩)⟩)⟩)⟩)⟩)⟩)⟩)⟩)⟩)⟩)⟩)⟩)⟩)⟩)⟩)⟩)⟩)⟩)⟩)⟩)
def qm_cp_3 : List (Nat × Nat) := [(74, 1), (75, 5), (76, 1), (77, 1), (78, 1), (79, 1), (80, 0), (81, 3), (82, 5), (83, 4), (84, 6), (85, 1), (86, 2), (87, 1), (88, 1), (89, 1), (90, 0), (91, 0), (92, 0), (93, 1), (94, 1), (95, 1), (96, 0), (97, 1)]
theorem qm_cp_ok_3 : ∀ e ∈ qm_cp_3, qm_CW e.1 e.2 := (List.forall_mem_cons.mpr ⟨cw_74, (List.forall_mem_cons.mpr ⟨cw_75, (List.forall_mem_cons.mpr ⟨cw_76, (List.forall_mem_cons.mpr ⟨cw_77, (List.forall_mem_cons.mpr ⟨cw_78, (List.forall_mem_cons.mpr ⟨cw_79, (List.forall_mem_cons.mpr ⟨cw_80, (List.forall_mem_cons.mpr ⟨cw_81, (List.forall_mem_cons.mpr ⟨cw_82, (List.forall_mem_cons.mpr ⟨cw_83, (List.forall_mem_cons.mpr ⟨cw_84, (List.forall_mem_cons.mpr ⟨cw_85, (List.forall_mem_cons.mpr ⟨cw_86, (List.forall_mem_cons.mpr ⟨cw_87, (List.forall_mem_cons.mpr ⟨cw_88, (List.forall_mem_cons.mpr ⟨cw_89, (List.forall_mem_cons.mpr ⟨cw_90, (List.forall_mem_cons.mpr ⟨cw_91, (List.forall_mem_cons.mpr ⟨cw_92, (List.forall_mem_cons.mpr ⟨cw_93, (List.forall_mem_cons.mpr ⟨cw_94, (List.forall_mem_cons.mpr ⟨cw_95, (List.forall_mem_cons.mpr ⟨cw_96, (List.forall_mem_cons.mpr ⟨cw_97, (fun _ h => absurd h List.not_mem_nil)⟩)⟩)⟩)⟩)⟩)⟩)⟩)⟩)⟩)⟩)⟩)⟩)⟩)⟩)⟩)⟩)⟩)⟩)⟩)⟩)⟩)⟩)⟩)⟩)
def qm_cp_4 : List (Nat × Nat) := [(98, 1), (99, 1), (100, 7), (101, 0), (102, 0), (103, 1), (104, 0), (105, 3), (106, 1), (107, 1), (108, 0), (109, 0), (110, 0), (111, 1), (112, 1), (113, 1), (114, 1), (115, 3), (116, 3), (117, 1), (118, 0), (119, 1), (120, 4), (121, 2)]
theorem qm_cp_ok_4 : ∀ e ∈ qm_cp_4, qm_CW e.1 e.2 := (List.forall_mem_cons.mpr ⟨cw_98, (List.forall_mem_cons.mpr ⟨cw_99, (List.forall_mem_cons.mpr ⟨cw_100, (List.forall_mem_cons.mpr ⟨cw_101, (List.forall_mem_cons.mpr ⟨cw_102, (List.forall_mem_cons.mpr ⟨cw_103, (List.forall_mem_cons.mpr ⟨cw_104, (List.forall_mem_cons.mpr ⟨cw_105, (List.forall_mem_cons.mpr ⟨cw_106, (List.forall_mem_cons.mpr ⟨cw_107, (List.forall_mem_cons.mpr ⟨cw_108, (List.forall_mem_cons.mpr ⟨cw_109, (List.forall_mem_cons.mpr ⟨cw_110, (List.forall_mem_cons.mpr ⟨cw_111, (List.forall_mem_cons.mpr ⟨cw_112, (List.forall_mem_cons.mpr ⟨cw_113, (List.forall_mem_cons.mpr ⟨cw_114, (List.forall_mem_cons.mpr ⟨cw_115, (List.forall_mem_cons.mpr ⟨cw_116, (List.forall_mem_cons.mpr ⟨cw_117, (List.forall_mem_cons.mpr ⟨cw_118, (List.forall_mem_cons.mpr ⟨cw_119, (List.forall_mem_cons.mpr ⟨cw_120, (List.forall_mem_cons.mpr ⟨cw_121, (fun _ h => absurd h List.not_mem_nil)⟩)⟩)⟩)⟩)⟩)⟩)⟩)⟩)⟩)⟩)⟩)⟩)⟩)⟩)⟩)⟩)⟩)⟩)⟩)⟩)⟩)⟩)⟩)⟩)
def qm_cp_5 : List (Nat × Nat) := [(122, 2), (123, 2), (124, 2), (125, 2), (126, 1), (127, 0), (128, 0), (129, 0), (130, 2), (131, 3), (132, 0), (133, 0), (134, 1), (135, 3), (136, 1), (137, 1), (138, 2), (139, 0), (140, 1), (141, 1), (142, 2), (143, 2), (144, 1), (145, 1)]
theorem qm_cp_ok_5 : ∀ e ∈ qm_cp_5, qm_CW e.1 e.2 := (List.forall_mem_cons.mpr ⟨cw_122, (List.forall_mem_cons.mpr ⟨cw_123, (List.forall_mem_cons.mpr ⟨cw_124, (List.forall_mem_cons.mpr ⟨cw_125, (List.forall_mem_cons.mpr ⟨cw_126, (List.forall_mem_cons.mpr ⟨cw_127, (List.forall_mem_cons.mpr ⟨cw_128, (List.forall_mem_cons.mpr ⟨cw_129, (List.forall_mem_cons.mpr ⟨cw_130, (List.forall_mem_cons.mpr ⟨cw_131, (List.forall_mem_cons.mpr ⟨cw_132, (List.forall_mem_cons.mpr ⟨cw_133, (List.forall_mem_cons.mpr ⟨cw_134, (List.forall_mem_cons.mpr ⟨cw_135, (List.forall_mem_cons.mpr ⟨cw_136, (List.forall_mem_cons.mpr ⟨cw_137, (List.forall_mem_cons.mpr ⟨cw_138, (List.forall_mem_cons.mpr ⟨cw_139, (List.forall_mem_cons.mpr ⟨cw_140, (List.forall_mem_cons.mpr ⟨cw_141, (List.forall_mem_cons.mpr ⟨cw_142, (List.forall_mem_cons.mpr ⟨cw_143, (List.forall_mem_cons.mpr ⟨cw_144, (List.forall_mem_cons.mpr ⟨cw_145, (fun _ h => absurd h List.not_mem_nil)⟩)⟩)⟩)⟩)⟩)⟩)⟩)⟩)⟩)⟩)⟩)⟩)⟩)⟩)⟩)⟩)⟩)⟩)⟩)⟩)⟩)⟩)⟩)⟩)
def qm_cp_6 : List (Nat × Nat) := [(146, 2), (147, 1), (148, 1), (149, 1), (150, 3), (151, 3), (152, 1), (153, 1), (154, 4), (155, 2), (156, 3), (157, 1), (158, 0), (159, 1), (160, 2), (161, 3), (162, 0), (163, 0), (164, 1), (166, 3), (167, 3), (168, 3), (169, 1), (170, 2)]
theorem qm_cp_ok_6 : ∀ e ∈ qm_cp_6, qm_CW e.1 e.2 := (List.forall_mem_cons.mpr ⟨cw_146, (List.forall_mem_cons.mpr ⟨cw_147, (List.forall_mem_cons.mpr ⟨cw_148, (List.forall_mem_cons.mpr ⟨cw_149, (List.forall_mem_cons.mpr ⟨cw_150, (List.forall_mem_cons.mpr ⟨cw_151, (List.forall_mem_cons.mpr ⟨cw_152, (List.forall_mem_cons.mpr ⟨cw_153, (List.forall_mem_cons.mpr ⟨cw_154, (List.forall_mem_cons.mpr ⟨cw_155, (List.forall_mem_cons.mpr ⟨cw_156, (List.forall_mem_cons.mpr ⟨cw_157, (List.forall_mem_cons.mpr ⟨cw_158, (List.forall_mem_cons.mpr ⟨cw_159, (List.forall_mem_cons.mpr ⟨cw_160, (List.forall_mem_cons.mpr ⟨cw_161, (List.forall_mem_cons.mpr ⟨cw_162, (List.forall_mem_cons.mpr ⟨cw_163, (List.forall_mem_cons.mpr ⟨cw_164, (List.forall_mem_cons.mpr ⟨cw_166, (List.forall_mem_cons.mpr ⟨cw_167, (List.forall_mem_cons.mpr ⟨cw_168, (List.forall_mem_cons.mpr ⟨cw_169, (List.forall_mem_cons.mpr ⟨cw_170, (fun _ h => absurd h List.not_mem_nil)⟩)⟩)⟩)⟩)⟩)⟩)⟩)⟩)⟩)⟩)⟩)⟩)⟩)⟩)⟩)⟩)⟩)⟩)⟩)⟩)⟩)⟩)⟩)⟩)
def qm_cp_7 : List (Nat × Nat) := [(171, 1), (172, 1), (173, 1), (174, 3), (175, 3), (176, 3), (177, 3), (178, 3), (179, 1), (180, 1), (181, 3), (182, 3), (184, 1), (185, 0), (186, 2), (187, 0), (188, 4), (189, 2), (190, 1), (191, 1), (192, 0), (193, 0), (194, 0), (195, 2)]
theorem qm_cp_ok_7 : ∀ e ∈ qm_cp_7, qm_CW e.1 e.2 := (List.forall_mem_cons.mpr ⟨cw_171, (List.forall_mem_cons.mpr ⟨cw_172, (List.forall_mem_cons.mpr ⟨cw_173, (List.forall_mem_cons.mpr ⟨cw_174, (List.forall_mem_cons.mpr ⟨cw_175, (List.forall_mem_cons.mpr ⟨cw_176, (List.forall_mem_cons.mpr ⟨cw_177, (List.forall_mem_cons.mpr ⟨cw_178, (List.forall_mem_cons.mpr ⟨cw_179, (List.forall_mem_cons.mpr ⟨cw_180, (List.forall_mem_cons.mpr ⟨cw_181, (List.forall_mem_cons.mpr ⟨cw_182, (List.forall_mem_cons.mpr ⟨cw_184, (List.forall_mem_cons.mpr ⟨cw_185, (List.forall_mem_cons.mpr ⟨cw_186, (List.forall_mem_cons.mpr ⟨cw_187, (List.forall_mem_cons.mpr ⟨cw_188, (List.forall_mem_cons.mpr ⟨cw_189, (List.forall_mem_cons.mpr ⟨cw_190, (List.forall_mem_cons.mpr ⟨cw_191, (List.forall_mem_cons.mpr ⟨cw_192, (List.forall_mem_cons.mpr ⟨cw_193, (List.forall_mem_cons.mpr ⟨cw_194, (List.forall_mem_cons.mpr ⟨cw_195, (fun _ h => absurd h List.not_mem_nil)⟩)⟩)⟩)⟩)⟩)⟩)⟩)⟩)⟩)⟩)⟩)⟩)⟩)⟩)⟩)⟩)⟩)⟩)⟩)⟩)⟩)⟩)⟩)⟩)
def qm_cp_8 : List (Nat × Nat) := [(196, 2), (197, 1), (199, 3), (200, 0), (201, 0), (202, 0), (203, 1), (204, 1), (205, 1), (206, 1), (207, 0), (208, 2), (209, 2), (210, 1), (211, 1), (212, 1), (213, 1), (214, 1), (215, 1), (216, 2), (218, 1), (219, 5), (220, 2), (222, 0)]
theorem qm_cp_ok_8 : ∀ e ∈ qm_cp_8, qm_CW e.1 e.2 := (List.forall_mem_cons.mpr ⟨cw_196, (List.forall_mem_cons.mpr ⟨cw_197, (List.forall_mem_cons.mpr ⟨cw_199, (List.forall_mem_cons.mpr ⟨cw_200, (List.forall_mem_cons.mpr ⟨cw_201, (List.forall_mem_cons.mpr ⟨cw_202, (List.forall_mem_cons.mpr ⟨cw_203, (List.forall_mem_cons.mpr ⟨cw_204, (List.forall_mem_cons.mpr ⟨cw_205, (List.forall_mem_cons.mpr ⟨cw_206, (List.forall_mem_cons.mpr ⟨cw_207, (List.forall_mem_cons.mpr ⟨cw_208, (List.forall_mem_cons.mpr ⟨cw_209, (List.forall_mem_cons.mpr ⟨cw_210, (List.forall_mem_cons.mpr ⟨cw_211, (List.forall_mem_cons.mpr ⟨cw_212, (List.forall_mem_cons.mpr ⟨cw_213, (List.forall_mem_cons.mpr ⟨cw_214, (List.forall_mem_cons.mpr ⟨cw_215, (List.forall_mem_cons.mpr ⟨cw_216, (List.forall_mem_cons.mpr ⟨cw_218, (List.forall_mem_cons.mpr ⟨cw_219, (List.forall_mem_cons.mpr ⟨cw_220, (List.forall_mem_cons.mpr ⟨cw_222, (fun _ h => absurd h List.not_mem_nil)⟩)⟩)⟩)⟩)⟩)⟩)⟩)⟩)⟩)⟩)⟩)⟩)⟩)⟩)⟩)⟩)⟩)⟩)⟩)⟩)⟩)⟩)⟩)⟩)
def qm_cp_9 : List (Nat × Nat) := [(223, 1), (224, 1), (225, 1), (226, 2), (227, 1), (229, 2), (230, 3), (231, 3), (232, 3), (233, 3), (234, 3), (235, 1), (236, 1), (237, 1), (239, 1), (240, 2)]
theorem qm_cp_ok_9 : ∀ e ∈ qm_cp_9, qm_CW e.1 e.2 := (List.forall_mem_cons.mpr ⟨cw_223, (List.forall_mem_cons.mpr ⟨cw_224, (List.forall_mem_cons.mpr ⟨cw_225, (List.forall_mem_cons.mpr ⟨cw_226, (List.forall_mem_cons.mpr ⟨cw_227, (List.forall_mem_cons.mpr ⟨cw_229, (List.forall_mem_cons.mpr ⟨cw_230, (List.forall_mem_cons.mpr ⟨cw_231, (List.forall_mem_cons.mpr ⟨cw_232, (List.forall_mem_cons.mpr ⟨cw_233, (List.forall_mem_cons.mpr ⟨cw_234, (List.forall_mem_cons.mpr ⟨cw_235, (List.forall_mem_cons.mpr ⟨cw_236, (List.forall_mem_cons.mpr ⟨cw_237, (List.forall_mem_cons.mpr ⟨cw_239, (List.forall_mem_cons.mpr ⟨cw_240, (fun _ h => absurd h List.not_mem_nil)⟩)⟩)⟩)⟩)⟩)⟩)⟩)⟩)⟩)⟩)⟩)⟩)⟩)⟩)⟩)⟩)
def qm_cp : List (Nat × Nat) := qm_cp_0 ++ (qm_cp_1 ++ (qm_cp_2 ++ (qm_cp_3 ++ (qm_cp_4 ++ (qm_cp_5 ++ (qm_cp_6 ++ (qm_cp_7 ++ (qm_cp_8 ++ (qm_cp_9)))))))))
theorem qm_cp_ok : ∀ e ∈ qm_cp, qm_CW e.1 e.2 := List.forall_mem_append.mpr ⟨qm_cp_ok_0, List.forall_mem_append.mpr ⟨qm_cp_ok_1, List.forall_mem_append.mpr ⟨qm_cp_ok_2, List.forall_mem_append.mpr ⟨qm_cp_ok_3, List.forall_mem_append.mpr ⟨qm_cp_ok_4, List.forall_mem_append.mpr ⟨qm_cp_ok_5, List.forall_mem_append.mpr ⟨qm_cp_ok_6, List.forall_mem_append.mpr ⟨qm_cp_ok_7, List.forall_mem_append.mpr ⟨qm_cp_ok_8, qm_cp_ok_9⟩⟩⟩⟩⟩⟩⟩⟩⟩
end
section
/-! which instruction of the bytes a step of the machine is -/
def qk_ix (x : Instr) : Nat := match x with
  | .getfield i => i | .putfield i => i | .invokevirtual i => i | .invokestatic i => i | .ldc i => i | .ldc_w i => i | .ldc2_w i => i | _ => 0
def qk_off (x : Instr) : Int := match x with
  | .if_icmp _ o => o | .ifCond _ o => o | .ifnull o => o | .goto o => o | _ => 0
def qk_cnd (c : Nat) : Jvm.ClassFile.Cond := match c with
  | 0 => .eq | 1 => .ne | 2 => .lt | 3 => .ge | 4 => .gt | _ => .le
def qk_tsw (x : Instr) : Int × Int × Int × Array Int := match x with
  | .tableswitch d l h o => (d, l, h, o)
  | _ => (0, 0, 0, #[])
def qk_lsw (x : Instr) : Int × Array (Int × Int) := match x with
  | .lookupswitch d o => (d, o)
  | _ => (0, #[])
def qk_pairs : List Nat → List (Nat × Nat)
  | k :: b :: r => (k, b) :: qk_pairs r
  | _ => []
def qk_var (k : Nat) (x y : Instr) (n : Nat) (z : Instr) : Bool := (decide (n = 2) && decide (z = x)) || (decide (n = 1) && decide (k < 4) && decide (z = y))
def qkB (m pc : Nat) (i : qm_Ins) (x : Instr) (n : Nat) : Bool := match i.1 with
  | 0 => (decide (n = 1) && decide (x = .iconst i.2.2)) || (decide (n = 2) && decide (x = .bipush i.2.2) && decide (-128 ≤ i.2.2 ∧ i.2.2 ≤ 127)) || (decide (n = 3) && decide (x = .sipush i.2.2) && decide (-32768 ≤ i.2.2 ∧ i.2.2 ≤ 32767)) || (decide (n = 2) && decide (x = .ldc (qk_ix x)) && decide ((mN m, qk_ix x, i.2.2) ∈ qm_clk)) || (decide (n = 3) && decide (x = .ldc_w (qk_ix x)) && decide ((mN m, qk_ix x, i.2.2) ∈ qm_clk))
  | 1 => (decide (n = 1) && decide (i.2.2 = 0) && decide (x = .lconst 0)) || (decide (n = 1) && decide (i.2.2 = 1) && decide (x = .lconst 1)) || (decide (n = 3) && decide (x = .ldc2_w (qk_ix x)) && decide ((mN m, qk_ix x, i.2.2) ∈ qm_llk))
  | 2 => match i.2.1 with | [k] => qk_var k (.iload k) (.iload_n (Fin.ofNat 4 k)) n x | _ => false
  | 3 => match i.2.1 with | [k] => qk_var k (.lload k) (.lload_n (Fin.ofNat 4 k)) n x | _ => false
  | 4 => match i.2.1 with | [k] => qk_var k (.aload k) (.aload_n (Fin.ofNat 4 k)) n x | _ => false
  | 5 => match i.2.1 with | [k] => qk_var k (.istore k) (.istore_n (Fin.ofNat 4 k)) n x | _ => false
  | 6 => match i.2.1 with | [k] => qk_var k (.lstore k) (.lstore_n (Fin.ofNat 4 k)) n x | _ => false
  | 7 => match i.2.1 with | [k] => qk_var k (.astore k) (.astore_n (Fin.ofNat 4 k)) n x | _ => false
  | 8 => match i.2.1 with | [k] => decide (n = 3) && decide (x = .iinc k i.2.2) | _ => false
  | 10 => decide (n = 1) && decide (x = .iadd)
  | 11 => decide (n = 1) && decide (x = .isub)
  | 12 => decide (n = 1) && decide (x = .imul)
  | 13 => decide (n = 1) && decide (x = .idiv)
  | 14 => decide (n = 1) && decide (x = .irem)
  | 15 => decide (n = 1) && decide (x = .ineg)
  | 16 => decide (n = 1) && decide (x = .iand)
  | 17 => decide (n = 1) && decide (x = .ior)
  | 18 => decide (n = 1) && decide (x = .ishl)
  | 19 => decide (n = 1) && decide (x = .ishr)
  | 20 => decide (n = 1) && decide (x = .iushr)
  | 21 => decide (n = 1) && decide (x = .ladd)
  | 22 => decide (n = 1) && decide (x = .lsub)
  | 23 => decide (n = 1) && decide (x = .lmul)
  | 24 => decide (n = 1) && decide (x = .ldiv)
  | 25 => decide (n = 1) && decide (x = .lneg)
  | 26 => decide (n = 1) && decide (x = .land)
  | 27 => decide (n = 1) && decide (x = .lor)
  | 28 => decide (n = 1) && decide (x = .lshl)
  | 29 => decide (n = 1) && decide (x = .lcmp)
  | 30 => decide (n = 1) && decide (x = .i2l)
  | 31 => decide (n = 1) && decide (x = .l2i)
  | 32 => decide (n = 1) && decide (x = .dup)
  | 33 => decide (n = 1) && decide (x = .dup2)
  | 34 => decide (n = 1) && decide (x = .pop)
  | 40 => match i.2.1 with | [k, f] => decide (n = 3) && decide (x = .getfield (qk_ix x)) && decide ((mN m, qk_ix x, k, f) ∈ qm_flk) && decide (qm_fk k f = 0 ∨ qm_fk k f = 1) | _ => false
  | 41 => match i.2.1 with | [k, f] => decide (n = 3) && decide (x = .getfield (qk_ix x)) && decide ((mN m, qk_ix x, k, f) ∈ qm_flk) && decide (qm_fk k f = 2) | _ => false
  | 42 => match i.2.1 with | [k, f, t, mu, ad] => decide (n = 3) && decide (x = .getfield (qk_ix x)) && decide ((mN m, qk_ix x, k, f) ∈ qm_flk) && decide (qm_fk k f = 3) && decide (qm_ft k f = (t, mu, ad)) | _ => false
  | 43 => match i.2.1 with | [k, f] => decide (n = 3) && decide (x = .getfield (qk_ix x)) && decide ((mN m, qk_ix x, k, f) ∈ qm_flk) && decide (qm_fk k f = 4) | _ => false
  | 44 => match i.2.1 with | [k, f] => decide (n = 3) && decide (x = .putfield (qk_ix x)) && decide ((mN m, qk_ix x, k, f) ∈ qm_flk) && decide (qm_fk k f = 0) && decide ((qm_T k f).2.2.2 = false) | _ => false
  | 45 => match i.2.1 with | [k, f] => decide (n = 3) && decide (x = .putfield (qk_ix x)) && decide ((mN m, qk_ix x, k, f) ∈ qm_flk) && decide (qm_fk k f = 2) && decide ((qm_T k f).2.2.2 = false) | _ => false
  | 46 => match i.2.1 with | [k, f, t] => decide (n = 3) && decide (x = .putfield (qk_ix x)) && decide ((mN m, qk_ix x, k, f) ∈ qm_flk) && decide (qm_fk k f = 4) && decide ((qm_T k f).2.2.2 = false) && decide (t = 4) | _ => false
  | 47 => match i.2.1 with | [k, f] => decide (n = 3) && decide (x = .putfield (qk_ix x)) && decide ((mN m, qk_ix x, k, f) ∈ qm_flk) && decide (qm_fk k f = 1) && decide ((qm_T k f).2.2.2 = false) | _ => false
  | 50 => decide (n = 1) && decide (x = .iaload)
  | 51 => decide (n = 1) && decide (x = .iastore)
  | 52 => decide (n = 1) && decide (x = .laload)
  | 53 => decide (n = 1) && decide (x = .lastore)
  | 54 => decide (n = 1) && decide (x = .baload)
  | 55 => decide (n = 1) && decide (x = .bastore)
  | 56 => decide (n = 1) && decide (x = .aaload)
  | 57 => decide (n = 1) && decide (x = .arraylength)
  | 58 => decide (n = 2) && decide (x = .ldc 49) && decide (mN m = 5)
  | 60 => match i.2.1 with | [c, b] => decide (n = 3) && decide (x = .if_icmp (qk_cnd c) (qk_off x)) && decide ((pc : Int) + qk_off x = (qm_bpc m b : Int)) | _ => false
  | 61 => match i.2.1 with | [c, b] => decide (n = 3) && decide (x = .ifCond (qk_cnd c) (qk_off x)) && decide ((pc : Int) + qk_off x = (qm_bpc m b : Int)) | _ => false
  | 62 => match i.2.1 with | [b] => decide (n = 3) && decide (x = .ifnull (qk_off x)) && decide ((pc : Int) + qk_off x = (qm_bpc m b : Int)) | _ => false
  | 63 => match i.2.1 with | [b] => decide (n = 3) && decide (x = .goto (qk_off x)) && decide ((pc : Int) + qk_off x = (qm_bpc m b : Int)) | _ => false
  | 65 => match i.2.1 with | df :: bs => decide (x = .tableswitch (qk_tsw x).1 (qk_tsw x).2.1 (qk_tsw x).2.2.1 (qk_tsw x).2.2.2) && decide ((qk_tsw x).2.1 = i.2.2) && decide ((qk_tsw x).2.2.1 = i.2.2 + bs.length - 1) && decide (0 ≤ i.2.2) && decide (bs.length < 1000) && decide (i.2.2 < 1000) && decide ((pc : Int) + (qk_tsw x).1 = (qm_bpc m df : Int)) && decide ((qk_tsw x).2.2.2.toList.map (fun o => (pc : Int) + o) = bs.map (fun b => (qm_bpc m b : Int))) | _ => false
  | 66 => match i.2.1 with | df :: bs => decide (x = .lookupswitch (qk_lsw x).1 (qk_lsw x).2) && decide (((qk_lsw x).2.toList.zip ((qk_lsw x).2.toList.drop 1)).all (fun (a, next) => a.1 < next.1) = true) && decide ((pc : Int) + (qk_lsw x).1 = (qm_bpc m df : Int)) && decide ((qk_lsw x).2.toList.map (fun o => (o.1, (pc : Int) + o.2)) = (qk_pairs bs).map (fun q => ((q.1 : Int), (qm_bpc m q.2 : Int)))) && decide (bs.length % 2 = 0) && (qk_pairs bs).all (fun q => decide (q.1 < 1000)) | _ => false
  | 70 => decide (n = 1) && decide (x = .ireturn) && decide (mR m = some .int)
  | 71 => decide (n = 1) && decide (x = .lreturn) && decide (mR m = some .long)
  | 72 => decide (n = 1) && decide (x = .return_) && decide (mR m = none)
  | 73 => decide (n = 1) && decide (x = .ireturn) && decide (mR m = some .boolean)
  | 80 => match i.2.1 with
    | [f, a, k] => (decide (n = 3) && decide (x = .invokevirtual (qk_ix x)) && decide ((f, a - 1) ∈ qm_cp) && decide (1 ≤ a) && decide (1 ≤ k ∧ k ≤ 9) && decide (qm_R k = (mY f).cls) && (decide ((mN m, qk_ix x, f, 0, a - 1) ∈ qm_mlk) || decide ((mN m, qk_ix x, f, 2, a - 1) ∈ qm_mlk)))
        || (decide (n = 3) && decide (x = .invokestatic (qk_ix x)) && decide ((f, a) ∈ qm_cp) && decide (k = 0) && (decide ((mN m, qk_ix x, f, 1, a) ∈ qm_mlk) || decide ((mN m, qk_ix x, f, 3, a) ∈ qm_mlk)))
    | _ => false
  | 81 => decide (n = 3) && decide (x = .invokestatic (qk_ix x)) && decide ((mN m, qk_ix x, 81) ∈ qm_ilk)
  | 82 => decide (n = 3) && decide (x = .invokestatic (qk_ix x)) && decide ((mN m, qk_ix x, 82) ∈ qm_ilk)
  | 83 => decide (n = 3) && decide (x = .invokestatic (qk_ix x)) && decide ((mN m, qk_ix x, 83) ∈ qm_ilk)
  | 84 => decide (n = 3) && decide (x = .invokestatic (qk_ix x)) && decide ((mN m, qk_ix x, 84) ∈ qm_ilk)
  | 85 => decide (n = 3) && decide (x = .invokestatic (qk_ix x)) && decide ((mN m, qk_ix x, 85) ∈ qm_ilk)
  | 86 => decide (n = 3) && decide (x = .invokestatic (qk_ix x)) && decide ((mN m, qk_ix x, 86) ∈ qm_ilk)
  | 87 => decide (n = 3) && decide (x = .invokevirtual (qk_ix x)) && decide ((mN m, qk_ix x, 87) ∈ qm_ilk)
  | 88 => decide (n = 3) && decide (x = .invokevirtual (qk_ix x)) && decide ((mN m, qk_ix x, 88) ∈ qm_ilk)
  | _ => false
/-- a block at a place of the method's bytes -/
def qk_blk (m : Nat) : Nat → List qm_Ins → Bool
  | _, [] => true
  | pc, i :: c => if i.1 = 64 then (match i.2.1 with | [b] => decide (qm_bpc m b = pc) | _ => false) else match decode (mC m) pc with
    | .ok (x, n) => qkB m pc i x n && qk_blk m (pc + n) c
    | .error _ => false
def qk_m (m : Nat) : Bool := (List.range ((qm_code.getD m (0, [])).2.length)).all (fun b => qk_blk m (qm_bpc m b) (qm_blk m b)) && decide (qm_maxL m ≤ 30)
end
section
/-! the words of the fields -/
theorem lay_X0 : ∀ k, k < 3 → qm_Tb (u_lay RX0 TX0 k) := by
  intro k hk
  match k, hk with
  | 0, _ => exact ⟨qm_in1 71 rfl, rfl⟩
  | 1, _ => exact ⟨qm_in1 73 rfl, rfl⟩
  | 2, _ => exact ⟨qm_in1 75 rfl, rfl⟩
  | k + 3, hk => omega
theorem lay_X1 : ∀ k, k < 13 → qm_Tb (u_lay RX1 TX1 k) := by
  intro k hk
  match k, hk with
  | 0, _ => exact ⟨qm_in1 184 rfl, rfl⟩
  | 1, _ => exact ⟨qm_in1 186 rfl, rfl⟩
  | 2, _ => exact ⟨qm_in1 188 rfl, rfl⟩
  | 3, _ => exact ⟨qm_in1 190 rfl, rfl⟩
  | 4, _ => exact ⟨qm_in1 192 rfl, rfl⟩
  | 5, _ => exact ⟨qm_in1 194 rfl, rfl⟩
  | 6, _ => exact ⟨qm_in1 196 rfl, rfl⟩
  | 7, _ => exact ⟨qm_in1 198 rfl, rfl⟩
  | 8, _ => exact ⟨qm_in1 200 rfl, rfl⟩
  | 9, _ => exact ⟨qm_in1 202 rfl, rfl⟩
  | 10, _ => exact ⟨qm_in1 204 rfl, rfl⟩
  | 11, _ => exact ⟨qm_in1 206 rfl, rfl⟩
  | 12, _ => exact ⟨qm_in1 208 rfl, rfl⟩
  | k + 13, hk => omega
theorem lay_X2 : ∀ k, k < 6 → qm_Tb (u_lay RX2 TX2 k) := by
  intro k hk
  match k, hk with
  | 0, _ => exact ⟨qm_in1 115 rfl, rfl⟩
  | 1, _ => exact ⟨qm_in1 117 rfl, rfl⟩
  | 2, _ => exact ⟨qm_in1 119 rfl, rfl⟩
  | 3, _ => exact ⟨qm_in1 121 rfl, rfl⟩
  | 4, _ => exact ⟨qm_in1 123 rfl, rfl⟩
  | 5, _ => exact ⟨qm_in1 125 rfl, rfl⟩
  | k + 6, hk => omega
theorem lay_X3 : ∀ k, k < 5 → qm_Tb (u_lay RX3 TX3 k) := by
  intro k hk
  match k, hk with
  | 0, _ => exact ⟨qm_in2 48 rfl, rfl⟩
  | 1, _ => exact ⟨qm_in2 50 rfl, rfl⟩
  | 2, _ => exact ⟨qm_in2 52 rfl, rfl⟩
  | 3, _ => exact ⟨qm_in2 54 rfl, rfl⟩
  | 4, _ => exact ⟨qm_in2 56 rfl, rfl⟩
  | k + 5, hk => omega
theorem lay_X4 : ∀ k, k < 7 → qm_Tb (u_lay RX4 TX4 k) := by
  intro k hk
  match k, hk with
  | 0, _ => exact ⟨qm_in1 45 rfl, rfl⟩
  | 1, _ => exact ⟨qm_in1 47 rfl, rfl⟩
  | 2, _ => exact ⟨qm_in1 49 rfl, rfl⟩
  | 3, _ => exact ⟨qm_in1 51 rfl, rfl⟩
  | 4, _ => exact ⟨qm_in1 53 rfl, rfl⟩
  | 5, _ => exact ⟨qm_in1 55 rfl, rfl⟩
  | 6, _ => exact ⟨qm_in1 57 rfl, rfl⟩
  | k + 7, hk => omega
theorem lay_X5 : ∀ k, k < 4 → qm_Tb (u_lay RX5 TX5 k) := by
  intro k hk
  match k, hk with
  | 0, _ => exact ⟨qm_in1 98 rfl, rfl⟩
  | 1, _ => exact ⟨qm_in1 100 rfl, rfl⟩
  | 2, _ => exact ⟨qm_in1 102 rfl, rfl⟩
  | 3, _ => exact ⟨qm_in1 104 rfl, rfl⟩
  | k + 4, hk => omega
theorem lay_X6 : ∀ k, k < 13 → qm_Tb (u_lay RX6 TX6 k) := by
  intro k hk
  match k, hk with
  | 0, _ => exact ⟨qm_in2 2 rfl, rfl⟩
  | 1, _ => exact ⟨qm_in2 4 rfl, rfl⟩
  | 2, _ => exact ⟨qm_in2 6 rfl, rfl⟩
  | 3, _ => exact ⟨qm_in2 8 rfl, rfl⟩
  | 4, _ => exact ⟨qm_in2 10 rfl, rfl⟩
  | 5, _ => exact ⟨qm_in2 12 rfl, rfl⟩
  | 6, _ => exact ⟨qm_in2 14 rfl, rfl⟩
  | 7, _ => exact ⟨qm_in2 16 rfl, rfl⟩
  | 8, _ => exact ⟨qm_in2 18 rfl, rfl⟩
  | 9, _ => exact ⟨qm_in2 20 rfl, rfl⟩
  | 10, _ => exact ⟨qm_in2 22 rfl, rfl⟩
  | 11, _ => exact ⟨qm_in2 24 rfl, rfl⟩
  | 12, _ => exact ⟨qm_in2 26 rfl, rfl⟩
  | k + 13, hk => omega
theorem lay_X7 : ∀ k, k < 15 → qm_Tb (u_lay RX7 TX7 k) := by
  intro k hk
  match k, hk with
  | 0, _ => exact ⟨qm_in2 74 rfl, rfl⟩
  | 1, _ => exact ⟨qm_in2 76 rfl, rfl⟩
  | 2, _ => exact ⟨qm_in2 78 rfl, rfl⟩
  | 3, _ => exact ⟨qm_in2 80 rfl, rfl⟩
  | 4, _ => exact ⟨qm_in2 82 rfl, rfl⟩
  | 5, _ => exact ⟨qm_in2 84 rfl, rfl⟩
  | 6, _ => exact ⟨qm_in2 86 rfl, rfl⟩
  | 7, _ => exact ⟨qm_in2 88 rfl, rfl⟩
  | 8, _ => exact ⟨qm_in2 90 rfl, rfl⟩
  | 9, _ => exact ⟨qm_in2 92 rfl, rfl⟩
  | 10, _ => exact ⟨qm_in2 94 rfl, rfl⟩
  | 11, _ => exact ⟨qm_in2 96 rfl, rfl⟩
  | 12, _ => exact ⟨qm_in2 98 rfl, rfl⟩
  | 13, _ => exact ⟨qm_in2 100 rfl, rfl⟩
  | 14, _ => exact ⟨qm_in2 102 rfl, rfl⟩
  | k + 15, hk => omega
theorem lay_X8 : ∀ k, k < 37 → qm_Tb (u_lay RX8 TX8 k) := by
  intro k hk
  match k, hk with
  | 0, _ => exact ⟨qm_in5 3 rfl, rfl⟩
  | 1, _ => exact ⟨qm_in5 5 rfl, rfl⟩
  | 2, _ => exact ⟨qm_in5 7 rfl, rfl⟩
  | 3, _ => exact ⟨qm_in5 9 rfl, rfl⟩
  | 4, _ => exact ⟨qm_in5 11 rfl, rfl⟩
  | 5, _ => exact ⟨qm_in5 13 rfl, rfl⟩
  | 6, _ => exact ⟨qm_in5 15 rfl, rfl⟩
  | 7, _ => exact ⟨qm_in5 17 rfl, rfl⟩
  | 8, _ => exact ⟨qm_in5 19 rfl, rfl⟩
  | 9, _ => exact ⟨qm_in5 21 rfl, rfl⟩
  | 10, _ => exact ⟨qm_in5 23 rfl, rfl⟩
  | 11, _ => exact ⟨qm_in5 25 rfl, rfl⟩
  | 12, _ => exact ⟨qm_in5 27 rfl, rfl⟩
  | 13, _ => exact ⟨qm_in5 29 rfl, rfl⟩
  | 14, _ => exact ⟨qm_in5 31 rfl, rfl⟩
  | 15, _ => exact ⟨qm_in5 33 rfl, rfl⟩
  | 16, _ => exact ⟨qm_in5 35 rfl, rfl⟩
  | 17, _ => exact ⟨qm_in5 37 rfl, rfl⟩
  | 18, _ => exact ⟨qm_in5 39 rfl, rfl⟩
  | 19, _ => exact ⟨qm_in5 41 rfl, rfl⟩
  | 20, _ => exact ⟨qm_in5 43 rfl, rfl⟩
  | 21, _ => exact ⟨qm_in5 45 rfl, rfl⟩
  | 22, _ => exact ⟨qm_in5 47 rfl, rfl⟩
  | 23, _ => exact ⟨qm_in5 49 rfl, rfl⟩
  | 24, _ => exact ⟨qm_in5 51 rfl, rfl⟩
  | 25, _ => exact ⟨qm_in5 53 rfl, rfl⟩
  | 26, _ => exact ⟨qm_in5 55 rfl, rfl⟩
  | 27, _ => exact ⟨qm_in5 57 rfl, rfl⟩
  | 28, _ => exact ⟨qm_in5 59 rfl, rfl⟩
  | 29, _ => exact ⟨qm_in5 61 rfl, rfl⟩
  | 30, _ => exact ⟨qm_in5 63 rfl, rfl⟩
  | 31, _ => exact ⟨qm_in5 65 rfl, rfl⟩
  | 32, _ => exact ⟨qm_in5 67 rfl, rfl⟩
  | 33, _ => exact ⟨qm_in5 69 rfl, rfl⟩
  | 34, _ => exact ⟨qm_in5 71 rfl, rfl⟩
  | 35, _ => exact ⟨qm_in5 73 rfl, rfl⟩
  | 36, _ => exact ⟨qm_in5 75 rfl, rfl⟩
  | k + 37, hk => omega
theorem lay_in {C : String} {T : u_T} {N : Nat} (h : ∀ k, k < N → qm_Tb (u_lay C T k)) : ∀ w ∈ u_ws C T N, w ∈ qm_tb := by
  intro w hw
  obtain ⟨k, hk, rfl⟩ := List.mem_map.mp hw
  exact (h k (List.mem_range.mp hk)).tb
theorem qm_lay_in {k : Nat} (hk : 1 ≤ k ∧ k ≤ 9) : ∀ w ∈ u_ws (qm_R k) (qm_T k) (qm_nf k), w ∈ qm_tb := by
  have h : k = 1 ∨ k = 2 ∨ k = 3 ∨ k = 4 ∨ k = 5 ∨ k = 6 ∨ k = 7 ∨ k = 8 ∨ k = 9 := by omega
  rcases h with rfl | rfl | rfl | rfl | rfl | rfl | rfl | rfl | rfl
  · exact lay_in lay_X7
  · exact lay_in lay_X6
  · exact lay_in lay_X1
  · exact lay_in lay_X4
  · exact lay_in lay_X0
  · exact lay_in lay_X2
  · exact lay_in lay_X5
  · exact lay_in lay_X3
  · exact lay_in lay_X8
def qm_Ty (k : Nat) : Nat → FieldType := match k with
  | 1 => tyX7 | 2 => tyX6 | 3 => tyX1 | 4 => tyX4 | 5 => tyX0 | 6 => tyX2 | 7 => tyX5 | 8 => tyX3 | _ => tyX8
theorem qm_Ty_ok {k : Nat} (hk : 1 ≤ k ∧ k ≤ 9) : ∀ f, f < qm_nf k → parseFieldDescriptor (qm_T k f).2.2.1 = some (qm_Ty k f) := by
  have h : k = 1 ∨ k = 2 ∨ k = 3 ∨ k = 4 ∨ k = 5 ∨ k = 6 ∨ k = 7 ∨ k = 8 ∨ k = 9 := by omega
  rcases h with rfl | rfl | rfl | rfl | rfl | rfl | rfl | rfl | rfl
  · exact tyX7_ok
  · exact tyX6_ok
  · exact tyX1_ok
  · exact tyX4_ok
  · exact tyX0_ok
  · exact tyX2_ok
  · exact tyX5_ok
  · exact tyX3_ok
  · exact tyX8_ok
theorem qm_nm_ok {k : Nat} (hk : 1 ≤ k ∧ k ≤ 9) : ∀ a, a < qm_nf k → ∀ b, b < qm_nf k → a ≠ b → (qm_T k a).2.1 ≠ (qm_T k b).2.1 := by
  have h : k = 1 ∨ k = 2 ∨ k = 3 ∨ k = 4 ∨ k = 5 ∨ k = 6 ∨ k = 7 ∨ k = 8 ∨ k = 9 := by omega
  rcases h with rfl | rfl | rfl | rfl | rfl | rfl | rfl | rfl | rfl
  · exact nmX7
  · exact nmX6
  · exact nmX1
  · exact nmX4
  · exact nmX0
  · exact nmX2
  · exact nmX5
  · exact nmX3
  · exact nmX8
/-- of every field that a link names: its class is the link's, its type is its kind's -/
theorem qm_flk_ty : qm_flk.all (fun e => decide (1 ≤ e.2.2.1 ∧ e.2.2.1 ≤ 9) && decide (e.2.2.2 < qm_nf e.2.2.1) && decide ((qm_T e.2.2.1 e.2.2.2).1 = qm_R e.2.2.1)) = true := by decide +kernel
theorem qm_fk_ty : ∀ k, k < 10 → ∀ f, f < 37 → (qm_fk k f = 0 → qm_Ty k f = .int) ∧ (qm_fk k f = 1 → qm_Ty k f = .boolean) ∧ (qm_fk k f = 2 → qm_Ty k f = .long) ∧ (qm_fk k f = 4 → qm_Ty k f = .object "WoodStack$Text") ∧ (qm_fk k f = 3 → 1 ≤ (qm_ft k f).1) := by decide +kernel
end
section
theorem qk_0 : ∀ m ∈ [0, 1, 2, 3, 4, 5, 6, 7, 8, 9, 10, 11], qk_m m = true := by decide +kernel
theorem qk_1 : ∀ m ∈ [12, 13, 14, 15, 16, 17, 18, 19, 20, 21, 22, 23], qk_m m = true := by decide +kernel
theorem qk_2 : ∀ m ∈ [24, 25, 26, 27, 28, 29, 30, 31, 32, 33, 34, 35], qk_m m = true := by decide +kernel
theorem qk_3 : ∀ m ∈ [36, 37, 38, 39, 40, 41, 42, 43, 44, 45, 46, 47], qk_m m = true := by decide +kernel
theorem qk_4 : ∀ m ∈ [48, 49, 50, 51, 52, 53, 54, 55, 56, 57, 58, 59], qk_m m = true := by decide +kernel
end
section
theorem qk_5 : ∀ m ∈ [60, 61, 62, 63, 64, 65, 66, 67, 68, 69, 70, 71], qk_m m = true := by decide +kernel
theorem qk_6 : ∀ m ∈ [72, 73, 74, 75, 76, 77, 78, 79, 80, 81, 82, 83], qk_m m = true := by decide +kernel
theorem qk_7 : ∀ m ∈ [84, 85, 86, 87, 88, 89, 90, 91, 92, 93, 94, 95], qk_m m = true := by decide +kernel
theorem qk_8 : ∀ m ∈ [96, 97, 98, 99, 100, 101, 102, 103, 104, 105, 106, 107], qk_m m = true := by decide +kernel
theorem qk_9 : ∀ m ∈ [108, 109, 110, 111, 112, 113, 114, 115, 116, 117, 118, 119], qk_m m = true := by decide +kernel
end
section
theorem qk_10 : ∀ m ∈ [120, 121, 122, 123, 124, 125, 126, 127, 128, 129, 130, 131], qk_m m = true := by decide +kernel
theorem qk_11 : ∀ m ∈ [132, 133, 134, 135, 136, 137, 138, 139, 140, 141, 142, 143], qk_m m = true := by decide +kernel
theorem qk_12 : ∀ m ∈ [144, 145, 146, 147, 148, 149, 150, 151, 152, 153, 154, 155], qk_m m = true := by decide +kernel
theorem qk_13 : ∀ m ∈ [156, 157, 158, 159, 160, 161, 162, 163, 164, 165, 166, 167], qk_m m = true := by decide +kernel
theorem qk_14 : ∀ m ∈ [168, 169, 170, 171, 172, 173, 174, 175, 176, 177, 178, 179], qk_m m = true := by decide +kernel
end
section
theorem qk_15 : ∀ m ∈ [180, 181, 182, 183, 184, 185, 186, 187, 188, 189, 190, 191], qk_m m = true := by decide +kernel
theorem qk_16 : ∀ m ∈ [192, 193, 194, 195, 196, 197, 198, 199, 200, 201, 202, 203], qk_m m = true := by decide +kernel
theorem qk_17 : ∀ m ∈ [204, 205, 206, 207, 208, 209, 210, 211, 212, 213, 214, 215], qk_m m = true := by decide +kernel
theorem qk_18 : ∀ m ∈ [216, 217, 218, 219, 220, 221, 222, 223, 224, 225, 226, 227], qk_m m = true := by decide +kernel
theorem qk_19 : ∀ m ∈ [228, 229, 230, 231, 232, 233, 234, 235, 236, 237, 238, 239], qk_m m = true := by decide +kernel
end
section
theorem qk_20 : ∀ m ∈ [240], qk_m m = true := by decide +kernel
end
section
theorem ql_0 : qk_blk 241 (qm_bpc 241 0) (qm_blk 241 0) = true := by decide +kernel
theorem ql_1 : qk_blk 241 (qm_bpc 241 1) (qm_blk 241 1) = true := by decide +kernel
theorem ql_2 : qk_blk 241 (qm_bpc 241 2) (qm_blk 241 2) = true := by decide +kernel
theorem ql_3 : qk_blk 241 (qm_bpc 241 3) (qm_blk 241 3) = true := by decide +kernel
theorem ql_4 : qk_blk 241 (qm_bpc 241 4) (qm_blk 241 4) = true := by decide +kernel
theorem ql_5 : qk_blk 241 (qm_bpc 241 5) (qm_blk 241 5) = true := by decide +kernel
theorem ql_6 : qk_blk 241 (qm_bpc 241 6) (qm_blk 241 6) = true := by decide +kernel
theorem ql_7 : qk_blk 241 (qm_bpc 241 7) (qm_blk 241 7) = true := by decide +kernel
end
section
theorem ql_8 : qk_blk 241 (qm_bpc 241 8) (qm_blk 241 8) = true := by decide +kernel
theorem ql_9 : qk_blk 241 (qm_bpc 241 9) (qm_blk 241 9) = true := by decide +kernel
theorem ql_10 : qk_blk 241 (qm_bpc 241 10) (qm_blk 241 10) = true := by decide +kernel
theorem ql_11 : qk_blk 241 (qm_bpc 241 11) (qm_blk 241 11) = true := by decide +kernel
theorem ql_12 : qk_blk 241 (qm_bpc 241 12) (qm_blk 241 12) = true := by decide +kernel
theorem ql_13 : qk_blk 241 (qm_bpc 241 13) (qm_blk 241 13) = true := by decide +kernel
theorem ql_14 : qk_blk 241 (qm_bpc 241 14) (qm_blk 241 14) = true := by decide +kernel
theorem ql_15 : qk_blk 241 (qm_bpc 241 15) (qm_blk 241 15) = true := by decide +kernel
end
section
theorem ql_16 : qk_blk 241 (qm_bpc 241 16) (qm_blk 241 16) = true := by decide +kernel
theorem ql_17 : qk_blk 241 (qm_bpc 241 17) (qm_blk 241 17) = true := by decide +kernel
theorem ql_18 : qk_blk 241 (qm_bpc 241 18) (qm_blk 241 18) = true := by decide +kernel
theorem ql_19 : qk_blk 241 (qm_bpc 241 19) (qm_blk 241 19) = true := by decide +kernel
theorem ql_20 : qk_blk 241 (qm_bpc 241 20) (qm_blk 241 20) = true := by decide +kernel
theorem ql_21 : qk_blk 241 (qm_bpc 241 21) (qm_blk 241 21) = true := by decide +kernel
theorem ql_22 : qk_blk 241 (qm_bpc 241 22) (qm_blk 241 22) = true := by decide +kernel
theorem ql_23 : qk_blk 241 (qm_bpc 241 23) (qm_blk 241 23) = true := by decide +kernel
end
section
theorem ql_24 : qk_blk 241 (qm_bpc 241 24) (qm_blk 241 24) = true := by decide +kernel
theorem ql_25 : qk_blk 241 (qm_bpc 241 25) (qm_blk 241 25) = true := by decide +kernel
theorem ql_26 : qk_blk 241 (qm_bpc 241 26) (qm_blk 241 26) = true := by decide +kernel
theorem ql_27 : qk_blk 241 (qm_bpc 241 27) (qm_blk 241 27) = true := by decide +kernel
theorem ql_28 : qk_blk 241 (qm_bpc 241 28) (qm_blk 241 28) = true := by decide +kernel
theorem ql_29 : qk_blk 241 (qm_bpc 241 29) (qm_blk 241 29) = true := by decide +kernel
theorem ql_30 : qk_blk 241 (qm_bpc 241 30) (qm_blk 241 30) = true := by decide +kernel
theorem ql_31 : qk_blk 241 (qm_bpc 241 31) (qm_blk 241 31) = true := by decide +kernel
end
section
theorem ql_32 : qk_blk 241 (qm_bpc 241 32) (qm_blk 241 32) = true := by decide +kernel
theorem ql_33 : qk_blk 241 (qm_bpc 241 33) (qm_blk 241 33) = true := by decide +kernel
theorem ql_34 : qk_blk 241 (qm_bpc 241 34) (qm_blk 241 34) = true := by decide +kernel
theorem ql_35 : qk_blk 241 (qm_bpc 241 35) (qm_blk 241 35) = true := by decide +kernel
theorem ql_36 : qk_blk 241 (qm_bpc 241 36) (qm_blk 241 36) = true := by decide +kernel
theorem ql_37 : qk_blk 241 (qm_bpc 241 37) (qm_blk 241 37) = true := by decide +kernel
theorem ql_38 : qk_blk 241 (qm_bpc 241 38) (qm_blk 241 38) = true := by decide +kernel
theorem ql_39 : qk_blk 241 (qm_bpc 241 39) (qm_blk 241 39) = true := by decide +kernel
end
section
theorem qk_getD {α : Type} (l : List α) (d : α) {n : Nat} (h : l.length ≤ n) : l.getD n d = d := by
  rw [List.getD_eq_getElem?_getD, List.getElem?_eq_none h]
  rfl
theorem qk_small : ∀ m, m < 241 → qk_m m = true := by
  intro m hm
  by_cases h0 : m < 12
  · exact qk_0 m (by simp only [List.mem_cons, List.not_mem_nil, or_false]; omega)
  by_cases h1 : m < 24
  · exact qk_1 m (by simp only [List.mem_cons, List.not_mem_nil, or_false]; omega)
  by_cases h2 : m < 36
  · exact qk_2 m (by simp only [List.mem_cons, List.not_mem_nil, or_false]; omega)
  by_cases h3 : m < 48
  · exact qk_3 m (by simp only [List.mem_cons, List.not_mem_nil, or_false]; omega)
  by_cases h4 : m < 60
  · exact qk_4 m (by simp only [List.mem_cons, List.not_mem_nil, or_false]; omega)
  by_cases h5 : m < 72
  · exact qk_5 m (by simp only [List.mem_cons, List.not_mem_nil, or_false]; omega)
  by_cases h6 : m < 84
  · exact qk_6 m (by simp only [List.mem_cons, List.not_mem_nil, or_false]; omega)
  by_cases h7 : m < 96
  · exact qk_7 m (by simp only [List.mem_cons, List.not_mem_nil, or_false]; omega)
  by_cases h8 : m < 108
  · exact qk_8 m (by simp only [List.mem_cons, List.not_mem_nil, or_false]; omega)
  by_cases h9 : m < 120
  · exact qk_9 m (by simp only [List.mem_cons, List.not_mem_nil, or_false]; omega)
  by_cases h10 : m < 132
  · exact qk_10 m (by simp only [List.mem_cons, List.not_mem_nil, or_false]; omega)
  by_cases h11 : m < 144
  · exact qk_11 m (by simp only [List.mem_cons, List.not_mem_nil, or_false]; omega)
  by_cases h12 : m < 156
  · exact qk_12 m (by simp only [List.mem_cons, List.not_mem_nil, or_false]; omega)
  by_cases h13 : m < 168
  · exact qk_13 m (by simp only [List.mem_cons, List.not_mem_nil, or_false]; omega)
  by_cases h14 : m < 180
  · exact qk_14 m (by simp only [List.mem_cons, List.not_mem_nil, or_false]; omega)
  by_cases h15 : m < 192
  · exact qk_15 m (by simp only [List.mem_cons, List.not_mem_nil, or_false]; omega)
  by_cases h16 : m < 204
  · exact qk_16 m (by simp only [List.mem_cons, List.not_mem_nil, or_false]; omega)
  by_cases h17 : m < 216
  · exact qk_17 m (by simp only [List.mem_cons, List.not_mem_nil, or_false]; omega)
  by_cases h18 : m < 228
  · exact qk_18 m (by simp only [List.mem_cons, List.not_mem_nil, or_false]; omega)
  by_cases h19 : m < 240
  · exact qk_19 m (by simp only [List.mem_cons, List.not_mem_nil, or_false]; omega)
  by_cases h20 : m < 241
  · exact qk_20 m (by simp only [List.mem_cons, List.not_mem_nil, or_false]; omega)
  omega
theorem qk_ok : ∀ m b, qm_blk m b = [] ∨ qk_blk m (qm_bpc m b) (qm_blk m b) = true := by
  intro m b
  by_cases hm : m < 241
  · have h := qk_small m hm
    simp only [qk_m, Bool.and_eq_true, List.all_eq_true, List.mem_range] at h
    by_cases hb : b < ((qm_code.getD m (0, [])).2.length)
    · exact Or.inr (h.1 b hb)
    · refine Or.inl ?_
      show ((qm_code.getD m (0, [])).2.getD b []) = []
      rw [qk_getD _ _ (by omega)]
  · by_cases hm2 : m = 241
    · subst hm2
      by_cases hb : b < 40
      · refine Or.inr ?_
        match b, hb with
        | 0, _ => exact ql_0
        | 1, _ => exact ql_1
        | 2, _ => exact ql_2
        | 3, _ => exact ql_3
        | 4, _ => exact ql_4
        | 5, _ => exact ql_5
        | 6, _ => exact ql_6
        | 7, _ => exact ql_7
        | 8, _ => exact ql_8
        | 9, _ => exact ql_9
        | 10, _ => exact ql_10
        | 11, _ => exact ql_11
        | 12, _ => exact ql_12
        | 13, _ => exact ql_13
        | 14, _ => exact ql_14
        | 15, _ => exact ql_15
        | 16, _ => exact ql_16
        | 17, _ => exact ql_17
        | 18, _ => exact ql_18
        | 19, _ => exact ql_19
        | 20, _ => exact ql_20
        | 21, _ => exact ql_21
        | 22, _ => exact ql_22
        | 23, _ => exact ql_23
        | 24, _ => exact ql_24
        | 25, _ => exact ql_25
        | 26, _ => exact ql_26
        | 27, _ => exact ql_27
        | 28, _ => exact ql_28
        | 29, _ => exact ql_29
        | 30, _ => exact ql_30
        | 31, _ => exact ql_31
        | 32, _ => exact ql_32
        | 33, _ => exact ql_33
        | 34, _ => exact ql_34
        | 35, _ => exact ql_35
        | 36, _ => exact ql_36
        | 37, _ => exact ql_37
        | 38, _ => exact ql_38
        | 39, _ => exact ql_39
        | b + 40, hb => omega
      · refine Or.inl ?_
        show ((qm_code.getD 241 (0, [])).2.getD b []) = []
        exact qk_getD _ _ (by show (cd_W_law).length ≤ b; exact Nat.le_trans (by decide) (Nat.not_lt.mp hb))
    · refine Or.inl ?_
      show ((qm_code.getD m (0, [])).2.getD b []) = []
      have hz : qm_code.getD m (0, []) = (0, []) := qk_getD _ _ (Nat.le_trans (show qm_code.length ≤ 242 by decide +kernel) (show 242 ≤ m by omega))
      rw [hz]
      rfl
theorem qk_maxL : ∀ m, m < 241 → qm_maxL m ≤ 30 := fun m hm => by
  have h := qk_small m hm
  simp only [qk_m, Bool.and_eq_true, decide_eq_true_eq] at h
  exact h.2
end
section
/-! the machine's heap as the kit's world: cells at B0, B0 + 1, .. -/
def qm_z : qm_Hp := (fun _ _ _ => 0, fun _ _ _ => 0, fun _ _ _ => (0, 0))
def qm_cv (B0 sb sa : Nat) : qm_AV → Value
  | .inl x => .int x
  | .inr (.inl x) => .long x
  | .inr (.inr (k, i)) => if k = 0 then .null else if k = 80 then .ref sb else if k = 81 then .ref sa else .ref (B0 + qm_ad k i)
def qm_okV : qm_AV → Prop
  | .inr (.inr (k, i)) => k = 0 ∨ i < qm_cnt k
  | _ => True
def qm_fv (B0 : Nat) (h : qm_Hp) (k i f : Nat) : Value := match qm_fk k f with
  | 2 => .long (zL h k i f)
  | 3 => if zI h k i f = 0 then .null else .ref (B0 + qm_ad (qm_ft k f).1 ((qm_ft k f).2.1 * i + (qm_ft k f).2.2))
  | 4 => qm_cv B0 0 0 (qP (zP h k i f).1 (zP h k i f).2)
  | _ => .int (zI h k i f)
def qm_cell (B0 : Nat) (cs : Nat × Nat × Nat × Nat × Nat) (h : qm_Hp) (k i : Nat) : va_E :=
  if 1 ≤ k ∧ k ≤ 9 then .inr (qm_ci k, (List.range (qm_nf k)).map (qm_fv B0 h k i))
  else if k = 66 then .inl (cs.2.1, 330, .inr (.inl (fun j => zL h k i j)))
  else if k = 67 ∨ k = 76 then .inl (cs.2.2.1, qm_blen k, .inl (fun j => zI h k i j))
  else if k = 46 then .inl (cs.2.2.2.2, 5, .inr (.inr (.inr (.inr (fun j => if zI h k i j = 0 then none else some (B0 + qm_ad 3 (4 + j)))))))
  else if k = 51 then .inl (cs.2.2.2.1, 4, .inr (.inr (.inr (.inr (fun j => if zI h k i j = 0 then none else some (B0 + qm_ad 4 (0 + j)))))))
  else .inl (cs.1, qm_ilen qm_z k, .inl (fun j => zI h k i j))
def qm_W (B0 : Nat) (cs : Nat × Nat × Nat × Nat × Nat) (h : qm_Hp) : va_W := (List.range 155).map (fun q => (B0 + q, qm_cell B0 cs h (qm_desc.getD q (0, 0)).1 (qm_desc.getD q (0, 0)).2))
def qm_real (k : Nat) : Prop := k ≠ 0 ∧ k ≠ 80 ∧ k ≠ 81
theorem qm_desc_ad0 : (List.range 82).all (fun k => (List.range 10).all (fun i => !decide (i < qm_cnt k) || decide (k = 80) || decide (k = 81) || (decide (qm_ad k i < 155) && decide (qm_desc.getD (qm_ad k i) (0, 0) = (k, i))))) = true := by decide +kernel
theorem qm_desc_ad (k : Nat) (hk : k < 82) (i : Nat) (hi : i < 10) (h : i < qm_cnt k) (h80 : k ≠ 80) (h81 : k ≠ 81) : qm_ad k i < 155 ∧ qm_desc.getD (qm_ad k i) (0, 0) = (k, i) := by
  have a := List.all_eq_true.mp (List.all_eq_true.mp qm_desc_ad0 k (List.mem_range.mpr hk)) i (List.mem_range.mpr hi)
  simpa [h, h80, h81] using a
theorem qm_ad_desc : ∀ q, q < 155 → qm_ad (qm_desc.getD q (0, 0)).1 (qm_desc.getD q (0, 0)).2 = q ∧ (qm_desc.getD q (0, 0)).1 ≠ 80 := by decide +kernel
theorem qm_cnt_lt {k i : Nat} (h : i < qm_cnt k) : k < 82 ∧ i < 10 := by
  have h1 : k < 82 := by
    rcases Nat.lt_or_ge k 82 with h1 | h1
    · exact h1
    · exfalso
      have : qm_cnt k = 0 := by
        unfold qm_cnt
        split <;> first | omega | rfl
      omega
  have h2 : ∀ j, j < 82 → qm_cnt j ≤ 10 := by decide +kernel
  exact ⟨h1, Nat.lt_of_lt_of_le h (h2 k h1)⟩
theorem qm_place {k i : Nat} (h : i < qm_cnt k) (h80 : k ≠ 80) (h81 : k ≠ 81) : qm_ad k i < 155 ∧ qm_desc.getD (qm_ad k i) (0, 0) = (k, i) :=
  qm_desc_ad k (qm_cnt_lt h).1 i (qm_cnt_lt h).2 h h80 h81
theorem qm_W_at {B0 : Nat} {cs : Nat × Nat × Nat × Nat × Nat} {h : qm_Hp} {k i : Nat} (hi : i < qm_cnt k) (h80 : k ≠ 80) (h81 : k ≠ 81) : (qm_W B0 cs h)[qm_ad k i]? = some (B0 + qm_ad k i, qm_cell B0 cs h k i) := by
  obtain ⟨h1, h2⟩ := qm_place hi h80 h81
  simp only [qm_W, List.getElem?_map, List.getElem?_range h1, Option.map_some, h2]
theorem qm_ilen_z {h : qm_Hp} {k : Nat} (hk : k ≠ 80) : qm_ilen h k = qm_ilen qm_z k := by
  unfold qm_ilen
  split <;> first | rfl | exact absurd rfl hk
/-- a heap that differs in the cell (k, i) alone -/
theorem qm_W_set {B0 : Nat} {cs : Nat × Nat × Nat × Nat × Nat} {h h' : qm_Hp} {k i : Nat} {e : va_E} (hi : i < qm_cnt k) (h80 : k ≠ 80) (h81 : k ≠ 81) (he : qm_cell B0 cs h' k i = e)
    (ho : ∀ a b, ¬ (a = k ∧ b = i) → qm_cell B0 cs h' a b = qm_cell B0 cs h a b) : (qm_W B0 cs h).set (qm_ad k i) (B0 + qm_ad k i, e) = qm_W B0 cs h' := by
  obtain ⟨h1, h2⟩ := qm_place hi h80 h81
  refine List.ext_getElem? fun q => ?_
  rw [List.getElem?_set]
  by_cases hq : qm_ad k i = q
  · subst hq
    rw [if_pos rfl, if_pos (by simp [qm_W, h1]), qm_W_at hi h80 h81, he]
  · rw [if_neg hq]
    by_cases hl : q < 155
    · simp only [qm_W, List.getElem?_map, List.getElem?_range hl, Option.map_some]
      rw [ho _ _ (fun z => hq (by rw [← (qm_ad_desc q hl).1, z.1, z.2]))]
    · simp [qm_W, hl]
theorem qm_cell_congr {B0 : Nat} {cs : Nat × Nat × Nat × Nat × Nat} {h h' : qm_Hp} {a b : Nat} (e1 : ∀ c, zI h' a b c = zI h a b c) (e2 : ∀ c, zL h' a b c = zL h a b c) (e3 : ∀ c, zP h' a b c = zP h a b c) : qm_cell B0 cs h' a b = qm_cell B0 cs h a b := by
  have hI : zI h' a b = zI h a b := funext e1
  have hL : zL h' a b = zL h a b := funext e2
  have hP : zP h' a b = zP h a b := funext e3
  have hf : qm_fv B0 h' a b = qm_fv B0 h a b := by
    funext f
    unfold qm_fv
    rw [hI, hL, hP]
  unfold qm_cell
  rw [hf, hI, hL]
theorem qm_cell_uI {B0 : Nat} {cs : Nat × Nat × Nat × Nat × Nat} {h : qm_Hp} {k i j : Nat} {v : Int32} {a b : Nat} (hn : ¬ (a = k ∧ b = i)) : qm_cell B0 cs (uI h k i j v) a b = qm_cell B0 cs h a b :=
  qm_cell_congr (fun c => by rw [zI_uI, if_neg (fun z => hn ⟨z.1, z.2.1⟩)]) (fun _ => rfl) (fun _ => rfl)
theorem qm_cell_uL {B0 : Nat} {cs : Nat × Nat × Nat × Nat × Nat} {h : qm_Hp} {k i j : Nat} {v : Int64} {a b : Nat} (hn : ¬ (a = k ∧ b = i)) : qm_cell B0 cs (uL h k i j v) a b = qm_cell B0 cs h a b :=
  qm_cell_congr (fun _ => rfl) (fun c => by rw [zL_uL, if_neg (fun z => hn ⟨z.1, z.2.1⟩)]) (fun _ => rfl)
theorem qm_cell_uP {B0 : Nat} {cs : Nat × Nat × Nat × Nat × Nat} {h : qm_Hp} {k i j : Nat} {v : Nat × Nat} {a b : Nat} (hn : ¬ (a = k ∧ b = i)) : qm_cell B0 cs (uP h k i j v) a b = qm_cell B0 cs h a b :=
  qm_cell_congr (fun _ => rfl) (fun _ => rfl) (fun c => by rw [zP_uP, if_neg (fun z => hn ⟨z.1, z.2.1⟩)])
theorem qm_cell_uC {B0 : Nat} {cs : Nat × Nat × Nat × Nat × Nat} {h : qm_Hp} {q j sp k i dp n : Nat} {a b : Nat} (hn : ¬ (a = k ∧ b = i)) : qm_cell B0 cs (uC h q j sp k i dp n) a b = qm_cell B0 cs h a b :=
  qm_cell_congr (fun c => by rw [zI_uC, if_neg (fun z => hn ⟨z.1, z.2.1⟩)]) (fun _ => rfl) (fun _ => rfl)
/-- an int row's cell -/
theorem qm_cell_i {B0 : Nat} {cs : Nat × Nat × Nat × Nat × Nat} {h : qm_Hp} {k i : Nat} (hk : 0 < qm_ilen qm_z k) : qm_cell B0 cs h k i = .inl (cs.1, qm_ilen qm_z k, .inl (fun j => zI h k i j)) := by
  have h1 : ∀ k, 0 < qm_ilen qm_z k → ¬ (1 ≤ k ∧ k ≤ 9) ∧ ¬ k = 66 ∧ ¬ (k = 67 ∨ k = 76) ∧ ¬ k = 46 ∧ ¬ k = 51 := by
    intro k hk
    unfold qm_ilen at hk
    split at hk <;> first | (simp only [Nat.reduceLeDiff, Nat.reduceEqDiff, and_false, false_and, not_false_eq_true, or_self, and_self, true_and, and_true]; done) | (exfalso; simp [qm_z, zI] at hk; done)
  obtain ⟨a, b, c, d, e⟩ := h1 k hk
  rw [qm_cell, if_neg a, if_neg b, if_neg c, if_neg d, if_neg e]
theorem qm_cell_l {B0 : Nat} {cs : Nat × Nat × Nat × Nat × Nat} {h : qm_Hp} {i : Nat} : qm_cell B0 cs h 66 i = .inl (cs.2.1, 330, .inr (.inl (fun j => zL h 66 i j))) := rfl
theorem qm_cell_b {B0 : Nat} {cs : Nat × Nat × Nat × Nat × Nat} {h : qm_Hp} {k i : Nat} (hk : k = 67 ∨ k = 76) : qm_cell B0 cs h k i = .inl (cs.2.2.1, qm_blen k, .inl (fun j => zI h k i j)) := by
  rcases hk with rfl | rfl <;> rfl
theorem qm_cell_o {B0 : Nat} {cs : Nat × Nat × Nat × Nat × Nat} {h : qm_Hp} {k i : Nat} (hk : 1 ≤ k ∧ k ≤ 9) : qm_cell B0 cs h k i = .inr (qm_ci k, (List.range (qm_nf k)).map (qm_fv B0 h k i)) := by
  rw [qm_cell, if_pos hk]
def qm_clss : List vw_C := [(RX0, TX0, 3), (RX1, TX1, 13), (RX2, TX2, 6), (RX3, TX3, 5), (RX4, TX4, 7), (RX5, TX5, 4), (RX6, TX6, 13), (RX7, TX7, 15), (RX8, TX8, 37)]
def qm_tys (cs : Nat × Nat × Nat × Nat × Nat) : List (ClassId × FieldType) := [(cs.1, .int), (cs.2.1, .long), (cs.2.2.1, .boolean), (cs.2.2.2.1, .object "WoodStack$Text"), (cs.2.2.2.2, .object "WoodStack$Pile")]
theorem qm_clss_at {k : Nat} (hk : 1 ≤ k ∧ k ≤ 9) : qm_clss[qm_ci k]? = some (qm_R k, qm_T k, qm_nf k) := by
  have h : k = 1 ∨ k = 2 ∨ k = 3 ∨ k = 4 ∨ k = 5 ∨ k = 6 ∨ k = 7 ∨ k = 8 ∨ k = 9 := by omega
  rcases h with rfl | rfl | rfl | rfl | rfl | rfl | rfl | rfl | rfl <;> rfl
/-- the locals -/
def qm_lv (B0 sb sa : Nat) : Nat → List qm_AV → List (Nat × Value)
  | _, [] => []
  | j, .inr (.inr (k, i)) :: r => if k = 99 then qm_lv B0 sb sa (j + 1) r else (j, qm_cv B0 sb sa (qP k i)) :: qm_lv B0 sb sa (j + 1) r
  | j, v :: r => (j, qm_cv B0 sb sa v) :: qm_lv B0 sb sa (j + 1) r
theorem qm_lv_mem {B0 sb sa : Nat} : ∀ {ls : List qm_AV} {j : Nat} {q : Nat × Value}, q ∈ qm_lv B0 sb sa j ls ↔ ∃ (n : Nat) (v : qm_AV), ls[n]? = some v ∧ (∀ i, v ≠ qP 99 i) ∧ q = (j + n, qm_cv B0 sb sa v)
  | [], j, q => by simp [qm_lv]
  | v :: r, j, q => by
    have ih := @qm_lv_mem B0 sb sa r (j + 1) q
    have key : (∃ (n : Nat) (w : qm_AV), (v :: r)[n]? = some w ∧ (∀ i, w ≠ qP 99 i) ∧ q = (j + n, qm_cv B0 sb sa w)) ↔ ((∀ i, v ≠ qP 99 i) ∧ q = (j, qm_cv B0 sb sa v)) ∨ q ∈ qm_lv B0 sb sa (j + 1) r := by
      rw [ih]
      constructor
      · rintro ⟨n, w, h1, h2, h3⟩
        cases n with
        | zero => simp at h1; subst h1; exact Or.inl ⟨h2, h3⟩
        | succ n => exact Or.inr ⟨n, w, by simpa using h1, h2, by rw [h3]; congr 1; omega⟩
      · rintro (⟨h2, h3⟩ | ⟨n, w, h1, h2, h3⟩)
        · exact ⟨0, v, rfl, h2, h3⟩
        · exact ⟨n + 1, w, by simpa using h1, h2, by rw [h3]; congr 1; omega⟩
    rw [key]
    rcases v with x | x | ⟨k, i⟩
    · simp [qm_lv]
    · simp [qm_lv]
    · by_cases hk : k = 99
      · subst hk
        simp [qm_lv]
      · simp [qm_lv, hk]
end
section
/-! the machine's step over the kit's rows -/
def qm_strT : String := "water size kind bark high top beside sunny wind sun rain air week wide tall posts crossed dry thick stand take heat beetle lay min max not and or on "
def qm_Str (B0 sa sv : Nat) (U : State) : Prop := vk_R RX5 49 qm_strT sa U ∧ vk_S 1 [qm_str.length] [qm_str.map Int32.ofNat] (fun _ => sa) (fun _ => sv) (fun q => B0 ≤ q) U U.heap ∧ va_Z "java/lang/String" "COMPACT_STRINGS" "Z" (.int 1) (fun q => B0 ≤ q) U U.heap ∧ ∃ v : Value, (v = .null ∨ ∃ a, v = .ref a) ∧ va_Z "jdk/internal/util/Preconditions" "SIOOBE_FORMATTER" "Ljava/util/function/BiFunction;" v (fun q => B0 ≤ q) U U.heap
/-- what a state says beside the machine's cells: classes, nest mates' links, the script, the text constant -/
def qm_Env (B0 sb sa sv L : Nat) (xs : Nat → Int32) (dC : Nat → ClassId) (dI : Nat → Nat → Nat) (cs : Nat × Nat × Nat × Nat × Nat) (U : State) : Prop :=
  va_K (dC, dI) qm_clss (qm_tys cs) U ∧ (∀ w ∈ qm_nest, va_Nw w U) ∧ va_X sb L xs U U.heap ∧ sb < B0 ∧ L < 2 ^ 31 ∧ B0 ≤ U.heap.size ∧ qm_Str B0 sa sv U
def qm_Cx (p : Program) (R : Room) (s : State) (m : MethodId) (args : Array Value) (c : Code) (cells slots d mi B0 sb sa sv L : Nat) (xs : Nat → Int32) (dC : Nat → ClassId) (dI : Nat → Nat → Nat) (cs : Nat × Nat × Nat × Nat × Nat) : Prop :=
  p.tables.exec = Jvm.exec ∧ c.code = mC mi ∧ c.maxLocals = qm_maxL mi ∧ s.vm.findClass (qm_cls (mN mi)) = some m.cls ∧ (∀ w ∈ qm_tb, w.before args s = true) ∧ qm_Env B0 sb sa sv L xs dC dI cs s ∧ cells ≤ R.cells ∧ slots ≤ R.slots ∧ d + 4 ≤ R.frames ∧ 64 * d + 256 ≤ R.locals
def qm_okP (q : Nat × Nat) : Prop := q.1 = 0 ∨ (q.1 = 4 ∧ q.2 < 5)
/-- final references are set -/
def qm_flags (h : qm_Hp) : Prop := ∀ k i f, (qm_fk k f = 3 ∨ f < qm_rlen k) → i < qm_cnt k → zI h k i f = 1
def qm_okH (h : qm_Hp) : Prop := qm_okP (zP h 5 0 0) ∧ qm_okP (zP h 6 0 1) ∧ qm_flags h
def qm_Wd (s : State) (B0 L : Nat) (xs : Nat → Int32) (dC : Nat → ClassId) (dI : Nat → Nat → Nat) (cs : Nat × Nat × Nat × Nat × Nat) (h : qm_Hp) (H : Heap) (locs : List Loc) : Prop :=
  va_P (dC, dI) qm_clss (qm_W B0 cs h) H ∧ va_D (fun q => B0 ≤ q) (qm_W B0 cs h) ∧ va_S (fun q => B0 ≤ q) s.heap H locs ∧ qm_okH h ∧ (∀ j, j < L → zI h 80 0 j = xs j) ∧ zI h 82 0 0 = nI L
def qm_Lo (mi B0 sb sa : Nat) (als : Array Slot) (ls : List qm_AV) : Prop := lv_has als (qm_maxL mi) (qm_lv B0 sb sa 0 ls) ∧ ls.length = qm_maxL mi ∧ ∀ v ∈ ls, v = qU ∨ qm_okV v
def qm_So (st : List qm_AV) : Prop := ∀ v ∈ st, qm_okV v
theorem qm_So.cons {v : qm_AV} {r : List qm_AV} (hv : qm_okV v) (h : qm_So r) : qm_So (v :: r) := fun w hw => (List.mem_cons.mp hw).elim (fun e => e ▸ hv) (h w)
theorem qm_So.t {v : qm_AV} {r : List qm_AV} (h : qm_So (v :: r)) : qm_So r := fun w hw => h w (List.mem_cons_of_mem _ hw)
theorem qm_So.h {v : qm_AV} {r : List qm_AV} (h : qm_So (v :: r)) : qm_okV v := h v List.mem_cons_self
theorem qm_ls_at : ∀ {l : List qm_AV} {k : Nat} {x : qm_AV} {n : Nat}, (qm_ls l k x)[n]? = if n = k ∧ k < l.length then some x else l[n]?
  | [], k, x, n => by simp [qm_ls]
  | v :: l, 0, x, n => by cases n <;> simp [qm_ls]
  | v :: l, k + 1, x, n => by
    cases n with
    | zero => simp [qm_ls]
    | succ n => simp [qm_ls, qm_ls_at (l := l) (k := k) (x := x) (n := n)]
theorem qm_ls_len : ∀ {l : List qm_AV} {k : Nat} {x : qm_AV}, (qm_ls l k x).length = l.length
  | [], k, x => rfl
  | v :: l, 0, x => rfl
  | v :: l, k + 1, x => by simp [qm_ls, qm_ls_len]
theorem qm_lg_at : ∀ {l : List qm_AV} {k : Nat} {v : qm_AV}, qm_lg l k = v → v ≠ qU → l[k]? = some v
  | [], k, v, h, hn => absurd h.symm hn
  | w :: l, 0, v, h, hn => by simpa [qm_lg] using h
  | w :: l, k + 1, v, h, hn => by simpa using qm_lg_at (l := l) (k := k) (by simpa [qm_lg] using h) hn
theorem qm_lg_get {l : List qm_AV} {k : Nat} {v : qm_AV} (h : l[k]? = some v) : qm_lg l k = v := by
  induction l generalizing k with
  | nil => simp at h
  | cons w l ih => cases k with
    | zero => simpa [qm_lg] using h
    | succ k => simpa [qm_lg] using ih (by simpa using h)
theorem qm_cv_P {B0 sb sa k i : Nat} (h0 : k ≠ 0) (h1 : k ≠ 80) (h2 : k ≠ 81) : qm_cv B0 sb sa (qP k i) = .ref (B0 + qm_ad k i) := by simp [qm_cv, h0, h1, h2]
theorem qm_cv_cat {B0 sb sa : Nat} (v : qm_AV) : (qm_cv B0 sb sa v).category = if qm_isL v = true then 2 else 1 := by
  rcases v with x | x | ⟨k, i⟩
  · rfl
  · rfl
  · simp only [qm_cv, qm_isL]
    split
    · rfl
    · split
      · rfl
      · split <;> rfl
theorem qm_Lo.at {mi B0 sb sa : Nat} {als : Array Slot} {ls : List qm_AV} {k : Nat} {v : qm_AV} (h : qm_Lo mi B0 sb sa als ls) (hk : qm_lg ls k = v) (hn : ∀ i, v ≠ qP 99 i) : als[k]? = some (.val (qm_cv B0 sb sa v)) := by
  have h1 := qm_lg_at hk (hn 0)
  have h2 := h.1.2.2 (0 + k, qm_cv B0 sb sa v) (qm_lv_mem.mpr ⟨k, v, h1, hn, rfl⟩)
  rw [Nat.zero_add] at h2
  exact h2
theorem qm_Lo.ok {mi B0 sb sa : Nat} {als : Array Slot} {ls : List qm_AV} {k : Nat} {v : qm_AV} (h : qm_Lo mi B0 sb sa als ls) (hk : qm_lg ls k = v) (hn : ∀ i, v ≠ qP 99 i) : qm_okV v := by
  rcases h.2.2 v (List.mem_of_getElem? (qm_lg_at hk (hn 0))) with e | e
  · exact absurd e (hn 0)
  · exact e
theorem qm_lv_s1 {B0 sb sa nL : Nat} {a : Array Slot} {ls : List qm_AV} {k : Nat} {x : qm_AV} (hk : k < ls.length) (h : lv_has a nL ((k, qm_cv B0 sb sa x) :: (qm_lv B0 sb sa 0 ls).filter (fun q => !(q.1 == k) && !(q.1 + 1 == k && q.2.category == 2)))) : lv_has a nL (qm_lv B0 sb sa 0 (qm_s1 ls k x)) := by
  refine ⟨h.1, h.2.1, fun q hq => h.2.2 q ?_⟩
  obtain ⟨n, v, h1, h2, rfl⟩ := qm_lv_mem.mp hq
  rw [Nat.zero_add]
  have hne : ∀ {l : List qm_AV}, (qm_ls l k x)[n]? = some v → n ≠ k → l[n]? = some v := by
    intro l hl hnk
    rw [qm_ls_at, if_neg (fun z => hnk z.1)] at hl
    exact hl
  by_cases hnk : n = k
  · subst hnk
    have : v = x := by
      cases n with
      | zero =>
        rw [qm_s1, qm_ls_at, if_pos ⟨rfl, hk⟩] at h1
        exact (Option.some.inj h1).symm
      | succ n =>
        rw [qm_s1] at h1
        split at h1
        · rw [qm_ls_at, if_pos ⟨rfl, by rw [qm_ls_len]; exact hk⟩] at h1
          exact (Option.some.inj h1).symm
        · rw [qm_ls_at, if_pos ⟨rfl, hk⟩] at h1
          exact (Option.some.inj h1).symm
    rw [this]
    exact List.mem_cons_self
  · refine List.mem_cons_of_mem _ (List.mem_filter.mpr ⟨?_, ?_⟩)
    · refine qm_lv_mem.mpr ⟨n, v, ?_, h2, by rw [Nat.zero_add]⟩
      cases k with
      | zero => exact hne h1 hnk
      | succ k =>
        rw [qm_s1] at h1
        split at h1
        · have h3 := hne h1 hnk
          rw [qm_ls_at] at h3
          split at h3
          · exact absurd (Option.some.inj h3).symm (h2 0)
          · exact h3
        · exact hne h1 hnk
    · simp only [Bool.and_eq_true, Bool.not_eq_true', beq_eq_false_iff_ne, ne_eq, hnk, not_false_eq_true, true_and, Bool.and_eq_false_iff, qm_cv_cat]
      by_cases hk2 : n + 1 = k
      · subst hk2
        right
        rw [qm_s1] at h1
        split at h1
        · next hL =>
          have h3 := hne h1 hnk
          rw [qm_ls_at, if_pos ⟨rfl, by omega⟩] at h3
          exact absurd (Option.some.inj h3).symm (h2 0)
        · next hL =>
          have h3 := hne h1 hnk
          rw [qm_lg_get h3] at hL
          simp [hL]
      · left
        exact hk2
theorem qm_s1_len {ls : List qm_AV} {k : Nat} {x : qm_AV} : (qm_s1 ls k x).length = ls.length := by
  cases k with
  | zero => exact qm_ls_len
  | succ k =>
    rw [qm_s1]
    split
    · rw [qm_ls_len, qm_ls_len]
    · exact qm_ls_len
theorem qm_ls_all {P : qm_AV → Prop} {ls : List qm_AV} {k : Nat} {x : qm_AV} (h : ∀ v ∈ ls, P v) (hx : P x) : ∀ v ∈ qm_ls ls k x, P v := by
  intro v hv
  obtain ⟨n, hn⟩ := List.getElem?_of_mem hv
  rw [qm_ls_at] at hn
  split at hn
  · cases hn; exact hx
  · exact h v (List.mem_of_getElem? hn)
theorem qm_s1_all {ls : List qm_AV} {k : Nat} {x : qm_AV} (h : ∀ v ∈ ls, v = qU ∨ qm_okV v) (hx : x = qU ∨ qm_okV x) : ∀ v ∈ qm_s1 ls k x, v = qU ∨ qm_okV v := by
  cases k with
  | zero => exact qm_ls_all h hx
  | succ k =>
    rw [qm_s1]
    split
    · exact qm_ls_all (qm_ls_all h (Or.inl rfl)) hx
    · exact qm_ls_all h hx
theorem qm_Lo.s1 {mi B0 sb sa : Nat} {als a : Array Slot} {ls : List qm_AV} {k : Nat} {x : qm_AV} (h : qm_Lo mi B0 sb sa als ls) (hk : k < ls.length) (hx : qm_okV x) (ha : lv_has a (qm_maxL mi) ((k, qm_cv B0 sb sa x) :: (qm_lv B0 sb sa 0 ls).filter (fun q => !(q.1 == k) && !(q.1 + 1 == k && q.2.category == 2)))) : qm_Lo mi B0 sb sa a (qm_s1 ls k x) :=
  ⟨qm_lv_s1 hk ha, by rw [qm_s1_len]; exact h.2.1, qm_s1_all h.2.2 (Or.inr hx)⟩
theorem qm_lv_s2 {B0 sb sa nL : Nat} {a : Array Slot} {ls : List qm_AV} {k : Nat} {x : qm_AV} (hk : k + 1 < ls.length) (h : lv_has a nL ((k, qm_cv B0 sb sa x) :: (qm_lv B0 sb sa 0 ls).filter (fun q => !(q.1 == k) && (!(q.1 == k + 1) && !(q.1 + 1 == k && q.2.category == 2))))) : lv_has a nL (qm_lv B0 sb sa 0 (qm_s2 ls k x)) := by
  have h1 : ∀ q ∈ qm_lv B0 sb sa 0 (qm_s2 ls k x), q ∈ qm_lv B0 sb sa 0 (qm_s1 ls k x) ∧ q.1 ≠ k + 1 := by
    intro q hq
    obtain ⟨n, v, g1, g2, rfl⟩ := qm_lv_mem.mp hq
    rw [qm_s2, qm_ls_at] at g1
    split at g1
    · cases g1
      exact absurd rfl (g2 0)
    · next hc => exact ⟨qm_lv_mem.mpr ⟨n, v, g1, g2, rfl⟩, fun z => hc ⟨by simpa using z, by rw [qm_s1_len]; exact hk⟩⟩
  have h2 : ∀ q ∈ qm_lv B0 sb sa 0 (qm_s1 ls k x), q ∈ ((k, qm_cv B0 sb sa x) :: (qm_lv B0 sb sa 0 ls).filter (fun q => !(q.1 == k) && !(q.1 + 1 == k && q.2.category == 2))) := by
    intro q hq
    -- the same walk as for one word, over a frame that holds just the listed values
    obtain ⟨n, v, g1, g2, rfl⟩ := qm_lv_mem.mp hq
    rw [Nat.zero_add]
    have hne : ∀ {l : List qm_AV}, (qm_ls l k x)[n]? = some v → n ≠ k → l[n]? = some v := by
      intro l hl hnk
      rw [qm_ls_at, if_neg (fun z => hnk z.1)] at hl
      exact hl
    have hk' : k < ls.length := by omega
    by_cases hnk : n = k
    · subst hnk
      have : v = x := by
        cases n with
        | zero =>
          rw [qm_s1, qm_ls_at, if_pos ⟨rfl, hk'⟩] at g1
          exact (Option.some.inj g1).symm
        | succ n =>
          rw [qm_s1] at g1
          split at g1
          · rw [qm_ls_at, if_pos ⟨rfl, by rw [qm_ls_len]; exact hk'⟩] at g1
            exact (Option.some.inj g1).symm
          · rw [qm_ls_at, if_pos ⟨rfl, hk'⟩] at g1
            exact (Option.some.inj g1).symm
      rw [this]
      exact List.mem_cons_self
    · refine List.mem_cons_of_mem _ (List.mem_filter.mpr ⟨?_, ?_⟩)
      · refine qm_lv_mem.mpr ⟨n, v, ?_, g2, by rw [Nat.zero_add]⟩
        cases k with
        | zero => exact hne g1 hnk
        | succ k =>
          rw [qm_s1] at g1
          split at g1
          · have h3 := hne g1 hnk
            rw [qm_ls_at] at h3
            split at h3
            · exact absurd (Option.some.inj h3).symm (g2 0)
            · exact h3
          · exact hne g1 hnk
      · simp only [Bool.and_eq_true, Bool.not_eq_true', beq_eq_false_iff_ne, ne_eq, hnk, not_false_eq_true, true_and, Bool.and_eq_false_iff, qm_cv_cat]
        by_cases hk2 : n + 1 = k
        · subst hk2
          right
          rw [qm_s1] at g1
          split at g1
          · next hL =>
            have h3 := hne g1 hnk
            rw [qm_ls_at, if_pos ⟨rfl, by omega⟩] at h3
            exact absurd (Option.some.inj h3).symm (g2 0)
          · next hL =>
            have h3 := hne g1 hnk
            rw [qm_lg_get h3] at hL
            simp [hL]
        · left
          exact hk2
  refine ⟨h.1, h.2.1, fun q hq => h.2.2 q ?_⟩
  obtain ⟨g1, g2⟩ := h1 q hq
  rcases List.mem_cons.mp (h2 q g1) with g | g
  · rw [g]; exact List.mem_cons_self
  · obtain ⟨g3, g4⟩ := List.mem_filter.mp g
    refine List.mem_cons_of_mem _ (List.mem_filter.mpr ⟨g3, ?_⟩)
    simp only [Bool.and_eq_true] at g4 ⊢
    exact ⟨g4.1, by simpa using g2, g4.2⟩
theorem qm_Lo.s2 {mi B0 sb sa : Nat} {als a : Array Slot} {ls : List qm_AV} {k : Nat} {x : qm_AV} (h : qm_Lo mi B0 sb sa als ls) (hk : k + 1 < ls.length) (hx : qm_okV x) (ha : lv_has a (qm_maxL mi) ((k, qm_cv B0 sb sa x) :: (qm_lv B0 sb sa 0 ls).filter (fun q => !(q.1 == k) && (!(q.1 == k + 1) && !(q.1 + 1 == k && q.2.category == 2))))) : qm_Lo mi B0 sb sa a (qm_s2 ls k x) :=
  ⟨qm_lv_s2 hk ha, by rw [qm_s2, qm_ls_len, qm_s1_len]; exact h.2.1, by rw [qm_s2]; exact qm_ls_all (qm_s1_all h.2.2 (Or.inr hx)) (Or.inl rfl)⟩
end
section
section QST
variable {p : Program} {l : Launch} {e : Env} {R : Room} {s : State} {m : MethodId} {args : Array Value} {below : List Frame} {meth : Method} {c : Code} {cells slots : Nat} {Q : State → Prop} {H : Heap} {locs : List Loc}
variable {d B0 sb sa sv L mi : Nat} {xs : Nat → Int32} {dC : Nat → ClassId} {dI : Nat → Nat → Nat} {cs : Nat × Nat × Nat × Nat × Nat} {pc n : Nat} {als : Array Slot} {ls st ls' st' : List qm_AV} {h h' : qm_Hp} {x : Instr}
theorem so_iadd (X : qm_Cx p R s m args c cells slots d mi B0 sb sa sv L xs dC dI cs) (hw : qm_Wd s B0 L xs dC dI cs h H locs) (hl : qm_Lo mi B0 sb sa als ls) (ho : qm_So st) (hd : decode (mC mi) pc = .ok (.iadd, 1)) (ha : qa_bin (fun x y => x + y) ls st h = some (.inl (ls', st', h'))) (kk : ∀ (H1 : Heap) (locs1 : List Loc) (als1 : Array Slot), qm_Wd s B0 L xs dC dI cs h' H1 locs1 → qm_Lo mi B0 sb sa als1 ls' → qm_So st' → W p l e R s m args below meth c H1 locs1 cells slots Q (F0 m (pc + 1) als1 (st'.map (qm_cv B0 sb sa)))) : W p l e R s m args below meth c H locs cells slots Q (F0 m pc als (st.map (qm_cv B0 sb sa))) := by
  unfold qa_bin at ha
  split at ha
  · next y x r =>
    cases ha
    exact lv_iadd X.1 X.2.1 hd (kk H locs als hw hl (ho.t.t.cons trivial))
  · cases ha
theorem so_isub (X : qm_Cx p R s m args c cells slots d mi B0 sb sa sv L xs dC dI cs) (hw : qm_Wd s B0 L xs dC dI cs h H locs) (hl : qm_Lo mi B0 sb sa als ls) (ho : qm_So st) (hd : decode (mC mi) pc = .ok (.isub, 1)) (ha : qa_bin (fun x y => x - y) ls st h = some (.inl (ls', st', h'))) (kk : ∀ (H1 : Heap) (locs1 : List Loc) (als1 : Array Slot), qm_Wd s B0 L xs dC dI cs h' H1 locs1 → qm_Lo mi B0 sb sa als1 ls' → qm_So st' → W p l e R s m args below meth c H1 locs1 cells slots Q (F0 m (pc + 1) als1 (st'.map (qm_cv B0 sb sa)))) : W p l e R s m args below meth c H locs cells slots Q (F0 m pc als (st.map (qm_cv B0 sb sa))) := by
  unfold qa_bin at ha
  split at ha
  · next y x r =>
    cases ha
    exact lv_isub X.1 X.2.1 hd (kk H locs als hw hl (ho.t.t.cons trivial))
  · cases ha
theorem so_imul (X : qm_Cx p R s m args c cells slots d mi B0 sb sa sv L xs dC dI cs) (hw : qm_Wd s B0 L xs dC dI cs h H locs) (hl : qm_Lo mi B0 sb sa als ls) (ho : qm_So st) (hd : decode (mC mi) pc = .ok (.imul, 1)) (ha : qa_bin (fun x y => x * y) ls st h = some (.inl (ls', st', h'))) (kk : ∀ (H1 : Heap) (locs1 : List Loc) (als1 : Array Slot), qm_Wd s B0 L xs dC dI cs h' H1 locs1 → qm_Lo mi B0 sb sa als1 ls' → qm_So st' → W p l e R s m args below meth c H1 locs1 cells slots Q (F0 m (pc + 1) als1 (st'.map (qm_cv B0 sb sa)))) : W p l e R s m args below meth c H locs cells slots Q (F0 m pc als (st.map (qm_cv B0 sb sa))) := by
  unfold qa_bin at ha
  split at ha
  · next y x r =>
    cases ha
    exact lv_imul X.1 X.2.1 hd (kk H locs als hw hl (ho.t.t.cons trivial))
  · cases ha
theorem so_iand (X : qm_Cx p R s m args c cells slots d mi B0 sb sa sv L xs dC dI cs) (hw : qm_Wd s B0 L xs dC dI cs h H locs) (hl : qm_Lo mi B0 sb sa als ls) (ho : qm_So st) (hd : decode (mC mi) pc = .ok (.iand, 1)) (ha : qa_bin (fun x y => x &&& y) ls st h = some (.inl (ls', st', h'))) (kk : ∀ (H1 : Heap) (locs1 : List Loc) (als1 : Array Slot), qm_Wd s B0 L xs dC dI cs h' H1 locs1 → qm_Lo mi B0 sb sa als1 ls' → qm_So st' → W p l e R s m args below meth c H1 locs1 cells slots Q (F0 m (pc + 1) als1 (st'.map (qm_cv B0 sb sa)))) : W p l e R s m args below meth c H locs cells slots Q (F0 m pc als (st.map (qm_cv B0 sb sa))) := by
  unfold qa_bin at ha
  split at ha
  · next y x r =>
    cases ha
    exact lv_iand X.1 X.2.1 hd (kk H locs als hw hl (ho.t.t.cons trivial))
  · cases ha
theorem so_ior (X : qm_Cx p R s m args c cells slots d mi B0 sb sa sv L xs dC dI cs) (hw : qm_Wd s B0 L xs dC dI cs h H locs) (hl : qm_Lo mi B0 sb sa als ls) (ho : qm_So st) (hd : decode (mC mi) pc = .ok (.ior, 1)) (ha : qa_bin (fun x y => x ||| y) ls st h = some (.inl (ls', st', h'))) (kk : ∀ (H1 : Heap) (locs1 : List Loc) (als1 : Array Slot), qm_Wd s B0 L xs dC dI cs h' H1 locs1 → qm_Lo mi B0 sb sa als1 ls' → qm_So st' → W p l e R s m args below meth c H1 locs1 cells slots Q (F0 m (pc + 1) als1 (st'.map (qm_cv B0 sb sa)))) : W p l e R s m args below meth c H locs cells slots Q (F0 m pc als (st.map (qm_cv B0 sb sa))) := by
  unfold qa_bin at ha
  split at ha
  · next y x r =>
    cases ha
    exact lv_ior X.1 X.2.1 hd (kk H locs als hw hl (ho.t.t.cons trivial))
  · cases ha
theorem so_ishl (X : qm_Cx p R s m args c cells slots d mi B0 sb sa sv L xs dC dI cs) (hw : qm_Wd s B0 L xs dC dI cs h H locs) (hl : qm_Lo mi B0 sb sa als ls) (ho : qm_So st) (hd : decode (mC mi) pc = .ok (.ishl, 1)) (ha : qa_bin (fun x y => x <<< (y &&& 31)) ls st h = some (.inl (ls', st', h'))) (kk : ∀ (H1 : Heap) (locs1 : List Loc) (als1 : Array Slot), qm_Wd s B0 L xs dC dI cs h' H1 locs1 → qm_Lo mi B0 sb sa als1 ls' → qm_So st' → W p l e R s m args below meth c H1 locs1 cells slots Q (F0 m (pc + 1) als1 (st'.map (qm_cv B0 sb sa)))) : W p l e R s m args below meth c H locs cells slots Q (F0 m pc als (st.map (qm_cv B0 sb sa))) := by
  unfold qa_bin at ha
  split at ha
  · next y x r =>
    cases ha
    exact lv_ishl X.1 X.2.1 hd (kk H locs als hw hl (ho.t.t.cons trivial))
  · cases ha
theorem so_ishr (X : qm_Cx p R s m args c cells slots d mi B0 sb sa sv L xs dC dI cs) (hw : qm_Wd s B0 L xs dC dI cs h H locs) (hl : qm_Lo mi B0 sb sa als ls) (ho : qm_So st) (hd : decode (mC mi) pc = .ok (.ishr, 1)) (ha : qa_bin (fun x y => x >>> (y &&& 31)) ls st h = some (.inl (ls', st', h'))) (kk : ∀ (H1 : Heap) (locs1 : List Loc) (als1 : Array Slot), qm_Wd s B0 L xs dC dI cs h' H1 locs1 → qm_Lo mi B0 sb sa als1 ls' → qm_So st' → W p l e R s m args below meth c H1 locs1 cells slots Q (F0 m (pc + 1) als1 (st'.map (qm_cv B0 sb sa)))) : W p l e R s m args below meth c H locs cells slots Q (F0 m pc als (st.map (qm_cv B0 sb sa))) := by
  unfold qa_bin at ha
  split at ha
  · next y x r =>
    cases ha
    exact lv_ishr X.1 X.2.1 hd (kk H locs als hw hl (ho.t.t.cons trivial))
  · cases ha
theorem so_iushr (X : qm_Cx p R s m args c cells slots d mi B0 sb sa sv L xs dC dI cs) (hw : qm_Wd s B0 L xs dC dI cs h H locs) (hl : qm_Lo mi B0 sb sa als ls) (ho : qm_So st) (hd : decode (mC mi) pc = .ok (.iushr, 1)) (ha : qa_bin (fun x y => (x.toUInt32 >>> (y.toUInt32 &&& Int32.toUInt32 31)).toInt32) ls st h = some (.inl (ls', st', h'))) (kk : ∀ (H1 : Heap) (locs1 : List Loc) (als1 : Array Slot), qm_Wd s B0 L xs dC dI cs h' H1 locs1 → qm_Lo mi B0 sb sa als1 ls' → qm_So st' → W p l e R s m args below meth c H1 locs1 cells slots Q (F0 m (pc + 1) als1 (st'.map (qm_cv B0 sb sa)))) : W p l e R s m args below meth c H locs cells slots Q (F0 m pc als (st.map (qm_cv B0 sb sa))) := by
  unfold qa_bin at ha
  split at ha
  · next y x r =>
    cases ha
    exact lv_iushr X.1 X.2.1 hd rfl (kk H locs als hw hl (ho.t.t.cons trivial))
  · cases ha
theorem so_idiv (X : qm_Cx p R s m args c cells slots d mi B0 sb sa sv L xs dC dI cs) (hw : qm_Wd s B0 L xs dC dI cs h H locs) (hl : qm_Lo mi B0 sb sa als ls) (ho : qm_So st) (hd : decode (mC mi) pc = .ok (.idiv, 1)) (ha : qa_div (fun x y => x / y) ls st h = some (.inl (ls', st', h'))) (kk : ∀ (H1 : Heap) (locs1 : List Loc) (als1 : Array Slot), qm_Wd s B0 L xs dC dI cs h' H1 locs1 → qm_Lo mi B0 sb sa als1 ls' → qm_So st' → W p l e R s m args below meth c H1 locs1 cells slots Q (F0 m (pc + 1) als1 (st'.map (qm_cv B0 sb sa)))) : W p l e R s m args below meth c H locs cells slots Q (F0 m pc als (st.map (qm_cv B0 sb sa))) := by
  unfold qa_div at ha
  split at ha
  · next y x r =>
    split at ha
    · cases ha
    · next hg =>
      cases ha
      exact lv_idiv X.1 X.2.1 hd hg (kk H locs als hw hl (ho.t.t.cons trivial))
  · cases ha
theorem so_irem (X : qm_Cx p R s m args c cells slots d mi B0 sb sa sv L xs dC dI cs) (hw : qm_Wd s B0 L xs dC dI cs h H locs) (hl : qm_Lo mi B0 sb sa als ls) (ho : qm_So st) (hd : decode (mC mi) pc = .ok (.irem, 1)) (ha : qa_div (fun x y => x - x / y * y) ls st h = some (.inl (ls', st', h'))) (kk : ∀ (H1 : Heap) (locs1 : List Loc) (als1 : Array Slot), qm_Wd s B0 L xs dC dI cs h' H1 locs1 → qm_Lo mi B0 sb sa als1 ls' → qm_So st' → W p l e R s m args below meth c H1 locs1 cells slots Q (F0 m (pc + 1) als1 (st'.map (qm_cv B0 sb sa)))) : W p l e R s m args below meth c H locs cells slots Q (F0 m pc als (st.map (qm_cv B0 sb sa))) := by
  unfold qa_div at ha
  split at ha
  · next y x r =>
    split at ha
    · cases ha
    · next hg =>
      cases ha
      exact lv_irem X.1 X.2.1 hd hg (kk H locs als hw hl (ho.t.t.cons trivial))
  · cases ha
theorem so_ineg (X : qm_Cx p R s m args c cells slots d mi B0 sb sa sv L xs dC dI cs) (hw : qm_Wd s B0 L xs dC dI cs h H locs) (hl : qm_Lo mi B0 sb sa als ls) (ho : qm_So st) (hd : decode (mC mi) pc = .ok (.ineg, 1)) (ha : qa_neg ls st h = some (.inl (ls', st', h'))) (kk : ∀ (H1 : Heap) (locs1 : List Loc) (als1 : Array Slot), qm_Wd s B0 L xs dC dI cs h' H1 locs1 → qm_Lo mi B0 sb sa als1 ls' → qm_So st' → W p l e R s m args below meth c H1 locs1 cells slots Q (F0 m (pc + 1) als1 (st'.map (qm_cv B0 sb sa)))) : W p l e R s m args below meth c H locs cells slots Q (F0 m pc als (st.map (qm_cv B0 sb sa))) := by
  unfold qa_neg at ha
  split at ha
  · next x r =>
    cases ha
    exact lv_ineg X.1 X.2.1 hd (kk H locs als hw hl (ho.t.cons trivial))
  · cases ha
theorem so_ladd (X : qm_Cx p R s m args c cells slots d mi B0 sb sa sv L xs dC dI cs) (hw : qm_Wd s B0 L xs dC dI cs h H locs) (hl : qm_Lo mi B0 sb sa als ls) (ho : qm_So st) (hd : decode (mC mi) pc = .ok (.ladd, 1)) (ha : qa_lbin (fun x y => x + y) ls st h = some (.inl (ls', st', h'))) (kk : ∀ (H1 : Heap) (locs1 : List Loc) (als1 : Array Slot), qm_Wd s B0 L xs dC dI cs h' H1 locs1 → qm_Lo mi B0 sb sa als1 ls' → qm_So st' → W p l e R s m args below meth c H1 locs1 cells slots Q (F0 m (pc + 1) als1 (st'.map (qm_cv B0 sb sa)))) : W p l e R s m args below meth c H locs cells slots Q (F0 m pc als (st.map (qm_cv B0 sb sa))) := by
  unfold qa_lbin at ha
  split at ha
  · next y x r =>
    cases ha
    exact lv_ladd X.1 X.2.1 hd (kk H locs als hw hl (ho.t.t.cons trivial))
  · cases ha
theorem so_lsub (X : qm_Cx p R s m args c cells slots d mi B0 sb sa sv L xs dC dI cs) (hw : qm_Wd s B0 L xs dC dI cs h H locs) (hl : qm_Lo mi B0 sb sa als ls) (ho : qm_So st) (hd : decode (mC mi) pc = .ok (.lsub, 1)) (ha : qa_lbin (fun x y => x - y) ls st h = some (.inl (ls', st', h'))) (kk : ∀ (H1 : Heap) (locs1 : List Loc) (als1 : Array Slot), qm_Wd s B0 L xs dC dI cs h' H1 locs1 → qm_Lo mi B0 sb sa als1 ls' → qm_So st' → W p l e R s m args below meth c H1 locs1 cells slots Q (F0 m (pc + 1) als1 (st'.map (qm_cv B0 sb sa)))) : W p l e R s m args below meth c H locs cells slots Q (F0 m pc als (st.map (qm_cv B0 sb sa))) := by
  unfold qa_lbin at ha
  split at ha
  · next y x r =>
    cases ha
    exact lv_lsub X.1 X.2.1 hd (kk H locs als hw hl (ho.t.t.cons trivial))
  · cases ha
theorem so_lmul (X : qm_Cx p R s m args c cells slots d mi B0 sb sa sv L xs dC dI cs) (hw : qm_Wd s B0 L xs dC dI cs h H locs) (hl : qm_Lo mi B0 sb sa als ls) (ho : qm_So st) (hd : decode (mC mi) pc = .ok (.lmul, 1)) (ha : qa_lbin (fun x y => x * y) ls st h = some (.inl (ls', st', h'))) (kk : ∀ (H1 : Heap) (locs1 : List Loc) (als1 : Array Slot), qm_Wd s B0 L xs dC dI cs h' H1 locs1 → qm_Lo mi B0 sb sa als1 ls' → qm_So st' → W p l e R s m args below meth c H1 locs1 cells slots Q (F0 m (pc + 1) als1 (st'.map (qm_cv B0 sb sa)))) : W p l e R s m args below meth c H locs cells slots Q (F0 m pc als (st.map (qm_cv B0 sb sa))) := by
  unfold qa_lbin at ha
  split at ha
  · next y x r =>
    cases ha
    exact lv_lmul X.1 X.2.1 hd (kk H locs als hw hl (ho.t.t.cons trivial))
  · cases ha
theorem so_land (X : qm_Cx p R s m args c cells slots d mi B0 sb sa sv L xs dC dI cs) (hw : qm_Wd s B0 L xs dC dI cs h H locs) (hl : qm_Lo mi B0 sb sa als ls) (ho : qm_So st) (hd : decode (mC mi) pc = .ok (.land, 1)) (ha : qa_lbin (fun x y => x &&& y) ls st h = some (.inl (ls', st', h'))) (kk : ∀ (H1 : Heap) (locs1 : List Loc) (als1 : Array Slot), qm_Wd s B0 L xs dC dI cs h' H1 locs1 → qm_Lo mi B0 sb sa als1 ls' → qm_So st' → W p l e R s m args below meth c H1 locs1 cells slots Q (F0 m (pc + 1) als1 (st'.map (qm_cv B0 sb sa)))) : W p l e R s m args below meth c H locs cells slots Q (F0 m pc als (st.map (qm_cv B0 sb sa))) := by
  unfold qa_lbin at ha
  split at ha
  · next y x r =>
    cases ha
    exact lv_land X.1 X.2.1 hd (kk H locs als hw hl (ho.t.t.cons trivial))
  · cases ha
theorem so_lor (X : qm_Cx p R s m args c cells slots d mi B0 sb sa sv L xs dC dI cs) (hw : qm_Wd s B0 L xs dC dI cs h H locs) (hl : qm_Lo mi B0 sb sa als ls) (ho : qm_So st) (hd : decode (mC mi) pc = .ok (.lor, 1)) (ha : qa_lbin (fun x y => x ||| y) ls st h = some (.inl (ls', st', h'))) (kk : ∀ (H1 : Heap) (locs1 : List Loc) (als1 : Array Slot), qm_Wd s B0 L xs dC dI cs h' H1 locs1 → qm_Lo mi B0 sb sa als1 ls' → qm_So st' → W p l e R s m args below meth c H1 locs1 cells slots Q (F0 m (pc + 1) als1 (st'.map (qm_cv B0 sb sa)))) : W p l e R s m args below meth c H locs cells slots Q (F0 m pc als (st.map (qm_cv B0 sb sa))) := by
  unfold qa_lbin at ha
  split at ha
  · next y x r =>
    cases ha
    exact lv_lor X.1 X.2.1 hd (kk H locs als hw hl (ho.t.t.cons trivial))
  · cases ha
theorem so_ldiv (X : qm_Cx p R s m args c cells slots d mi B0 sb sa sv L xs dC dI cs) (hw : qm_Wd s B0 L xs dC dI cs h H locs) (hl : qm_Lo mi B0 sb sa als ls) (ho : qm_So st) (hd : decode (mC mi) pc = .ok (.ldiv, 1)) (ha : qa_ldiv ls st h = some (.inl (ls', st', h'))) (kk : ∀ (H1 : Heap) (locs1 : List Loc) (als1 : Array Slot), qm_Wd s B0 L xs dC dI cs h' H1 locs1 → qm_Lo mi B0 sb sa als1 ls' → qm_So st' → W p l e R s m args below meth c H1 locs1 cells slots Q (F0 m (pc + 1) als1 (st'.map (qm_cv B0 sb sa)))) : W p l e R s m args below meth c H locs cells slots Q (F0 m pc als (st.map (qm_cv B0 sb sa))) := by
  unfold qa_ldiv at ha
  split at ha
  · next y x r =>
    split at ha
    · cases ha
    · next hg =>
      cases ha
      exact lv_ldiv X.1 X.2.1 hd hg (kk H locs als hw hl (ho.t.t.cons trivial))
  · cases ha
theorem so_lneg (X : qm_Cx p R s m args c cells slots d mi B0 sb sa sv L xs dC dI cs) (hw : qm_Wd s B0 L xs dC dI cs h H locs) (hl : qm_Lo mi B0 sb sa als ls) (ho : qm_So st) (hd : decode (mC mi) pc = .ok (.lneg, 1)) (ha : qa_lneg ls st h = some (.inl (ls', st', h'))) (kk : ∀ (H1 : Heap) (locs1 : List Loc) (als1 : Array Slot), qm_Wd s B0 L xs dC dI cs h' H1 locs1 → qm_Lo mi B0 sb sa als1 ls' → qm_So st' → W p l e R s m args below meth c H1 locs1 cells slots Q (F0 m (pc + 1) als1 (st'.map (qm_cv B0 sb sa)))) : W p l e R s m args below meth c H locs cells slots Q (F0 m pc als (st.map (qm_cv B0 sb sa))) := by
  unfold qa_lneg at ha
  split at ha
  · next x r =>
    cases ha
    exact lv_lneg X.1 X.2.1 hd (kk H locs als hw hl (ho.t.cons trivial))
  · cases ha
theorem so_lshl (X : qm_Cx p R s m args c cells slots d mi B0 sb sa sv L xs dC dI cs) (hw : qm_Wd s B0 L xs dC dI cs h H locs) (hl : qm_Lo mi B0 sb sa als ls) (ho : qm_So st) (hd : decode (mC mi) pc = .ok (.lshl, 1)) (ha : qa_lshl ls st h = some (.inl (ls', st', h'))) (kk : ∀ (H1 : Heap) (locs1 : List Loc) (als1 : Array Slot), qm_Wd s B0 L xs dC dI cs h' H1 locs1 → qm_Lo mi B0 sb sa als1 ls' → qm_So st' → W p l e R s m args below meth c H1 locs1 cells slots Q (F0 m (pc + 1) als1 (st'.map (qm_cv B0 sb sa)))) : W p l e R s m args below meth c H locs cells slots Q (F0 m pc als (st.map (qm_cv B0 sb sa))) := by
  unfold qa_lshl at ha
  split at ha
  · next y x r =>
    cases ha
    exact lv_lshl X.1 X.2.1 hd rfl (kk H locs als hw hl (ho.t.t.cons trivial))
  · cases ha
theorem so_lcmp (X : qm_Cx p R s m args c cells slots d mi B0 sb sa sv L xs dC dI cs) (hw : qm_Wd s B0 L xs dC dI cs h H locs) (hl : qm_Lo mi B0 sb sa als ls) (ho : qm_So st) (hd : decode (mC mi) pc = .ok (.lcmp, 1)) (ha : qa_lcmp ls st h = some (.inl (ls', st', h'))) (kk : ∀ (H1 : Heap) (locs1 : List Loc) (als1 : Array Slot), qm_Wd s B0 L xs dC dI cs h' H1 locs1 → qm_Lo mi B0 sb sa als1 ls' → qm_So st' → W p l e R s m args below meth c H1 locs1 cells slots Q (F0 m (pc + 1) als1 (st'.map (qm_cv B0 sb sa)))) : W p l e R s m args below meth c H locs cells slots Q (F0 m pc als (st.map (qm_cv B0 sb sa))) := by
  unfold qa_lcmp at ha
  split at ha
  · next y x r =>
    cases ha
    exact W.lcmp X.1 X.2.1 hd (kk H locs als hw hl (ho.t.t.cons trivial))
  · cases ha
theorem so_i2l (X : qm_Cx p R s m args c cells slots d mi B0 sb sa sv L xs dC dI cs) (hw : qm_Wd s B0 L xs dC dI cs h H locs) (hl : qm_Lo mi B0 sb sa als ls) (ho : qm_So st) (hd : decode (mC mi) pc = .ok (.i2l, 1)) (ha : qa_i2l ls st h = some (.inl (ls', st', h'))) (kk : ∀ (H1 : Heap) (locs1 : List Loc) (als1 : Array Slot), qm_Wd s B0 L xs dC dI cs h' H1 locs1 → qm_Lo mi B0 sb sa als1 ls' → qm_So st' → W p l e R s m args below meth c H1 locs1 cells slots Q (F0 m (pc + 1) als1 (st'.map (qm_cv B0 sb sa)))) : W p l e R s m args below meth c H locs cells slots Q (F0 m pc als (st.map (qm_cv B0 sb sa))) := by
  unfold qa_i2l at ha
  split at ha
  · next x r =>
    cases ha
    exact lv_i2l X.1 X.2.1 hd rfl (kk H locs als hw hl (ho.t.cons trivial))
  · cases ha
theorem so_l2i (X : qm_Cx p R s m args c cells slots d mi B0 sb sa sv L xs dC dI cs) (hw : qm_Wd s B0 L xs dC dI cs h H locs) (hl : qm_Lo mi B0 sb sa als ls) (ho : qm_So st) (hd : decode (mC mi) pc = .ok (.l2i, 1)) (ha : qa_l2i ls st h = some (.inl (ls', st', h'))) (kk : ∀ (H1 : Heap) (locs1 : List Loc) (als1 : Array Slot), qm_Wd s B0 L xs dC dI cs h' H1 locs1 → qm_Lo mi B0 sb sa als1 ls' → qm_So st' → W p l e R s m args below meth c H1 locs1 cells slots Q (F0 m (pc + 1) als1 (st'.map (qm_cv B0 sb sa)))) : W p l e R s m args below meth c H locs cells slots Q (F0 m pc als (st.map (qm_cv B0 sb sa))) := by
  unfold qa_l2i at ha
  split at ha
  · next x r =>
    cases ha
    exact lv_l2i X.1 X.2.1 hd rfl (kk H locs als hw hl (ho.t.cons trivial))
  · cases ha
theorem so_dup (X : qm_Cx p R s m args c cells slots d mi B0 sb sa sv L xs dC dI cs) (hw : qm_Wd s B0 L xs dC dI cs h H locs) (hl : qm_Lo mi B0 sb sa als ls) (ho : qm_So st) (hd : decode (mC mi) pc = .ok (.dup, 1)) (ha : qa_dup ls st h = some (.inl (ls', st', h'))) (kk : ∀ (H1 : Heap) (locs1 : List Loc) (als1 : Array Slot), qm_Wd s B0 L xs dC dI cs h' H1 locs1 → qm_Lo mi B0 sb sa als1 ls' → qm_So st' → W p l e R s m args below meth c H1 locs1 cells slots Q (F0 m (pc + 1) als1 (st'.map (qm_cv B0 sb sa)))) : W p l e R s m args below meth c H locs cells slots Q (F0 m pc als (st.map (qm_cv B0 sb sa))) := by
  unfold qa_dup at ha
  split at ha
  · next v r =>
    split at ha
    · cases ha
    · next hg =>
      cases ha
      exact lv_dup X.1 X.2.1 hd (by rw [qm_cv_cat, if_neg hg]) (kk H locs als hw hl (ho.cons ho.h))
  · cases ha
theorem so_dup2 (X : qm_Cx p R s m args c cells slots d mi B0 sb sa sv L xs dC dI cs) (hw : qm_Wd s B0 L xs dC dI cs h H locs) (hl : qm_Lo mi B0 sb sa als ls) (ho : qm_So st) (hd : decode (mC mi) pc = .ok (.dup2, 1)) (ha : qa_dup2 ls st h = some (.inl (ls', st', h'))) (kk : ∀ (H1 : Heap) (locs1 : List Loc) (als1 : Array Slot), qm_Wd s B0 L xs dC dI cs h' H1 locs1 → qm_Lo mi B0 sb sa als1 ls' → qm_So st' → W p l e R s m args below meth c H1 locs1 cells slots Q (F0 m (pc + 1) als1 (st'.map (qm_cv B0 sb sa)))) : W p l e R s m args below meth c H locs cells slots Q (F0 m pc als (st.map (qm_cv B0 sb sa))) := by
  unfold qa_dup2 at ha
  split at ha
  · next v w r =>
    split at ha
    · cases ha
    · next hg =>
      cases ha
      exact lv_dup2_11 X.1 X.2.1 hd (by rw [qm_cv_cat, if_neg (fun z => hg (Or.inl z))]) (by rw [qm_cv_cat, if_neg (fun z => hg (Or.inr z))]) (kk H locs als hw hl ((ho.cons ho.t.h).cons ho.h))
  · cases ha
theorem so_pop (X : qm_Cx p R s m args c cells slots d mi B0 sb sa sv L xs dC dI cs) (hw : qm_Wd s B0 L xs dC dI cs h H locs) (hl : qm_Lo mi B0 sb sa als ls) (ho : qm_So st) (hd : decode (mC mi) pc = .ok (.pop, 1)) (ha : qa_pop ls st h = some (.inl (ls', st', h'))) (kk : ∀ (H1 : Heap) (locs1 : List Loc) (als1 : Array Slot), qm_Wd s B0 L xs dC dI cs h' H1 locs1 → qm_Lo mi B0 sb sa als1 ls' → qm_So st' → W p l e R s m args below meth c H1 locs1 cells slots Q (F0 m (pc + 1) als1 (st'.map (qm_cv B0 sb sa)))) : W p l e R s m args below meth c H locs cells slots Q (F0 m pc als (st.map (qm_cv B0 sb sa))) := by
  unfold qa_pop at ha
  split at ha
  · next v r =>
    split at ha
    · cases ha
    · next hg =>
      cases ha
      exact lv_pop X.1 X.2.1 hd (by rw [qm_cv_cat, if_neg hg]) (kk H locs als hw hl ho.t)
  · cases ha
theorem so_iconst (X : qm_Cx p R s m args c cells slots d mi B0 sb sa sv L xs dC dI cs) (hw : qm_Wd s B0 L xs dC dI cs h H locs) (hl : qm_Lo mi B0 sb sa als ls) (ho : qm_So st) {v : Int} (hd : decode (mC mi) pc = .ok (.iconst v, 1)) (kk : W p l e R s m args below meth c H locs cells slots Q (F0 m (pc + 1) als ((qI (Int32.ofInt v) :: st).map (qm_cv B0 sb sa)))) : W p l e R s m args below meth c H locs cells slots Q (F0 m pc als (st.map (qm_cv B0 sb sa))) := lv_iconst X.1 X.2.1 hd rfl kk
theorem qm_bip : ∀ v : Int, -128 ≤ v → v ≤ 127 → (Int8.ofInt v).toInt32 = Int32.ofInt v := by
  intro v h1 h2
  apply Int32.toInt_inj.mp
  rw [Int8.toInt_toInt32, Int8.toInt_ofInt_of_le (by omega) (by omega), Int32.toInt_ofInt_of_le (by omega) (by omega)]
theorem qm_sip : ∀ v : Int, -32768 ≤ v → v ≤ 32767 → (Int16.ofInt v).toInt32 = Int32.ofInt v := by
  intro v h1 h2
  apply Int32.toInt_inj.mp
  rw [Int16.toInt_toInt32, Int16.toInt_ofInt_of_le (by omega) (by omega), Int32.toInt_ofInt_of_le (by omega) (by omega)]
theorem so_bipush (X : qm_Cx p R s m args c cells slots d mi B0 sb sa sv L xs dC dI cs) (hw : qm_Wd s B0 L xs dC dI cs h H locs) (hl : qm_Lo mi B0 sb sa als ls) (ho : qm_So st) {v : Int} (hd : decode (mC mi) pc = .ok (.bipush v, 2)) (hv : (Int8.ofInt v).toInt32 = Int32.ofInt v) (kk : W p l e R s m args below meth c H locs cells slots Q (F0 m (pc + 2) als ((qI (Int32.ofInt v) :: st).map (qm_cv B0 sb sa)))) : W p l e R s m args below meth c H locs cells slots Q (F0 m pc als (st.map (qm_cv B0 sb sa))) := lv_bipush X.1 X.2.1 hd hv kk
theorem so_sipush (X : qm_Cx p R s m args c cells slots d mi B0 sb sa sv L xs dC dI cs) (hw : qm_Wd s B0 L xs dC dI cs h H locs) (hl : qm_Lo mi B0 sb sa als ls) (ho : qm_So st) {v : Int} (hd : decode (mC mi) pc = .ok (.sipush v, 3)) (hv : (Int16.ofInt v).toInt32 = Int32.ofInt v) (kk : W p l e R s m args below meth c H locs cells slots Q (F0 m (pc + 3) als ((qI (Int32.ofInt v) :: st).map (qm_cv B0 sb sa)))) : W p l e R s m args below meth c H locs cells slots Q (F0 m pc als (st.map (qm_cv B0 sb sa))) := lv_sipush X.1 X.2.1 hd hv kk
theorem so_iload (X : qm_Cx p R s m args c cells slots d mi B0 sb sa sv L xs dC dI cs) (hw : qm_Wd s B0 L xs dC dI cs h H locs) (hl : qm_Lo mi B0 sb sa als ls) (ho : qm_So st) {k : Nat} (hd : decode (mC mi) pc = .ok (.iload k, 2)) (ha : qa_load [k] 0 ls st h = some (.inl (ls', st', h'))) (kk : ∀ (H1 : Heap) (locs1 : List Loc) (als1 : Array Slot), qm_Wd s B0 L xs dC dI cs h' H1 locs1 → qm_Lo mi B0 sb sa als1 ls' → qm_So st' → W p l e R s m args below meth c H1 locs1 cells slots Q (F0 m (pc + 2) als1 (st'.map (qm_cv B0 sb sa)))) : W p l e R s m args below meth c H locs cells slots Q (F0 m pc als (st.map (qm_cv B0 sb sa))) := by
  unfold qa_load at ha
  dsimp only at ha
  generalize hg : qm_lg ls k = v at ha
  rcases v with v | v | ⟨q, i⟩
  · cases ha
    exact lv_iload X.1 X.2.1 hd (hl.at hg (fun i z => by cases z)) (kk H locs als hw hl (ho.cons trivial))
  · cases ha
  · cases ha
theorem so_iload_n (X : qm_Cx p R s m args c cells slots d mi B0 sb sa sv L xs dC dI cs) (hw : qm_Wd s B0 L xs dC dI cs h H locs) (hl : qm_Lo mi B0 sb sa als ls) (ho : qm_So st) {k : Nat} (hk : k < 4) (hd : decode (mC mi) pc = .ok (.iload_n (Fin.ofNat 4 k), 1)) (ha : qa_load [k] 0 ls st h = some (.inl (ls', st', h'))) (kk : ∀ (H1 : Heap) (locs1 : List Loc) (als1 : Array Slot), qm_Wd s B0 L xs dC dI cs h' H1 locs1 → qm_Lo mi B0 sb sa als1 ls' → qm_So st' → W p l e R s m args below meth c H1 locs1 cells slots Q (F0 m (pc + 1) als1 (st'.map (qm_cv B0 sb sa)))) : W p l e R s m args below meth c H locs cells slots Q (F0 m pc als (st.map (qm_cv B0 sb sa))) := by
  unfold qa_load at ha
  dsimp only at ha
  generalize hg : qm_lg ls k = v at ha
  rcases v with v | v | ⟨q, i⟩
  · cases ha
    exact lv_iload_n X.1 X.2.1 hd (by simp [Fin.ofNat, Nat.mod_eq_of_lt hk]) (hl.at hg (fun i z => by cases z)) (kk H locs als hw hl (ho.cons trivial))
  · cases ha
  · cases ha
theorem so_lload (X : qm_Cx p R s m args c cells slots d mi B0 sb sa sv L xs dC dI cs) (hw : qm_Wd s B0 L xs dC dI cs h H locs) (hl : qm_Lo mi B0 sb sa als ls) (ho : qm_So st) {k : Nat} (hd : decode (mC mi) pc = .ok (.lload k, 2)) (ha : qa_load [k] 1 ls st h = some (.inl (ls', st', h'))) (kk : ∀ (H1 : Heap) (locs1 : List Loc) (als1 : Array Slot), qm_Wd s B0 L xs dC dI cs h' H1 locs1 → qm_Lo mi B0 sb sa als1 ls' → qm_So st' → W p l e R s m args below meth c H1 locs1 cells slots Q (F0 m (pc + 2) als1 (st'.map (qm_cv B0 sb sa)))) : W p l e R s m args below meth c H locs cells slots Q (F0 m pc als (st.map (qm_cv B0 sb sa))) := by
  unfold qa_load at ha
  dsimp only at ha
  generalize hg : qm_lg ls k = v at ha
  rcases v with v | v | ⟨q, i⟩
  · cases ha
  · cases ha
    exact lv_lload X.1 X.2.1 hd (hl.at hg (fun i z => by cases z)) (kk H locs als hw hl (ho.cons trivial))
  · cases ha
theorem so_lload_n (X : qm_Cx p R s m args c cells slots d mi B0 sb sa sv L xs dC dI cs) (hw : qm_Wd s B0 L xs dC dI cs h H locs) (hl : qm_Lo mi B0 sb sa als ls) (ho : qm_So st) {k : Nat} (hk : k < 4) (hd : decode (mC mi) pc = .ok (.lload_n (Fin.ofNat 4 k), 1)) (ha : qa_load [k] 1 ls st h = some (.inl (ls', st', h'))) (kk : ∀ (H1 : Heap) (locs1 : List Loc) (als1 : Array Slot), qm_Wd s B0 L xs dC dI cs h' H1 locs1 → qm_Lo mi B0 sb sa als1 ls' → qm_So st' → W p l e R s m args below meth c H1 locs1 cells slots Q (F0 m (pc + 1) als1 (st'.map (qm_cv B0 sb sa)))) : W p l e R s m args below meth c H locs cells slots Q (F0 m pc als (st.map (qm_cv B0 sb sa))) := by
  unfold qa_load at ha
  dsimp only at ha
  generalize hg : qm_lg ls k = v at ha
  rcases v with v | v | ⟨q, i⟩
  · cases ha
  · cases ha
    exact lv_lload_n X.1 X.2.1 hd (by simp [Fin.ofNat, Nat.mod_eq_of_lt hk]) (hl.at hg (fun i z => by cases z)) (kk H locs als hw hl (ho.cons trivial))
  · cases ha
theorem so_aload (X : qm_Cx p R s m args c cells slots d mi B0 sb sa sv L xs dC dI cs) (hw : qm_Wd s B0 L xs dC dI cs h H locs) (hl : qm_Lo mi B0 sb sa als ls) (ho : qm_So st) {k : Nat} (hd : decode (mC mi) pc = .ok (.aload k, 2)) (ha : qa_load [k] 2 ls st h = some (.inl (ls', st', h'))) (kk : ∀ (H1 : Heap) (locs1 : List Loc) (als1 : Array Slot), qm_Wd s B0 L xs dC dI cs h' H1 locs1 → qm_Lo mi B0 sb sa als1 ls' → qm_So st' → W p l e R s m args below meth c H1 locs1 cells slots Q (F0 m (pc + 2) als1 (st'.map (qm_cv B0 sb sa)))) : W p l e R s m args below meth c H locs cells slots Q (F0 m pc als (st.map (qm_cv B0 sb sa))) := by
  unfold qa_load at ha
  dsimp only at ha
  generalize hg : qm_lg ls k = v at ha
  rcases v with v | v | ⟨q, i⟩
  · cases ha
  · cases ha
  · have ha : (if q = 99 ∨ q = 0 then none else some (.inl (ls, qP q i :: st, h)) : Option qm_Act) = some (.inl (ls', st', h')) := ha
    split at ha
    · cases ha
    · next hz =>
      have hn : ∀ j, (qP q i : qm_AV) ≠ qP 99 j := fun j z => hz (Or.inl (by cases z; rfl))
      have hr := hl.at hg hn
      have hok := hl.ok hg hn
      cases ha
      have h0 : ∃ a : Nat, qm_cv B0 sb sa (qP q i) = .ref a := by
        simp only [qm_cv]
        rw [if_neg (fun z => hz (Or.inr z))]
        split
        · exact ⟨_, rfl⟩
        · split <;> exact ⟨_, rfl⟩
      obtain ⟨a, ea⟩ := h0
      rw [ea] at hr
      have kk := kk H locs als hw hl (ho.cons hok)
      rw [List.map_cons, ea] at kk
      exact lv_aload X.1 X.2.1 hd hr kk
theorem so_aload_n (X : qm_Cx p R s m args c cells slots d mi B0 sb sa sv L xs dC dI cs) (hw : qm_Wd s B0 L xs dC dI cs h H locs) (hl : qm_Lo mi B0 sb sa als ls) (ho : qm_So st) {k : Nat} (hk : k < 4) (hd : decode (mC mi) pc = .ok (.aload_n (Fin.ofNat 4 k), 1)) (ha : qa_load [k] 2 ls st h = some (.inl (ls', st', h'))) (kk : ∀ (H1 : Heap) (locs1 : List Loc) (als1 : Array Slot), qm_Wd s B0 L xs dC dI cs h' H1 locs1 → qm_Lo mi B0 sb sa als1 ls' → qm_So st' → W p l e R s m args below meth c H1 locs1 cells slots Q (F0 m (pc + 1) als1 (st'.map (qm_cv B0 sb sa)))) : W p l e R s m args below meth c H locs cells slots Q (F0 m pc als (st.map (qm_cv B0 sb sa))) := by
  unfold qa_load at ha
  dsimp only at ha
  generalize hg : qm_lg ls k = v at ha
  rcases v with v | v | ⟨q, i⟩
  · cases ha
  · cases ha
  · have ha : (if q = 99 ∨ q = 0 then none else some (.inl (ls, qP q i :: st, h)) : Option qm_Act) = some (.inl (ls', st', h')) := ha
    split at ha
    · cases ha
    · next hz =>
      have hn : ∀ j, (qP q i : qm_AV) ≠ qP 99 j := fun j z => hz (Or.inl (by cases z; rfl))
      have hr := hl.at hg hn
      have hok := hl.ok hg hn
      cases ha
      have h0 : ∃ a : Nat, qm_cv B0 sb sa (qP q i) = .ref a := by
        simp only [qm_cv]
        rw [if_neg (fun z => hz (Or.inr z))]
        split
        · exact ⟨_, rfl⟩
        · split <;> exact ⟨_, rfl⟩
      obtain ⟨a, ea⟩ := h0
      rw [ea] at hr
      have kk := kk H locs als hw hl (ho.cons hok)
      rw [List.map_cons, ea] at kk
      exact lv_aload_n X.1 X.2.1 hd (by simp [Fin.ofNat, Nat.mod_eq_of_lt hk]) hr kk
theorem so_istore (X : qm_Cx p R s m args c cells slots d mi B0 sb sa sv L xs dC dI cs) (hw : qm_Wd s B0 L xs dC dI cs h H locs) (hl : qm_Lo mi B0 sb sa als ls) (ho : qm_So st) {k : Nat} (hd : decode (mC mi) pc = .ok (.istore k, 2)) (ha : qa_store [k] 0 ls st h = some (.inl (ls', st', h'))) (kk : ∀ (H1 : Heap) (locs1 : List Loc) (als1 : Array Slot), qm_Wd s B0 L xs dC dI cs h' H1 locs1 → qm_Lo mi B0 sb sa als1 ls' → qm_So st' → W p l e R s m args below meth c H1 locs1 cells slots Q (F0 m (pc + 2) als1 (st'.map (qm_cv B0 sb sa)))) : W p l e R s m args below meth c H locs cells slots Q (F0 m pc als (st.map (qm_cv B0 sb sa))) := by
  unfold qa_store at ha
  dsimp only at ha
  rcases st with _ | ⟨v, r⟩
  · cases ha
  · rcases v with v | v | ⟨q, i⟩
    · have ha : (if k < ls.length then some (.inl (qm_s1 ls k (qI v), r, h)) else none : Option qm_Act) = some (.inl (ls', st', h')) := ha
      split at ha
      · next hg =>
        cases ha
        exact lv_istore X.1 X.2.1 hd hl.1 (by have := hl.2.1; omega) rfl (fun a hA => kk H locs a hw (hl.s1 hg trivial hA) ho.t)
      · cases ha
    · cases ha
    · cases ha
theorem so_istore_n (X : qm_Cx p R s m args c cells slots d mi B0 sb sa sv L xs dC dI cs) (hw : qm_Wd s B0 L xs dC dI cs h H locs) (hl : qm_Lo mi B0 sb sa als ls) (ho : qm_So st) {k : Nat} (hk : k < 4) (hd : decode (mC mi) pc = .ok (.istore_n (Fin.ofNat 4 k), 1)) (ha : qa_store [k] 0 ls st h = some (.inl (ls', st', h'))) (kk : ∀ (H1 : Heap) (locs1 : List Loc) (als1 : Array Slot), qm_Wd s B0 L xs dC dI cs h' H1 locs1 → qm_Lo mi B0 sb sa als1 ls' → qm_So st' → W p l e R s m args below meth c H1 locs1 cells slots Q (F0 m (pc + 1) als1 (st'.map (qm_cv B0 sb sa)))) : W p l e R s m args below meth c H locs cells slots Q (F0 m pc als (st.map (qm_cv B0 sb sa))) := by
  unfold qa_store at ha
  dsimp only at ha
  rcases st with _ | ⟨v, r⟩
  · cases ha
  · rcases v with v | v | ⟨q, i⟩
    · have ha : (if k < ls.length then some (.inl (qm_s1 ls k (qI v), r, h)) else none : Option qm_Act) = some (.inl (ls', st', h')) := ha
      split at ha
      · next hg =>
        cases ha
        exact lv_istore_n X.1 X.2.1 hd (by simp [Fin.ofNat, Nat.mod_eq_of_lt hk]) hl.1 (by have := hl.2.1; omega) rfl (fun a hA => kk H locs a hw (hl.s1 hg trivial hA) ho.t)
      · cases ha
    · cases ha
    · cases ha
theorem so_lstore (X : qm_Cx p R s m args c cells slots d mi B0 sb sa sv L xs dC dI cs) (hw : qm_Wd s B0 L xs dC dI cs h H locs) (hl : qm_Lo mi B0 sb sa als ls) (ho : qm_So st) {k : Nat} (hd : decode (mC mi) pc = .ok (.lstore k, 2)) (ha : qa_store [k] 1 ls st h = some (.inl (ls', st', h'))) (kk : ∀ (H1 : Heap) (locs1 : List Loc) (als1 : Array Slot), qm_Wd s B0 L xs dC dI cs h' H1 locs1 → qm_Lo mi B0 sb sa als1 ls' → qm_So st' → W p l e R s m args below meth c H1 locs1 cells slots Q (F0 m (pc + 2) als1 (st'.map (qm_cv B0 sb sa)))) : W p l e R s m args below meth c H locs cells slots Q (F0 m pc als (st.map (qm_cv B0 sb sa))) := by
  unfold qa_store at ha
  dsimp only at ha
  rcases st with _ | ⟨v, r⟩
  · cases ha
  · rcases v with v | v | ⟨q, i⟩
    · cases ha
    · have ha : (if k + 1 < ls.length then some (.inl (qm_s2 ls k (qL v), r, h)) else none : Option qm_Act) = some (.inl (ls', st', h')) := ha
      split at ha
      · next hg =>
        cases ha
        exact lv_lstore X.1 X.2.1 hd hl.1 (by have := hl.2.1; omega) rfl (fun a hA => kk H locs a hw (hl.s2 hg trivial hA) ho.t)
      · cases ha
    · cases ha
theorem so_lstore_n (X : qm_Cx p R s m args c cells slots d mi B0 sb sa sv L xs dC dI cs) (hw : qm_Wd s B0 L xs dC dI cs h H locs) (hl : qm_Lo mi B0 sb sa als ls) (ho : qm_So st) {k : Nat} (hk : k < 4) (hd : decode (mC mi) pc = .ok (.lstore_n (Fin.ofNat 4 k), 1)) (ha : qa_store [k] 1 ls st h = some (.inl (ls', st', h'))) (kk : ∀ (H1 : Heap) (locs1 : List Loc) (als1 : Array Slot), qm_Wd s B0 L xs dC dI cs h' H1 locs1 → qm_Lo mi B0 sb sa als1 ls' → qm_So st' → W p l e R s m args below meth c H1 locs1 cells slots Q (F0 m (pc + 1) als1 (st'.map (qm_cv B0 sb sa)))) : W p l e R s m args below meth c H locs cells slots Q (F0 m pc als (st.map (qm_cv B0 sb sa))) := by
  unfold qa_store at ha
  dsimp only at ha
  rcases st with _ | ⟨v, r⟩
  · cases ha
  · rcases v with v | v | ⟨q, i⟩
    · cases ha
    · have ha : (if k + 1 < ls.length then some (.inl (qm_s2 ls k (qL v), r, h)) else none : Option qm_Act) = some (.inl (ls', st', h')) := ha
      split at ha
      · next hg =>
        cases ha
        exact lv_lstore_n X.1 X.2.1 hd (by simp [Fin.ofNat, Nat.mod_eq_of_lt hk]) hl.1 (by have := hl.2.1; omega) rfl (fun a hA => kk H locs a hw (hl.s2 hg trivial hA) ho.t)
      · cases ha
    · cases ha
theorem so_astore (X : qm_Cx p R s m args c cells slots d mi B0 sb sa sv L xs dC dI cs) (hw : qm_Wd s B0 L xs dC dI cs h H locs) (hl : qm_Lo mi B0 sb sa als ls) (ho : qm_So st) {k : Nat} (hd : decode (mC mi) pc = .ok (.astore k, 2)) (ha : qa_store [k] 2 ls st h = some (.inl (ls', st', h'))) (kk : ∀ (H1 : Heap) (locs1 : List Loc) (als1 : Array Slot), qm_Wd s B0 L xs dC dI cs h' H1 locs1 → qm_Lo mi B0 sb sa als1 ls' → qm_So st' → W p l e R s m args below meth c H1 locs1 cells slots Q (F0 m (pc + 2) als1 (st'.map (qm_cv B0 sb sa)))) : W p l e R s m args below meth c H locs cells slots Q (F0 m pc als (st.map (qm_cv B0 sb sa))) := by
  unfold qa_store at ha
  dsimp only at ha
  rcases st with _ | ⟨v, r⟩
  · cases ha
  · rcases v with v | v | ⟨q, i⟩
    · cases ha
    · cases ha
    · have ha : (if q = 0 then none else if k < ls.length then some (.inl (qm_s1 ls k (qP q i), r, h)) else none : Option qm_Act) = some (.inl (ls', st', h')) := ha
      split at ha
      · cases ha
      · next hz =>
        split at ha
        · next hg =>
          cases ha
          have hok := ho.h
          have h0 : ∃ a : Nat, qm_cv B0 sb sa (qP q i) = .ref a := by
            simp only [qm_cv]
            rw [if_neg hz]
            split
            · exact ⟨_, rfl⟩
            · split <;> exact ⟨_, rfl⟩
          obtain ⟨a, ea⟩ := h0
          rw [List.map_cons, ea]
          exact lv_astore (i := k) X.1 X.2.1 hd hl.1 (by have := hl.2.1; omega) rfl (fun b hA => kk H locs b hw (hl.s1 hg hok (by rw [ea]; exact hA)) ho.t)
        · cases ha
theorem so_astore_n (X : qm_Cx p R s m args c cells slots d mi B0 sb sa sv L xs dC dI cs) (hw : qm_Wd s B0 L xs dC dI cs h H locs) (hl : qm_Lo mi B0 sb sa als ls) (ho : qm_So st) {k : Nat} (hk : k < 4) (hd : decode (mC mi) pc = .ok (.astore_n (Fin.ofNat 4 k), 1)) (ha : qa_store [k] 2 ls st h = some (.inl (ls', st', h'))) (kk : ∀ (H1 : Heap) (locs1 : List Loc) (als1 : Array Slot), qm_Wd s B0 L xs dC dI cs h' H1 locs1 → qm_Lo mi B0 sb sa als1 ls' → qm_So st' → W p l e R s m args below meth c H1 locs1 cells slots Q (F0 m (pc + 1) als1 (st'.map (qm_cv B0 sb sa)))) : W p l e R s m args below meth c H locs cells slots Q (F0 m pc als (st.map (qm_cv B0 sb sa))) := by
  unfold qa_store at ha
  dsimp only at ha
  rcases st with _ | ⟨v, r⟩
  · cases ha
  · rcases v with v | v | ⟨q, i⟩
    · cases ha
    · cases ha
    · have ha : (if q = 0 then none else if k < ls.length then some (.inl (qm_s1 ls k (qP q i), r, h)) else none : Option qm_Act) = some (.inl (ls', st', h')) := ha
      split at ha
      · cases ha
      · next hz =>
        split at ha
        · next hg =>
          cases ha
          have hok := ho.h
          have h0 : ∃ a : Nat, qm_cv B0 sb sa (qP q i) = .ref a := by
            simp only [qm_cv]
            rw [if_neg hz]
            split
            · exact ⟨_, rfl⟩
            · split <;> exact ⟨_, rfl⟩
          obtain ⟨a, ea⟩ := h0
          rw [List.map_cons, ea]
          exact lv_astore_n (i := k) X.1 X.2.1 hd (by simp [Fin.ofNat, Nat.mod_eq_of_lt hk]) hl.1 (by have := hl.2.1; omega) rfl (fun b hA => kk H locs b hw (hl.s1 hg hok (by rw [ea]; exact hA)) ho.t)
        · cases ha
theorem so_iinc (X : qm_Cx p R s m args c cells slots d mi B0 sb sa sv L xs dC dI cs) (hw : qm_Wd s B0 L xs dC dI cs h H locs) (hl : qm_Lo mi B0 sb sa als ls) (ho : qm_So st) {k : Nat} {v : Int} (hd : decode (mC mi) pc = .ok (.iinc k v, 3)) (ha : qa_iinc [k] v ls st h = some (.inl (ls', st', h'))) (kk : ∀ (H1 : Heap) (locs1 : List Loc) (als1 : Array Slot), qm_Wd s B0 L xs dC dI cs h' H1 locs1 → qm_Lo mi B0 sb sa als1 ls' → qm_So st' → W p l e R s m args below meth c H1 locs1 cells slots Q (F0 m (pc + 3) als1 (st'.map (qm_cv B0 sb sa)))) : W p l e R s m args below meth c H locs cells slots Q (F0 m pc als (st.map (qm_cv B0 sb sa))) := by
  unfold qa_iinc at ha
  dsimp only at ha
  generalize hg : qm_lg ls k = w at ha
  rcases w with w | w | ⟨q, i⟩
  · have ha : (if k < ls.length then some (.inl (qm_s1 ls k (qI (w + Int32.ofInt v)), st, h)) else none : Option qm_Act) = some (.inl (ls', st', h')) := ha
    split at ha
    · next hk =>
      cases ha
      have hm : (k, Value.int w) ∈ qm_lv B0 sb sa 0 ls := qm_lv_mem.mpr ⟨k, .inl w, qm_lg_at hg (fun z => by cases z), (fun i z => by cases z), (by rw [Nat.zero_add]; rfl)⟩
      obtain ⟨j, hj⟩ := List.getElem?_of_mem hm
      exact lv_iinc X.1 X.2.1 hd hl.1 hj rfl (by have := hl.2.1; omega) rfl (fun a hA => kk H locs a hw (hl.s1 hk trivial hA) ho)
    · cases ha
  · cases ha
  · cases ha
end QST
end
section
theorem ik_0 : qm_Tb (Cond.methodLink (qm_cls 7) 63 Lib.Math.max.name) := ⟨qm_in1 131 rfl, rfl⟩
theorem ik_1 : qm_Tb (Cond.methodLink (qm_cls 7) 57 Lib.Math.min.name) := ⟨qm_in1 128 rfl, rfl⟩
theorem ik_2 : qm_Tb (Cond.methodLink (qm_cls 7) 350 arraycopyName) := ⟨qm_in4 160 rfl, rfl⟩
theorem ik_3 : qm_Tb (Cond.methodLink (qm_cls 0) 79 Lib.Math.max.name) := ⟨qm_in3 202 rfl, rfl⟩
theorem ik_4 : qm_Tb (Cond.methodLink (qm_cls 0) 106 Lib.Math.abs.name) := ⟨qm_in4 33 rfl, rfl⟩
theorem ik_5 : qm_Tb (Cond.methodLink (qm_cls 0) 174 Lib.MathLoose.min_long.x) := ⟨qm_in3 190 rfl, rfl⟩
theorem ik_6 : qm_Tb (Cond.methodLink (qm_cls 0) 178 Lib.MathLoose.max_long.x) := ⟨qm_in3 193 rfl, rfl⟩
theorem ik_7 : qm_Tb (Cond.methodLink (qm_cls 0) 180 Lib.Math.min.name) := ⟨qm_in3 201 rfl, rfl⟩
theorem ik_8 : qm_Tb (Cond.methodLink (qm_cls 1) 52 arraycopyName) := ⟨qm_in4 74 rfl, rfl⟩
theorem ik_9 : qm_Tb (Cond.methodLink (qm_cls 1) 78 Lib.Math.max.name) := ⟨qm_in3 232 rfl, rfl⟩
theorem ik_10 : qm_Tb (Cond.methodLink (qm_cls 3) 70 arraycopyName) := ⟨qm_in4 85 rfl, rfl⟩
theorem ik_13 : qm_Tb (Cond.methodLink (qm_cls 5) 61 Lib.Math.min.name) := ⟨qm_in3 21 rfl, rfl⟩
theorem ik_14 : qm_Tb (Cond.methodLink (qm_cls 6) 63 arraycopyName) := ⟨qm_in4 186 rfl, rfl⟩
theorem is_81 : qm_Tb (Cond.static Lib.Math.max.name) := ⟨qm_in1 132 rfl, rfl⟩
theorem icw_81 : qm_Tb (Cond.code Lib.Math.max.name Lib.Math.max.code 2 (some .int)) := ⟨qm_in1 133 rfl, rfl⟩
theorem is_82 : qm_Tb (Cond.static Lib.Math.min.name) := ⟨qm_in1 129 rfl, rfl⟩
theorem icw_82 : qm_Tb (Cond.code Lib.Math.min.name Lib.Math.min.code 2 (some .int)) := ⟨qm_in1 130 rfl, rfl⟩
theorem is_83 : qm_Tb (Cond.static Lib.Math.abs.name) := ⟨qm_in4 34 rfl, rfl⟩
theorem icw_83 : qm_Tb (Cond.code Lib.Math.abs.name Lib.Math.abs.code 1 (some .int)) := ⟨qm_in4 35 rfl, rfl⟩
theorem is_84 : qm_Tb (Cond.static Lib.MathLoose.max_long.x) := ⟨qm_in3 194 rfl, rfl⟩
theorem icw_84 : qm_Tb (Cond.code Lib.MathLoose.max_long.x Lib.MathLoose.max_long.code 4 (some .long)) := ⟨qm_in3 195 rfl, rfl⟩
theorem is_85 : qm_Tb (Cond.static Lib.MathLoose.min_long.x) := ⟨qm_in3 191 rfl, rfl⟩
theorem icw_85 : qm_Tb (Cond.code Lib.MathLoose.min_long.x Lib.MathLoose.min_long.code 4 (some .long)) := ⟨qm_in3 192 rfl, rfl⟩
theorem is_86 : qm_Tb (Cond.static arraycopyName) := ⟨qm_in4 75 rfl, rfl⟩
theorem in_86 : qm_Tb (Cond.native arraycopyName) := ⟨qm_in4 76 rfl, rfl⟩
theorem ii_M : qm_Tb (Cond.initialized "java/lang/Math") := ⟨qm_in1 6 rfl, rfl⟩
theorem ii_S : qm_Tb (Cond.initialized "java/lang/System") := ⟨qm_in1 15 rfl, rfl⟩
theorem il_ok_81 : ∀ e ∈ qm_ilk, e.2.2 = 81 → qm_Tb (Cond.methodLink (qm_cls e.1) e.2.1 Lib.Math.max.name) := by
  unfold qm_ilk
  refine List.forall_mem_cons.mpr ⟨fun z => ik_0, ?_⟩
  refine List.forall_mem_cons.mpr ⟨fun z => absurd z (by decide), ?_⟩
  refine List.forall_mem_cons.mpr ⟨fun z => absurd z (by decide), ?_⟩
  refine List.forall_mem_cons.mpr ⟨fun z => ik_3, ?_⟩
  refine List.forall_mem_cons.mpr ⟨fun z => absurd z (by decide), ?_⟩
  refine List.forall_mem_cons.mpr ⟨fun z => absurd z (by decide), ?_⟩
  refine List.forall_mem_cons.mpr ⟨fun z => absurd z (by decide), ?_⟩
  refine List.forall_mem_cons.mpr ⟨fun z => absurd z (by decide), ?_⟩
  refine List.forall_mem_cons.mpr ⟨fun z => absurd z (by decide), ?_⟩
  refine List.forall_mem_cons.mpr ⟨fun z => ik_9, ?_⟩
  refine List.forall_mem_cons.mpr ⟨fun z => absurd z (by decide), ?_⟩
  refine List.forall_mem_cons.mpr ⟨fun z => absurd z (by decide), ?_⟩
  refine List.forall_mem_cons.mpr ⟨fun z => absurd z (by decide), ?_⟩
  refine List.forall_mem_cons.mpr ⟨fun z => absurd z (by decide), ?_⟩
  refine List.forall_mem_cons.mpr ⟨fun z => absurd z (by decide), ?_⟩
  exact fun _ h => absurd h List.not_mem_nil
theorem il_ok_82 : ∀ e ∈ qm_ilk, e.2.2 = 82 → qm_Tb (Cond.methodLink (qm_cls e.1) e.2.1 Lib.Math.min.name) := by
  unfold qm_ilk
  refine List.forall_mem_cons.mpr ⟨fun z => absurd z (by decide), ?_⟩
  refine List.forall_mem_cons.mpr ⟨fun z => ik_1, ?_⟩
  refine List.forall_mem_cons.mpr ⟨fun z => absurd z (by decide), ?_⟩
  refine List.forall_mem_cons.mpr ⟨fun z => absurd z (by decide), ?_⟩
  refine List.forall_mem_cons.mpr ⟨fun z => absurd z (by decide), ?_⟩
  refine List.forall_mem_cons.mpr ⟨fun z => absurd z (by decide), ?_⟩
  refine List.forall_mem_cons.mpr ⟨fun z => absurd z (by decide), ?_⟩
  refine List.forall_mem_cons.mpr ⟨fun z => ik_7, ?_⟩
  refine List.forall_mem_cons.mpr ⟨fun z => absurd z (by decide), ?_⟩
  refine List.forall_mem_cons.mpr ⟨fun z => absurd z (by decide), ?_⟩
  refine List.forall_mem_cons.mpr ⟨fun z => absurd z (by decide), ?_⟩
  refine List.forall_mem_cons.mpr ⟨fun z => absurd z (by decide), ?_⟩
  refine List.forall_mem_cons.mpr ⟨fun z => absurd z (by decide), ?_⟩
  refine List.forall_mem_cons.mpr ⟨fun z => ik_13, ?_⟩
  refine List.forall_mem_cons.mpr ⟨fun z => absurd z (by decide), ?_⟩
  exact fun _ h => absurd h List.not_mem_nil
theorem il_ok_83 : ∀ e ∈ qm_ilk, e.2.2 = 83 → qm_Tb (Cond.methodLink (qm_cls e.1) e.2.1 Lib.Math.abs.name) := by
  unfold qm_ilk
  refine List.forall_mem_cons.mpr ⟨fun z => absurd z (by decide), ?_⟩
  refine List.forall_mem_cons.mpr ⟨fun z => absurd z (by decide), ?_⟩
  refine List.forall_mem_cons.mpr ⟨fun z => absurd z (by decide), ?_⟩
  refine List.forall_mem_cons.mpr ⟨fun z => absurd z (by decide), ?_⟩
  refine List.forall_mem_cons.mpr ⟨fun z => ik_4, ?_⟩
  refine List.forall_mem_cons.mpr ⟨fun z => absurd z (by decide), ?_⟩
  refine List.forall_mem_cons.mpr ⟨fun z => absurd z (by decide), ?_⟩
  refine List.forall_mem_cons.mpr ⟨fun z => absurd z (by decide), ?_⟩
  refine List.forall_mem_cons.mpr ⟨fun z => absurd z (by decide), ?_⟩
  refine List.forall_mem_cons.mpr ⟨fun z => absurd z (by decide), ?_⟩
  refine List.forall_mem_cons.mpr ⟨fun z => absurd z (by decide), ?_⟩
  refine List.forall_mem_cons.mpr ⟨fun z => absurd z (by decide), ?_⟩
  refine List.forall_mem_cons.mpr ⟨fun z => absurd z (by decide), ?_⟩
  refine List.forall_mem_cons.mpr ⟨fun z => absurd z (by decide), ?_⟩
  refine List.forall_mem_cons.mpr ⟨fun z => absurd z (by decide), ?_⟩
  exact fun _ h => absurd h List.not_mem_nil
theorem il_ok_84 : ∀ e ∈ qm_ilk, e.2.2 = 84 → qm_Tb (Cond.methodLink (qm_cls e.1) e.2.1 Lib.MathLoose.max_long.x) := by
  unfold qm_ilk
  refine List.forall_mem_cons.mpr ⟨fun z => absurd z (by decide), ?_⟩
  refine List.forall_mem_cons.mpr ⟨fun z => absurd z (by decide), ?_⟩
  refine List.forall_mem_cons.mpr ⟨fun z => absurd z (by decide), ?_⟩
  refine List.forall_mem_cons.mpr ⟨fun z => absurd z (by decide), ?_⟩
  refine List.forall_mem_cons.mpr ⟨fun z => absurd z (by decide), ?_⟩
  refine List.forall_mem_cons.mpr ⟨fun z => absurd z (by decide), ?_⟩
  refine List.forall_mem_cons.mpr ⟨fun z => ik_6, ?_⟩
  refine List.forall_mem_cons.mpr ⟨fun z => absurd z (by decide), ?_⟩
  refine List.forall_mem_cons.mpr ⟨fun z => absurd z (by decide), ?_⟩
  refine List.forall_mem_cons.mpr ⟨fun z => absurd z (by decide), ?_⟩
  refine List.forall_mem_cons.mpr ⟨fun z => absurd z (by decide), ?_⟩
  refine List.forall_mem_cons.mpr ⟨fun z => absurd z (by decide), ?_⟩
  refine List.forall_mem_cons.mpr ⟨fun z => absurd z (by decide), ?_⟩
  refine List.forall_mem_cons.mpr ⟨fun z => absurd z (by decide), ?_⟩
  refine List.forall_mem_cons.mpr ⟨fun z => absurd z (by decide), ?_⟩
  exact fun _ h => absurd h List.not_mem_nil
theorem il_ok_85 : ∀ e ∈ qm_ilk, e.2.2 = 85 → qm_Tb (Cond.methodLink (qm_cls e.1) e.2.1 Lib.MathLoose.min_long.x) := by
  unfold qm_ilk
  refine List.forall_mem_cons.mpr ⟨fun z => absurd z (by decide), ?_⟩
  refine List.forall_mem_cons.mpr ⟨fun z => absurd z (by decide), ?_⟩
  refine List.forall_mem_cons.mpr ⟨fun z => absurd z (by decide), ?_⟩
  refine List.forall_mem_cons.mpr ⟨fun z => absurd z (by decide), ?_⟩
  refine List.forall_mem_cons.mpr ⟨fun z => absurd z (by decide), ?_⟩
  refine List.forall_mem_cons.mpr ⟨fun z => ik_5, ?_⟩
  refine List.forall_mem_cons.mpr ⟨fun z => absurd z (by decide), ?_⟩
  refine List.forall_mem_cons.mpr ⟨fun z => absurd z (by decide), ?_⟩
  refine List.forall_mem_cons.mpr ⟨fun z => absurd z (by decide), ?_⟩
  refine List.forall_mem_cons.mpr ⟨fun z => absurd z (by decide), ?_⟩
  refine List.forall_mem_cons.mpr ⟨fun z => absurd z (by decide), ?_⟩
  refine List.forall_mem_cons.mpr ⟨fun z => absurd z (by decide), ?_⟩
  refine List.forall_mem_cons.mpr ⟨fun z => absurd z (by decide), ?_⟩
  refine List.forall_mem_cons.mpr ⟨fun z => absurd z (by decide), ?_⟩
  refine List.forall_mem_cons.mpr ⟨fun z => absurd z (by decide), ?_⟩
  exact fun _ h => absurd h List.not_mem_nil
theorem il_ok_86 : ∀ e ∈ qm_ilk, e.2.2 = 86 → qm_Tb (Cond.methodLink (qm_cls e.1) e.2.1 arraycopyName) := by
  unfold qm_ilk
  refine List.forall_mem_cons.mpr ⟨fun z => absurd z (by decide), ?_⟩
  refine List.forall_mem_cons.mpr ⟨fun z => absurd z (by decide), ?_⟩
  refine List.forall_mem_cons.mpr ⟨fun z => ik_2, ?_⟩
  refine List.forall_mem_cons.mpr ⟨fun z => absurd z (by decide), ?_⟩
  refine List.forall_mem_cons.mpr ⟨fun z => absurd z (by decide), ?_⟩
  refine List.forall_mem_cons.mpr ⟨fun z => absurd z (by decide), ?_⟩
  refine List.forall_mem_cons.mpr ⟨fun z => absurd z (by decide), ?_⟩
  refine List.forall_mem_cons.mpr ⟨fun z => absurd z (by decide), ?_⟩
  refine List.forall_mem_cons.mpr ⟨fun z => ik_8, ?_⟩
  refine List.forall_mem_cons.mpr ⟨fun z => absurd z (by decide), ?_⟩
  refine List.forall_mem_cons.mpr ⟨fun z => ik_10, ?_⟩
  refine List.forall_mem_cons.mpr ⟨fun z => absurd z (by decide), ?_⟩
  refine List.forall_mem_cons.mpr ⟨fun z => absurd z (by decide), ?_⟩
  refine List.forall_mem_cons.mpr ⟨fun z => absurd z (by decide), ?_⟩
  refine List.forall_mem_cons.mpr ⟨fun z => ik_14, ?_⟩
  exact fun _ h => absurd h List.not_mem_nil
theorem kc_0 : qm_Tb (Cond.constant (qm_cls 7) 267 (Int32.ofInt (-100000))) := ⟨qm_in4 16 rfl, rfl⟩
theorem kc_1 : qm_Tb (Cond.constant (qm_cls 7) 340 (Int32.ofInt (999999))) := ⟨qm_in4 147 rfl, rfl⟩
theorem kc_2 : qm_Tb (Cond.constant (qm_cls 8) 132 (Int32.ofInt (100000))) := ⟨qm_in5 169 rfl, rfl⟩
theorem kc_3 : qm_Tb (Cond.constant (qm_cls 8) 346 (Int32.ofInt (-100000))) := ⟨qm_in6 146 rfl, rfl⟩
theorem kc_4 : qm_Tb (Cond.constant (qm_cls 8) 400 (Int32.ofInt (999999))) := ⟨qm_in6 238 rfl, rfl⟩
theorem qm_clk_ok : ∀ e ∈ qm_clk, qm_Tb (Cond.constant (qm_cls e.1) e.2.1 (Int32.ofInt e.2.2)) := (List.forall_mem_cons.mpr ⟨kc_0, (List.forall_mem_cons.mpr ⟨kc_1, (List.forall_mem_cons.mpr ⟨kc_2, (List.forall_mem_cons.mpr ⟨kc_3, (List.forall_mem_cons.mpr ⟨kc_4, (fun _ h => absurd h List.not_mem_nil)⟩)⟩)⟩)⟩)⟩)
theorem kl_0 : qm_Tb (Cond.constantLong (qm_cls 8) 210 (Int64.ofInt (28530))) := ⟨qm_in5 237 rfl, rfl⟩
theorem kl_1 : qm_Tb (Cond.constantLong (qm_cls 8) 247 (Int64.ofInt (28526))) := ⟨qm_in5 209 rfl, rfl⟩
theorem kl_2 : qm_Tb (Cond.constantLong (qm_cls 8) 271 (Int64.ofInt (1000000))) := ⟨qm_in6 92 rfl, rfl⟩
theorem kl_3 : qm_Tb (Cond.constantLong (qm_cls 8) 273 (Int64.ofInt (-1000000))) := ⟨qm_in6 93 rfl, rfl⟩
theorem kl_4 : qm_Tb (Cond.constantLong (qm_cls 8) 321 (Int64.ofInt (1000))) := ⟨qm_in6 136 rfl, rfl⟩
theorem kl_5 : qm_Tb (Cond.constantLong (qm_cls 8) 323 (Int64.ofInt (785))) := ⟨qm_in6 137 rfl, rfl⟩
theorem kl_6 : qm_Tb (Cond.constantLong (qm_cls 0) 84 (Int64.ofInt (1000))) := ⟨qm_in4 6 rfl, rfl⟩
theorem kl_7 : qm_Tb (Cond.constantLong (qm_cls 0) 86 (Int64.ofInt (785))) := ⟨qm_in4 7 rfl, rfl⟩
theorem kl_8 : qm_Tb (Cond.constantLong (qm_cls 0) 170 (Int64.ofInt (-1000000))) := ⟨qm_in3 196 rfl, rfl⟩
theorem kl_9 : qm_Tb (Cond.constantLong (qm_cls 0) 172 (Int64.ofInt (1000000))) := ⟨qm_in3 197 rfl, rfl⟩
theorem qm_llk_ok : ∀ e ∈ qm_llk, qm_Tb (Cond.constantLong (qm_cls e.1) e.2.1 (Int64.ofInt e.2.2)) := (List.forall_mem_cons.mpr ⟨kl_0, (List.forall_mem_cons.mpr ⟨kl_1, (List.forall_mem_cons.mpr ⟨kl_2, (List.forall_mem_cons.mpr ⟨kl_3, (List.forall_mem_cons.mpr ⟨kl_4, (List.forall_mem_cons.mpr ⟨kl_5, (List.forall_mem_cons.mpr ⟨kl_6, (List.forall_mem_cons.mpr ⟨kl_7, (List.forall_mem_cons.mpr ⟨kl_8, (List.forall_mem_cons.mpr ⟨kl_9, (fun _ h => absurd h List.not_mem_nil)⟩)⟩)⟩)⟩)⟩)⟩)⟩)⟩)⟩)⟩)
theorem qm_wid_cat {B0 sb sa : Nat} : ∀ (r : List qm_AV), ((r.map (qm_cv B0 sb sa)).map fun v => v.category).sum = qm_wid r
  | [] => rfl
  | v :: r => by
    have ih := qm_wid_cat (B0 := B0) (sb := sb) (sa := sa) r
    simp only [List.map_cons, List.sum_cons, ih, qm_cv_cat, qm_wid]
theorem qm_flk_sane {e : Nat × Nat × Nat × Nat} (h : e ∈ qm_flk) : (1 ≤ e.2.2.1 ∧ e.2.2.1 ≤ 9) ∧ e.2.2.2 < qm_nf e.2.2.1 ∧ (qm_T e.2.2.1 e.2.2.2).1 = qm_R e.2.2.1 := by
  have h1 := List.all_eq_true.mp qm_flk_ty e h
  simp only [Bool.and_eq_true, decide_eq_true_eq] at h1
  exact ⟨h1.1.1, h1.1.2, h1.2⟩
theorem qm_nf_le {k : Nat} : qm_nf k ≤ 37 := by
  unfold qm_nf
  split <;> omega
theorem qm_fields_set {B0 : Nat} {h h' : qm_Hp} {k i f : Nat} {v : Value} (hf : f < qm_nf k) (hv : qm_fv B0 h' k i f = v) (ho : ∀ g, g ≠ f → qm_fv B0 h' k i g = qm_fv B0 h k i g) : ((List.range (qm_nf k)).map (qm_fv B0 h k i)).set f v = (List.range (qm_nf k)).map (qm_fv B0 h' k i) := by
  refine List.ext_getElem? fun q => ?_
  rw [List.getElem?_set]
  by_cases hq : f = q
  · subst hq
    rw [if_pos rfl, if_pos (by simpa using hf)]
    simp [hf, hv]
  · rw [if_neg hq]
    by_cases hl : q < qm_nf k
    · simp [hl, ho q (fun z => hq z.symm)]
    · simp [hl]
theorem qm_cnt_real {k i : Nat} (h : i < qm_cnt k) : k ≠ 82 ∧ k ≠ 0 := by
  have h1 := (qm_cnt_lt h).1
  refine ⟨by omega, fun z => ?_⟩
  subst z
  exact absurd h (Nat.not_lt_zero _)
theorem qm_ilen_pos {k : Nat} (h : 0 < qm_ilen qm_z k) : k ≠ 0 ∧ k ≠ 81 ∧ k ≠ 80 := by
  refine ⟨fun z => ?_, fun z => ?_, fun z => ?_⟩ <;> (subst z; exact absurd h (by decide))
theorem qm_fk_arr {k j : Nat} (h : 10 ≤ k) : qm_fk k j ≠ 3 := by
  have hz : (([] : List Nat) :: qm_fks).getD k [] = [] := qk_getD _ _ (Nat.le_trans (show (([] : List Nat) :: qm_fks).length ≤ 10 by decide) h)
  unfold qm_fk
  rw [hz]
  exact (by decide : (9 : Nat) ≠ 3)
theorem qm_arr_ge {k : Nat} (h : 0 < qm_ilen qm_z k) : 10 ≤ k := by
  rcases Nat.lt_or_ge k 10 with h1 | h1
  · exfalso
    have h2 : ∀ j, j < 10 → qm_ilen qm_z j = 0 := by decide
    rw [h2 k h1] at h
    exact absurd h (Nat.lt_irrefl _)
  · exact h1
theorem qm_rlen_0 {k : Nat} (h : 0 < qm_ilen qm_z k) : qm_rlen k = 0 := by
  unfold qm_rlen
  split
  · exact absurd h (by decide)
  · exact absurd h (by decide)
  · rfl
theorem qm_rlen_o {k : Nat} (h : k ≤ 9) : qm_rlen k = 0 := by
  have h2 : ∀ j, j < 10 → qm_rlen j = 0 := by decide
  exact h2 k (by omega)
theorem qm_okV_lt {k i : Nat} (h : qm_okV (qP k i)) (h0 : k ≠ 0) : i < qm_cnt k := h.resolve_left h0
section QSH
variable {p : Program} {l : Launch} {e : Env} {R : Room} {s : State} {m : MethodId} {args : Array Value} {below : List Frame} {meth : Method} {c : Code} {cells slots : Nat} {Q : State → Prop} {H : Heap} {locs : List Loc}
variable {d B0 sb sa sv L mi : Nat} {xs : Nat → Int32} {dC : Nat → ClassId} {dI : Nat → Nat → Nat} {cs : Nat × Nat × Nat × Nat × Nat} {pc n : Nat} {als : Array Slot} {ls st ls' st' : List qm_AV} {h h' : qm_Hp} {x : Instr}
theorem qm_Wd.wI (hw : qm_Wd s B0 L xs dC dI cs h H locs) {k i j : Nat} {v : Int32} {e1 : va_E} {H1 : Heap} {locs1 : List Loc} (hi : i < qm_cnt k) (h80 : k ≠ 80) (h81 : k ≠ 81) (hf3 : qm_fk k j ≠ 3 ∧ qm_rlen k = 0) (he : qm_cell B0 cs (uI h k i j v) k i = e1)
    (p1 : va_P (dC, dI) qm_clss ((qm_W B0 cs h).set (qm_ad k i) (B0 + qm_ad k i, e1)) H1) (p2 : va_D (fun q => B0 ≤ q) ((qm_W B0 cs h).set (qm_ad k i) (B0 + qm_ad k i, e1))) (p3 : va_S (fun q => B0 ≤ q) s.heap H1 locs1) : qm_Wd s B0 L xs dC dI cs (uI h k i j v) H1 locs1 := by
  rw [qm_W_set hi h80 h81 he (fun a b hn => qm_cell_uI hn)] at p1 p2
  refine ⟨p1, p2, p3, ⟨hw.2.2.2.1.1, hw.2.2.2.1.2.1, fun a b f h3 hb => ?_⟩, fun a ha => ?_, ?_⟩
  · rw [zI_uI, if_neg (fun z => by
      rw [z.1, z.2.2] at h3
      rcases h3 with h3 | h3
      · exact hf3.1 h3
      · rw [hf3.2] at h3; exact absurd h3 (Nat.not_lt_zero _))]
    exact hw.2.2.2.1.2.2 a b f h3 hb
  · rw [zI_uI, if_neg (fun z => h80 z.1.symm)]
    exact hw.2.2.2.2.1 a ha
  · rw [zI_uI, if_neg (fun z => (qm_cnt_real hi).1 z.1.symm)]
    exact hw.2.2.2.2.2
theorem qm_Wd.wL (hw : qm_Wd s B0 L xs dC dI cs h H locs) {k i j : Nat} {v : Int64} {e1 : va_E} {H1 : Heap} {locs1 : List Loc} (hi : i < qm_cnt k) (h80 : k ≠ 80) (h81 : k ≠ 81) (he : qm_cell B0 cs (uL h k i j v) k i = e1)
    (p1 : va_P (dC, dI) qm_clss ((qm_W B0 cs h).set (qm_ad k i) (B0 + qm_ad k i, e1)) H1) (p2 : va_D (fun q => B0 ≤ q) ((qm_W B0 cs h).set (qm_ad k i) (B0 + qm_ad k i, e1))) (p3 : va_S (fun q => B0 ≤ q) s.heap H1 locs1) : qm_Wd s B0 L xs dC dI cs (uL h k i j v) H1 locs1 := by
  rw [qm_W_set hi h80 h81 he (fun a b hn => qm_cell_uL hn)] at p1 p2
  exact ⟨p1, p2, p3, hw.2.2.2.1, hw.2.2.2.2.1, hw.2.2.2.2.2⟩
theorem qm_Wd.wP (hw : qm_Wd s B0 L xs dC dI cs h H locs) {k i j : Nat} {v : Nat × Nat} {e1 : va_E} {H1 : Heap} {locs1 : List Loc} (hi : i < qm_cnt k) (h80 : k ≠ 80) (h81 : k ≠ 81) (hv : qm_okP v) (he : qm_cell B0 cs (uP h k i j v) k i = e1)
    (p1 : va_P (dC, dI) qm_clss ((qm_W B0 cs h).set (qm_ad k i) (B0 + qm_ad k i, e1)) H1) (p2 : va_D (fun q => B0 ≤ q) ((qm_W B0 cs h).set (qm_ad k i) (B0 + qm_ad k i, e1))) (p3 : va_S (fun q => B0 ≤ q) s.heap H1 locs1) : qm_Wd s B0 L xs dC dI cs (uP h k i j v) H1 locs1 := by
  rw [qm_W_set hi h80 h81 he (fun a b hn => qm_cell_uP hn)] at p1 p2
  refine ⟨p1, p2, p3, ⟨?_, ?_, hw.2.2.2.1.2.2⟩, hw.2.2.2.2.1, hw.2.2.2.2.2⟩
  · rw [zP_uP]; split
    · exact hv
    · exact hw.2.2.2.1.1
  · rw [zP_uP]; split
    · exact hv
    · exact hw.2.2.2.1.2.1
theorem qm_Wd.wC (hw : qm_Wd s B0 L xs dC dI cs h H locs) {a b sp k i dp z : Nat} {e1 : va_E} {H1 : Heap} {locs1 : List Loc} (hi : i < qm_cnt k) (h80 : k ≠ 80) (h81 : k ≠ 81) (hk10 : 10 ≤ k ∧ qm_rlen k = 0) (he : qm_cell B0 cs (uC h a b sp k i dp z) k i = e1)
    (p1 : va_P (dC, dI) qm_clss ((qm_W B0 cs h).set (qm_ad k i) (B0 + qm_ad k i, e1)) H1) (p2 : va_D (fun q => B0 ≤ q) ((qm_W B0 cs h).set (qm_ad k i) (B0 + qm_ad k i, e1))) (p3 : va_S (fun q => B0 ≤ q) s.heap H1 locs1) : qm_Wd s B0 L xs dC dI cs (uC h a b sp k i dp z) H1 locs1 := by
  rw [qm_W_set hi h80 h81 he (fun a b hn => qm_cell_uC hn)] at p1 p2
  refine ⟨p1, p2, p3, ⟨hw.2.2.2.1.1, hw.2.2.2.1.2.1, fun a b f h3 hb => ?_⟩, fun a ha => ?_, ?_⟩
  · rw [zI_uC, if_neg (fun z => by
      rw [z.1] at h3
      rcases h3 with h3 | h3
      · exact qm_fk_arr hk10.1 h3
      · rw [hk10.2] at h3; exact absurd h3 (Nat.not_lt_zero _))]
    exact hw.2.2.2.1.2.2 a b f h3 hb
  · rw [zI_uC, if_neg (fun z => h80 z.1.symm)]
    exact hw.2.2.2.2.1 a ha
  · rw [zI_uC, if_neg (fun z => (qm_cnt_real hi).1 z.1.symm)]
    exact hw.2.2.2.2.2
theorem qm_getrow (X : qm_Cx p R s m args c cells slots d mi B0 sb sa sv L xs dC dI cs) (hw : qm_Wd s B0 L xs dC dI cs h H locs) {k i f idx : Nat} (hm : (mN mi, idx, k, f) ∈ qm_flk) (hi : i < qm_cnt k) (hd : decode (mC mi) pc = .ok (.getfield idx, 3)) {rest : List Value} (kk : W p l e R s m args below meth c H locs cells slots Q (F0 m (pc + 3) als (qm_fv B0 h k i f :: rest))) : W p l e R s m args below meth c H locs cells slots Q (F0 m pc als (.ref (B0 + qm_ad k i) :: rest)) := by
  obtain ⟨h19, hf, hT⟩ := qm_flk_sane hm
  have h19 : 1 ≤ k ∧ k ≤ 9 := h19
  have h80 : k ≠ 80 := by omega
  have h81 : k ≠ 81 := by omega
  have he := qm_W_at (B0 := B0) (cs := cs) (h := h) hi h80 h81
  rw [qm_cell_o h19] at he
  exact va_get X.1 X.2.1 X.2.2.2.2.1 (qm_lay_in h19) X.2.2.2.1 X.2.2.2.2.2.1.1 hw.1 (qm_ad k i) he (qm_clss_at h19) f hf (X.2.2.2.2.1 _ (qm_flk_ok _ hm).tb) (fun x hx => by
    have hT : (qm_T k f).1 = qm_R k := hT
    rw [hT] at hx; exact hx) (by simp [hf]) hd kk
theorem qm_putrow (X : qm_Cx p R s m args c cells slots d mi B0 sb sa sv L xs dC dI cs) (hw : qm_Wd s B0 L xs dC dI cs h H locs) {k i f idx : Nat} {v : Value} {ty : FieldType} (hm : (mN mi, idx, k, f) ∈ qm_flk) (hi : i < qm_cnt k) (hfin : (qm_T k f).2.2.2 = false) (hty : qm_Ty k f = ty) (hn : narrow ty v = v) (hfit : fits ty v = true) (hd : decode (mC mi) pc = .ok (.putfield idx, 3)) {rest : List Value}
    (kk : ∀ (H1 : Heap) (locs1 : List Loc), va_P (dC, dI) qm_clss ((qm_W B0 cs h).set (qm_ad k i) (B0 + qm_ad k i, .inr (qm_ci k, ((List.range (qm_nf k)).map (qm_fv B0 h k i)).set f v))) H1 → va_D (fun q => B0 ≤ q) ((qm_W B0 cs h).set (qm_ad k i) (B0 + qm_ad k i, .inr (qm_ci k, ((List.range (qm_nf k)).map (qm_fv B0 h k i)).set f v))) → va_S (fun q => B0 ≤ q) s.heap H1 locs1 → W p l e R s m args below meth c H1 locs1 cells slots Q (F0 m (pc + 3) als rest)) : W p l e R s m args below meth c H locs cells slots Q (F0 m pc als (v :: .ref (B0 + qm_ad k i) :: rest)) := by
  obtain ⟨h19, hf, hT⟩ := qm_flk_sane hm
  have h19 : 1 ≤ k ∧ k ≤ 9 := h19
  have h80 : k ≠ 80 := by omega
  have h81 : k ≠ 81 := by omega
  have he := qm_W_at (B0 := B0) (cs := cs) (h := h) hi h80 h81
  rw [qm_cell_o h19] at he
  exact va_put X.1 X.2.1 X.2.2.2.2.1 (qm_lay_in h19) (qm_Ty k) (qm_Ty_ok h19) (qm_nm_ok h19) X.2.2.2.1 X.2.2.2.2.2.1.1 hw.1 hw.2.1 hw.2.2.1 (qm_ad k i) he (qm_clss_at h19) f hf (X.2.2.2.2.1 _ (qm_flk_ok _ hm).tb) (fun x hx => by
    have hT : (qm_T k f).1 = qm_R k := hT
    rw [hT] at hx; exact hx) hfin (ty := ty) (v := v) (by rw [← hty]; exact qm_Ty_ok h19 f hf) hn hfit (by simpa using hf) hd kk
theorem so_getI (X : qm_Cx p R s m args c cells slots d mi B0 sb sa sv L xs dC dI cs) (hw : qm_Wd s B0 L xs dC dI cs h H locs) (hl : qm_Lo mi B0 sb sa als ls) (ho : qm_So st) {k f idx : Nat} (hk : qm_fk k f = 0 ∨ qm_fk k f = 1) (hm : (mN mi, idx, k, f) ∈ qm_flk) (hd : decode (mC mi) pc = .ok (.getfield idx, 3)) (ha : qa_getI [k, f] ls st h = some (.inl (ls', st', h'))) (kk : ∀ (H1 : Heap) (locs1 : List Loc) (als1 : Array Slot), qm_Wd s B0 L xs dC dI cs h' H1 locs1 → qm_Lo mi B0 sb sa als1 ls' → qm_So st' → W p l e R s m args below meth c H1 locs1 cells slots Q (F0 m (pc + 3) als1 (st'.map (qm_cv B0 sb sa)))) : W p l e R s m args below meth c H locs cells slots Q (F0 m pc als (st.map (qm_cv B0 sb sa))) := by
  unfold qa_getI at ha
  rcases st with _ | ⟨v, r⟩
  · cases ha
  · rcases v with v | v | ⟨q, i⟩
    · cases ha
    · cases ha
    · replace ha : (if q = k then some (.inl (ls, qI (zI h q i f) :: r, h)) else none : Option qm_Act) = some (.inl (ls', st', h')) := ha
      split at ha
      · next hq =>
        subst hq
        cases ha
        have h19 : 1 ≤ q ∧ q ≤ 9 := (qm_flk_sane hm).1
        have h0 : q ≠ 0 := by omega
        have h80 : q ≠ 80 := by omega
        have h81 : q ≠ 81 := by omega
        have hi := qm_okV_lt ho.h h0
        rw [List.map_cons, qm_cv_P h0 h80 h81]
        refine qm_getrow X hw hm hi hd ?_
        have hv : qm_fv B0 h q i f = qm_cv B0 sb sa (qI (zI h q i f)) := by rcases hk with e | e <;> simp [qm_fv, e, qm_cv]
        rw [hv]
        exact kk H locs als hw hl (ho.t.cons trivial)
      · cases ha
theorem so_getL (X : qm_Cx p R s m args c cells slots d mi B0 sb sa sv L xs dC dI cs) (hw : qm_Wd s B0 L xs dC dI cs h H locs) (hl : qm_Lo mi B0 sb sa als ls) (ho : qm_So st) {k f idx : Nat} (hk : qm_fk k f = 2) (hm : (mN mi, idx, k, f) ∈ qm_flk) (hd : decode (mC mi) pc = .ok (.getfield idx, 3)) (ha : qa_getL [k, f] ls st h = some (.inl (ls', st', h'))) (kk : ∀ (H1 : Heap) (locs1 : List Loc) (als1 : Array Slot), qm_Wd s B0 L xs dC dI cs h' H1 locs1 → qm_Lo mi B0 sb sa als1 ls' → qm_So st' → W p l e R s m args below meth c H1 locs1 cells slots Q (F0 m (pc + 3) als1 (st'.map (qm_cv B0 sb sa)))) : W p l e R s m args below meth c H locs cells slots Q (F0 m pc als (st.map (qm_cv B0 sb sa))) := by
  unfold qa_getL at ha
  rcases st with _ | ⟨v, r⟩
  · cases ha
  · rcases v with v | v | ⟨q, i⟩
    · cases ha
    · cases ha
    · replace ha : (if q = k then some (.inl (ls, qL (zL h q i f) :: r, h)) else none : Option qm_Act) = some (.inl (ls', st', h')) := ha
      split at ha
      · next hq =>
        subst hq
        cases ha
        have h19 : 1 ≤ q ∧ q ≤ 9 := (qm_flk_sane hm).1
        have h0 : q ≠ 0 := by omega
        have h80 : q ≠ 80 := by omega
        have h81 : q ≠ 81 := by omega
        have hi := qm_okV_lt ho.h h0
        rw [List.map_cons, qm_cv_P h0 h80 h81]
        refine qm_getrow X hw hm hi hd ?_
        have hv : qm_fv B0 h q i f = qm_cv B0 sb sa (qL (zL h q i f)) := by simp [qm_fv, hk, qm_cv]
        rw [hv]
        exact kk H locs als hw hl (ho.t.cons trivial)
      · cases ha
theorem qm_ft_ok : (List.range 10).all (fun k => (List.range 37).all (fun f => (List.range 10).all (fun i => !decide (qm_fk k f = 3) || !decide (i < qm_cnt k) || (decide ((qm_ft k f).2.1 * i + (qm_ft k f).2.2 < qm_cnt (qm_ft k f).1) && decide ((qm_ft k f).1 ≠ 80) && decide ((qm_ft k f).1 ≠ 81) && decide ((qm_ft k f).1 ≠ 0))))) = true := by decide +kernel
theorem qm_ft_lt {k f i : Nat} (hk : k < 10) (hf : f < 37) (h3 : qm_fk k f = 3) (hi : i < qm_cnt k) : (qm_ft k f).2.1 * i + (qm_ft k f).2.2 < qm_cnt (qm_ft k f).1 ∧ (qm_ft k f).1 ≠ 80 ∧ (qm_ft k f).1 ≠ 81 ∧ (qm_ft k f).1 ≠ 0 := by
  have a := List.all_eq_true.mp (List.all_eq_true.mp (List.all_eq_true.mp qm_ft_ok k (List.mem_range.mpr hk)) f (List.mem_range.mpr hf)) i (List.mem_range.mpr (qm_cnt_lt hi).2)
  simp only [h3, hi, decide_true, Bool.not_true, Bool.false_or, Bool.and_eq_true, decide_eq_true_eq] at a
  exact ⟨a.1.1.1, a.1.1.2, a.1.2, a.2⟩
theorem so_getP (X : qm_Cx p R s m args c cells slots d mi B0 sb sa sv L xs dC dI cs) (hw : qm_Wd s B0 L xs dC dI cs h H locs) (hl : qm_Lo mi B0 sb sa als ls) (ho : qm_So st) {k f idx t mu ad : Nat} (hk : qm_fk k f = 3) (ht : qm_ft k f = (t, mu, ad)) (hm : (mN mi, idx, k, f) ∈ qm_flk) (hd : decode (mC mi) pc = .ok (.getfield idx, 3)) (ha : qa_getP [k, f, t, mu, ad] ls st h = some (.inl (ls', st', h'))) (kk : ∀ (H1 : Heap) (locs1 : List Loc) (als1 : Array Slot), qm_Wd s B0 L xs dC dI cs h' H1 locs1 → qm_Lo mi B0 sb sa als1 ls' → qm_So st' → W p l e R s m args below meth c H1 locs1 cells slots Q (F0 m (pc + 3) als1 (st'.map (qm_cv B0 sb sa)))) : W p l e R s m args below meth c H locs cells slots Q (F0 m pc als (st.map (qm_cv B0 sb sa))) := by
  unfold qa_getP at ha
  rcases st with _ | ⟨v, r⟩
  · cases ha
  · rcases v with v | v | ⟨q, i⟩
    · cases ha
    · cases ha
    · replace ha : (if q = k then some (.inl (ls, qP t (mu * i + ad) :: r, h)) else none : Option qm_Act) = some (.inl (ls', st', h')) := ha
      split at ha
      · next hq =>
        subst hq
        cases ha
        have h19 : 1 ≤ q ∧ q ≤ 9 := (qm_flk_sane hm).1
        have h0 : q ≠ 0 := by omega
        have h80 : q ≠ 80 := by omega
        have h81 : q ≠ 81 := by omega
        have hi := qm_okV_lt ho.h h0
        have hx := qm_ft_lt (Nat.lt_succ_of_le (qm_flk_sane hm).1.2) (Nat.lt_of_lt_of_le (qm_flk_sane hm).2.1 qm_nf_le) hk hi
        rw [ht] at hx
        rw [List.map_cons, qm_cv_P h0 h80 h81]
        refine qm_getrow X hw hm hi hd ?_
        have hv : qm_fv B0 h q i f = qm_cv B0 sb sa (qP t (mu * i + ad)) := by rw [qm_cv_P hx.2.2.2 hx.2.1 hx.2.2.1]; simp [qm_fv, hk, ht, hw.2.2.2.1.2.2 q i f (Or.inl hk) hi]
        rw [hv]
        exact kk H locs als hw hl (ho.t.cons (Or.inr hx.1))
      · cases ha
theorem qm_fk4 : (List.range 10).all (fun k => (List.range 37).all (fun f => !decide (qm_fk k f = 4) || (decide (k = 5) && decide (f = 0)) || (decide (k = 6) && decide (f = 1)))) = true := by decide +kernel
theorem qm_fk4_at {k f : Nat} (hk : k < 10) (hf : f < 37) (h4 : qm_fk k f = 4) : (k = 5 ∧ f = 0) ∨ (k = 6 ∧ f = 1) := by
  have a := List.all_eq_true.mp (List.all_eq_true.mp qm_fk4 k (List.mem_range.mpr hk)) f (List.mem_range.mpr hf)
  simpa [h4] using a
theorem qm_okP_V {q : Nat × Nat} (h : qm_okP q) : qm_okV (qP q.1 q.2) := by
  rcases h with h | ⟨h1, h2⟩
  · exact Or.inl h
  · exact Or.inr (by rw [h1]; exact h2)
theorem qm_okP_cv {B0 sb sa : Nat} {q : Nat × Nat} (h : qm_okP q) : qm_cv B0 0 0 (qP q.1 q.2) = qm_cv B0 sb sa (qP q.1 q.2) := by
  rcases h with h | ⟨h1, h2⟩
  · simp [qm_cv, h]
  · simp [qm_cv, h1]
theorem qm_okH_at {h : qm_Hp} {k i f : Nat} (hH : qm_okH h) (hk : (k = 5 ∧ f = 0) ∨ (k = 6 ∧ f = 1)) (hi : i < qm_cnt k) : qm_okP (zP h k i f) := by
  rcases hk with ⟨rfl, rfl⟩ | ⟨rfl, rfl⟩
  · have : i = 0 := Nat.lt_one_iff.mp hi
    subst this
    exact hH.1
  · have : i = 0 := Nat.lt_one_iff.mp hi
    subst this
    exact hH.2.1
theorem so_getM (X : qm_Cx p R s m args c cells slots d mi B0 sb sa sv L xs dC dI cs) (hw : qm_Wd s B0 L xs dC dI cs h H locs) (hl : qm_Lo mi B0 sb sa als ls) (ho : qm_So st) {k f idx : Nat} (hk : qm_fk k f = 4) (hm : (mN mi, idx, k, f) ∈ qm_flk) (hd : decode (mC mi) pc = .ok (.getfield idx, 3)) (ha : qa_getM [k, f] ls st h = some (.inl (ls', st', h'))) (kk : ∀ (H1 : Heap) (locs1 : List Loc) (als1 : Array Slot), qm_Wd s B0 L xs dC dI cs h' H1 locs1 → qm_Lo mi B0 sb sa als1 ls' → qm_So st' → W p l e R s m args below meth c H1 locs1 cells slots Q (F0 m (pc + 3) als1 (st'.map (qm_cv B0 sb sa)))) : W p l e R s m args below meth c H locs cells slots Q (F0 m pc als (st.map (qm_cv B0 sb sa))) := by
  unfold qa_getM at ha
  rcases st with _ | ⟨v, r⟩
  · cases ha
  · rcases v with v | v | ⟨q, i⟩
    · cases ha
    · cases ha
    · replace ha : (if q = k then some (.inl (ls, qP (zP h q i f).1 (zP h q i f).2 :: r, h)) else none : Option qm_Act) = some (.inl (ls', st', h')) := ha
      split at ha
      · next hq =>
        subst hq
        cases ha
        have h19 : 1 ≤ q ∧ q ≤ 9 := (qm_flk_sane hm).1
        have h0 : q ≠ 0 := by omega
        have h80 : q ≠ 80 := by omega
        have h81 : q ≠ 81 := by omega
        have hi := qm_okV_lt ho.h h0
        have hx := qm_okH_at hw.2.2.2.1 (qm_fk4_at (Nat.lt_succ_of_le (qm_flk_sane hm).1.2) (Nat.lt_of_lt_of_le (qm_flk_sane hm).2.1 qm_nf_le) hk) hi
        rw [List.map_cons, qm_cv_P h0 h80 h81]
        refine qm_getrow X hw hm hi hd ?_
        have hv : qm_fv B0 h q i f = qm_cv B0 sb sa (qP (zP h q i f).1 (zP h q i f).2) := by rw [← qm_okP_cv hx]; simp [qm_fv, hk]
        rw [hv]
        exact kk H locs als hw hl (ho.t.cons (qm_okP_V hx))
      · cases ha
theorem so_putI (X : qm_Cx p R s m args c cells slots d mi B0 sb sa sv L xs dC dI cs) (hw : qm_Wd s B0 L xs dC dI cs h H locs) (hl : qm_Lo mi B0 sb sa als ls) (ho : qm_So st) {k f idx : Nat} (hk : qm_fk k f = 0) (hfin : (qm_T k f).2.2.2 = false) (hm : (mN mi, idx, k, f) ∈ qm_flk) (hd : decode (mC mi) pc = .ok (.putfield idx, 3)) (ha : qa_putI [k, f] ls st h = some (.inl (ls', st', h'))) (kk : ∀ (H1 : Heap) (locs1 : List Loc) (als1 : Array Slot), qm_Wd s B0 L xs dC dI cs h' H1 locs1 → qm_Lo mi B0 sb sa als1 ls' → qm_So st' → W p l e R s m args below meth c H1 locs1 cells slots Q (F0 m (pc + 3) als1 (st'.map (qm_cv B0 sb sa)))) : W p l e R s m args below meth c H locs cells slots Q (F0 m pc als (st.map (qm_cv B0 sb sa))) := by
  unfold qa_putI at ha
  rcases st with _ | ⟨v, _ | ⟨v2, r⟩⟩
  · cases ha
  · rcases v with v | v | ⟨q', i'⟩ <;> cases ha
  · rcases v with v | v | ⟨q', i'⟩
    · rcases v2 with v2 | v2 | ⟨q, i⟩
      · cases ha
      · cases ha
      · replace ha : (if q = k then some (.inl (ls, r, uI h q i f v)) else none : Option qm_Act) = some (.inl (ls', st', h')) := ha
        split at ha
        · next hq =>
          subst hq
          cases ha
          have h19 : 1 ≤ q ∧ q ≤ 9 := (qm_flk_sane hm).1
          have h0 : q ≠ 0 := by omega
          have h80 : q ≠ 80 := by omega
          have h81 : q ≠ 81 := by omega
          have hi := qm_okV_lt ho.t.h h0
          have hty := qm_fk_ty q (Nat.lt_succ_of_le (qm_flk_sane hm).1.2) f (Nat.lt_of_lt_of_le (qm_flk_sane hm).2.1 qm_nf_le)
          rw [List.map_cons, List.map_cons, qm_cv_P h0 h80 h81]
          refine qm_putrow X hw hm hi hfin (hty.1 hk) rfl rfl hd (fun H1 locs1 p1 p2 p3 => ?_)
          refine kk H1 locs1 als (hw.wI hi h80 h81 ⟨by rw [hk]; decide, qm_rlen_o h19.2⟩ ?_ p1 p2 p3) hl ho.t.t
          rw [qm_cell_o (qm_flk_sane hm).1]
          refine congrArg (fun z => Sum.inr (qm_ci q, z)) (qm_fields_set (qm_flk_sane hm).2.1 (by simp [qm_fv, hk, zI_uI, qm_cv]) (fun g hg => ?_)).symm
          have e9 : zI (uI h q i f v) q i g = zI h q i g := by rw [zI_uI, if_neg (fun z => hg z.2.2)]
          unfold qm_fv
          rw [e9]
          rfl
        · cases ha
    · rcases v2 with v2 | v2 | ⟨q, i⟩ <;> cases ha
    · rcases v2 with v2 | v2 | ⟨q, i⟩ <;> cases ha
theorem so_putZ (X : qm_Cx p R s m args c cells slots d mi B0 sb sa sv L xs dC dI cs) (hw : qm_Wd s B0 L xs dC dI cs h H locs) (hl : qm_Lo mi B0 sb sa als ls) (ho : qm_So st) {k f idx : Nat} (hk : qm_fk k f = 1) (hfin : (qm_T k f).2.2.2 = false) (hm : (mN mi, idx, k, f) ∈ qm_flk) (hd : decode (mC mi) pc = .ok (.putfield idx, 3)) (ha : qa_putZ [k, f] ls st h = some (.inl (ls', st', h'))) (kk : ∀ (H1 : Heap) (locs1 : List Loc) (als1 : Array Slot), qm_Wd s B0 L xs dC dI cs h' H1 locs1 → qm_Lo mi B0 sb sa als1 ls' → qm_So st' → W p l e R s m args below meth c H1 locs1 cells slots Q (F0 m (pc + 3) als1 (st'.map (qm_cv B0 sb sa)))) : W p l e R s m args below meth c H locs cells slots Q (F0 m pc als (st.map (qm_cv B0 sb sa))) := by
  unfold qa_putZ at ha
  rcases st with _ | ⟨v, _ | ⟨v2, r⟩⟩
  · cases ha
  · rcases v with v | v | ⟨q', i'⟩ <;> cases ha
  · rcases v with v | v | ⟨q', i'⟩
    · rcases v2 with v2 | v2 | ⟨q, i⟩
      · cases ha
      · cases ha
      · replace ha : (if q = k ∧ (v = 0 ∨ v = 1) then some (.inl (ls, r, uI h q i f v)) else none : Option qm_Act) = some (.inl (ls', st', h')) := ha
        split at ha
        · next hq =>
          obtain ⟨hq, hv01⟩ := hq
          subst hq
          cases ha
          have h19 : 1 ≤ q ∧ q ≤ 9 := (qm_flk_sane hm).1
          have h0 : q ≠ 0 := by omega
          have h80 : q ≠ 80 := by omega
          have h81 : q ≠ 81 := by omega
          have hi := qm_okV_lt ho.t.h h0
          have hty := qm_fk_ty q (Nat.lt_succ_of_le (qm_flk_sane hm).1.2) f (Nat.lt_of_lt_of_le (qm_flk_sane hm).2.1 qm_nf_le)
          rw [List.map_cons, List.map_cons, qm_cv_P h0 h80 h81]
          refine qm_putrow X hw hm hi hfin (hty.2.1 hk) (by rcases hv01 with rfl | rfl <;> rfl) (by rcases hv01 with rfl | rfl <;> rfl) hd (fun H1 locs1 p1 p2 p3 => ?_)
          refine kk H1 locs1 als (hw.wI hi h80 h81 ⟨by rw [hk]; decide, qm_rlen_o h19.2⟩ ?_ p1 p2 p3) hl ho.t.t
          rw [qm_cell_o (qm_flk_sane hm).1]
          refine congrArg (fun z => Sum.inr (qm_ci q, z)) (qm_fields_set (qm_flk_sane hm).2.1 (by simp [qm_fv, hk, zI_uI, qm_cv]) (fun g hg => ?_)).symm
          have e9 : zI (uI h q i f v) q i g = zI h q i g := by rw [zI_uI, if_neg (fun z => hg z.2.2)]
          unfold qm_fv
          rw [e9]
          rfl
        · cases ha
    · rcases v2 with v2 | v2 | ⟨q, i⟩ <;> cases ha
    · rcases v2 with v2 | v2 | ⟨q, i⟩ <;> cases ha
theorem so_putL (X : qm_Cx p R s m args c cells slots d mi B0 sb sa sv L xs dC dI cs) (hw : qm_Wd s B0 L xs dC dI cs h H locs) (hl : qm_Lo mi B0 sb sa als ls) (ho : qm_So st) {k f idx : Nat} (hk : qm_fk k f = 2) (hfin : (qm_T k f).2.2.2 = false) (hm : (mN mi, idx, k, f) ∈ qm_flk) (hd : decode (mC mi) pc = .ok (.putfield idx, 3)) (ha : qa_putL [k, f] ls st h = some (.inl (ls', st', h'))) (kk : ∀ (H1 : Heap) (locs1 : List Loc) (als1 : Array Slot), qm_Wd s B0 L xs dC dI cs h' H1 locs1 → qm_Lo mi B0 sb sa als1 ls' → qm_So st' → W p l e R s m args below meth c H1 locs1 cells slots Q (F0 m (pc + 3) als1 (st'.map (qm_cv B0 sb sa)))) : W p l e R s m args below meth c H locs cells slots Q (F0 m pc als (st.map (qm_cv B0 sb sa))) := by
  unfold qa_putL at ha
  rcases st with _ | ⟨v, _ | ⟨v2, r⟩⟩
  · cases ha
  · rcases v with v | v | ⟨q', i'⟩ <;> cases ha
  · rcases v with v | v | ⟨q', i'⟩
    · rcases v2 with v2 | v2 | ⟨q, i⟩ <;> cases ha
    · rcases v2 with v2 | v2 | ⟨q, i⟩
      · cases ha
      · cases ha
      · replace ha : (if q = k then some (.inl (ls, r, uL h q i f v)) else none : Option qm_Act) = some (.inl (ls', st', h')) := ha
        split at ha
        · next hq =>
          subst hq
          cases ha
          have h19 : 1 ≤ q ∧ q ≤ 9 := (qm_flk_sane hm).1
          have h0 : q ≠ 0 := by omega
          have h80 : q ≠ 80 := by omega
          have h81 : q ≠ 81 := by omega
          have hi := qm_okV_lt ho.t.h h0
          have hty := qm_fk_ty q (Nat.lt_succ_of_le (qm_flk_sane hm).1.2) f (Nat.lt_of_lt_of_le (qm_flk_sane hm).2.1 qm_nf_le)
          rw [List.map_cons, List.map_cons, qm_cv_P h0 h80 h81]
          refine qm_putrow X hw hm hi hfin (hty.2.2.1 hk) rfl rfl hd (fun H1 locs1 p1 p2 p3 => ?_)
          refine kk H1 locs1 als (hw.wL hi h80 h81 ?_ p1 p2 p3) hl ho.t.t
          rw [qm_cell_o (qm_flk_sane hm).1]
          refine congrArg (fun z => Sum.inr (qm_ci q, z)) (qm_fields_set (qm_flk_sane hm).2.1 (by simp [qm_fv, hk, zL_uL, qm_cv]) (fun g hg => ?_)).symm
          have e9 : zL (uL h q i f v) q i g = zL h q i g := by rw [zL_uL, if_neg (fun z => hg z.2.2)]
          unfold qm_fv
          rw [e9]
          rfl
        · cases ha
    · rcases v2 with v2 | v2 | ⟨q, i⟩ <;> cases ha
theorem so_putM (X : qm_Cx p R s m args c cells slots d mi B0 sb sa sv L xs dC dI cs) (hw : qm_Wd s B0 L xs dC dI cs h H locs) (hl : qm_Lo mi B0 sb sa als ls) (ho : qm_So st) {k f idx t : Nat} (hk : qm_fk k f = 4) (hfin : (qm_T k f).2.2.2 = false) (hm : (mN mi, idx, k, f) ∈ qm_flk) (hd : decode (mC mi) pc = .ok (.putfield idx, 3)) (ht : t = 4) (ha : qa_putM [k, f, t] ls st h = some (.inl (ls', st', h'))) (kk : ∀ (H1 : Heap) (locs1 : List Loc) (als1 : Array Slot), qm_Wd s B0 L xs dC dI cs h' H1 locs1 → qm_Lo mi B0 sb sa als1 ls' → qm_So st' → W p l e R s m args below meth c H1 locs1 cells slots Q (F0 m (pc + 3) als1 (st'.map (qm_cv B0 sb sa)))) : W p l e R s m args below meth c H locs cells slots Q (F0 m pc als (st.map (qm_cv B0 sb sa))) := by
  unfold qa_putM at ha
  rcases st with _ | ⟨v, _ | ⟨v2, r⟩⟩
  · cases ha
  · rcases v with v | v | ⟨q', i'⟩ <;> cases ha
  · rcases v with v | v | ⟨q', i'⟩
    · rcases v2 with v2 | v2 | ⟨q, i⟩ <;> cases ha
    · rcases v2 with v2 | v2 | ⟨q, i⟩ <;> cases ha
    · rcases v2 with v2 | v2 | ⟨q, i⟩
      · cases ha
      · cases ha
      · replace ha : (if q = k ∧ q' = t then some (.inl (ls, r, uP h q i f (q', i'))) else none : Option qm_Act) = some (.inl (ls', st', h')) := ha
        split at ha
        · next hq =>
          obtain ⟨hq, hq'⟩ := hq
          subst hq
          subst hq'
          subst ht
          have hi' : i' < 5 := qm_okV_lt ho.h (by decide)
          cases ha
          have h19 : 1 ≤ q ∧ q ≤ 9 := (qm_flk_sane hm).1
          have h0 : q ≠ 0 := by omega
          have h80 : q ≠ 80 := by omega
          have h81 : q ≠ 81 := by omega
          have hi := qm_okV_lt ho.t.h h0
          have hty := qm_fk_ty q (Nat.lt_succ_of_le (qm_flk_sane hm).1.2) f (Nat.lt_of_lt_of_le (qm_flk_sane hm).2.1 qm_nf_le)
          rw [List.map_cons, List.map_cons, qm_cv_P h0 h80 h81, qm_cv_P (k := 4) (by decide) (by decide) (by decide)]
          refine qm_putrow X hw hm hi hfin (hty.2.2.2.1 hk) rfl rfl hd (fun H1 locs1 p1 p2 p3 => ?_)
          refine kk H1 locs1 als (hw.wP hi h80 h81 (Or.inr ⟨rfl, hi'⟩) ?_ p1 p2 p3) hl ho.t.t
          rw [qm_cell_o (qm_flk_sane hm).1]
          refine congrArg (fun z => Sum.inr (qm_ci q, z)) (qm_fields_set (qm_flk_sane hm).2.1 (by simp [qm_fv, hk, zP_uP, qm_cv]) (fun g hg => ?_)).symm
          have e9 : zP (uP h q i f (4, i')) q i g = zP h q i g := by rw [zP_uP, if_neg (fun z => hg z.2.2)]
          unfold qm_fv
          rw [e9]
          rfl
        · cases ha
end QSH
end
section
section QSA
variable {p : Program} {l : Launch} {e : Env} {R : Room} {s : State} {m : MethodId} {args : Array Value} {below : List Frame} {meth : Method} {c : Code} {cells slots : Nat} {Q : State → Prop} {H : Heap} {locs : List Loc}
variable {d B0 sb sa sv L mi : Nat} {xs : Nat → Int32} {dC : Nat → ClassId} {dI : Nat → Nat → Nat} {cs : Nat × Nat × Nat × Nat × Nat} {pc n : Nat} {als : Array Slot} {ls st ls' st' : List qm_AV} {h h' : qm_Hp} {x : Instr}
theorem so_iald (X : qm_Cx p R s m args c cells slots d mi B0 sb sa sv L xs dC dI cs) (hw : qm_Wd s B0 L xs dC dI cs h H locs) (hl : qm_Lo mi B0 sb sa als ls) (ho : qm_So st) (hd : decode (mC mi) pc = .ok (.iaload, 1)) (ha : qa_iald ls st h = some (.inl (ls', st', h'))) (kk : ∀ (H1 : Heap) (locs1 : List Loc) (als1 : Array Slot), qm_Wd s B0 L xs dC dI cs h' H1 locs1 → qm_Lo mi B0 sb sa als1 ls' → qm_So st' → W p l e R s m args below meth c H1 locs1 cells slots Q (F0 m (pc + 1) als1 (st'.map (qm_cv B0 sb sa)))) : W p l e R s m args below meth c H locs cells slots Q (F0 m pc als (st.map (qm_cv B0 sb sa))) := by
  unfold qa_iald at ha
  rcases st with _ | ⟨v, _ | ⟨v2, r⟩⟩
  · cases ha
  · rcases v with v | v | ⟨q', i'⟩ <;> cases ha
  · rcases v with j | v | ⟨q', i'⟩
    · rcases v2 with v2 | v2 | ⟨q, i⟩
      · cases ha
      · cases ha
      · replace ha : (if j < 0 ∨ qm_ilen h q ≤ j.toNatClampNeg then none else some (.inl (ls, qI (zI h q i j.toNatClampNeg) :: r, h)) : Option qm_Act) = some (.inl (ls', st', h')) := ha
        split at ha
        · cases ha
        · next hg =>
          cases ha
          by_cases h80 : q = 80
          · subst h80
            have hi : i = 0 := Nat.lt_one_iff.mp (qm_okV_lt ho.t.h (by decide))
            subst hi
            have hL : qm_ilen h 80 = L := by
              show (zI h 82 0 0).toNatClampNeg = L
              rw [hw.2.2.2.2.2, nI_clamp X.2.2.2.2.2.1.2.2.2.2.1]
            rw [hL] at hg
            have hlt : j.toNatClampNeg < L := Nat.not_le.mp (fun z => hg (Or.inr z))
            have k2 := kk H locs als hw hl (ho.t.t.cons trivial)
            rw [List.map_cons] at k2
            have e : qm_cv B0 sb sa (qI (zI h 80 0 j.toNatClampNeg)) = .int (xs j.toNatClampNeg) := by rw [hw.2.2.2.2.1 _ hlt]; rfl
            rw [e] at k2
            have Ev := X.2.2.2.2.2.1
            exact va_sld X.1 X.2.1 Ev.2.2.1 (Nat.lt_of_lt_of_le Ev.2.2.2.1 Ev.2.2.2.2.2.1) (Nat.not_le.mpr Ev.2.2.2.1) hw.2.2.1 hg hd k2
          · rw [qm_ilen_z h80] at hg
            have hp : 0 < qm_ilen qm_z q := Nat.lt_of_le_of_lt (Nat.zero_le _) (Nat.not_le.mp (fun z => hg (Or.inr z)))
            have hz := qm_ilen_pos hp
            have hi := qm_okV_lt ho.t.h hz.1
            have he := qm_W_at (B0 := B0) (cs := cs) (h := h) hi h80 hz.2.1
            rw [qm_cell_i hp] at he
            rw [List.map_cons, List.map_cons, qm_cv_P hz.1 h80 hz.2.1]
            exact va_iald X.1 X.2.1 X.2.2.2.2.2.1.1 hw.1 (qm_ad q i) 0 he rfl hg hd (kk H locs als hw hl (ho.t.t.cons trivial))
    · cases ha
    · cases ha
theorem so_lald (X : qm_Cx p R s m args c cells slots d mi B0 sb sa sv L xs dC dI cs) (hw : qm_Wd s B0 L xs dC dI cs h H locs) (hl : qm_Lo mi B0 sb sa als ls) (ho : qm_So st) (hd : decode (mC mi) pc = .ok (.laload, 1)) (ha : qa_lald ls st h = some (.inl (ls', st', h'))) (kk : ∀ (H1 : Heap) (locs1 : List Loc) (als1 : Array Slot), qm_Wd s B0 L xs dC dI cs h' H1 locs1 → qm_Lo mi B0 sb sa als1 ls' → qm_So st' → W p l e R s m args below meth c H1 locs1 cells slots Q (F0 m (pc + 1) als1 (st'.map (qm_cv B0 sb sa)))) : W p l e R s m args below meth c H locs cells slots Q (F0 m pc als (st.map (qm_cv B0 sb sa))) := by
  unfold qa_lald at ha
  rcases st with _ | ⟨v, _ | ⟨v2, r⟩⟩
  · cases ha
  · rcases v with v | v | ⟨q', i'⟩ <;> cases ha
  · rcases v with j | v | ⟨q', i'⟩
    · rcases v2 with v2 | v2 | ⟨q, i⟩
      · cases ha
      · cases ha
      · replace ha : (if j < 0 ∨ qm_llen q ≤ j.toNatClampNeg then none else some (.inl (ls, qL (zL h q i j.toNatClampNeg) :: r, h)) : Option qm_Act) = some (.inl (ls', st', h')) := ha
        split at ha
        · cases ha
        · next hg =>
          cases ha
          have h66 : q = 66 := by
            apply Classical.byContradiction
            intro hn
            have : qm_llen q = 0 := by
              unfold qm_llen
              split
              · exact absurd rfl hn
              · rfl
            exact hg (Or.inr (by rw [this]; exact Nat.zero_le _))
          subst h66
          have hi := qm_okV_lt ho.t.h (by decide)
          have he := qm_W_at (B0 := B0) (cs := cs) (h := h) hi (by decide) (by decide)
          rw [qm_cell_l] at he
          rw [List.map_cons, List.map_cons, qm_cv_P (k := 66) (by decide) (by decide) (by decide)]
          exact va_lald X.1 X.2.1 X.2.2.2.2.2.1.1 hw.1 (qm_ad 66 i) 1 he rfl hg hd (kk H locs als hw hl (ho.t.t.cons trivial))
    · cases ha
    · cases ha
theorem so_bald (X : qm_Cx p R s m args c cells slots d mi B0 sb sa sv L xs dC dI cs) (hw : qm_Wd s B0 L xs dC dI cs h H locs) (hl : qm_Lo mi B0 sb sa als ls) (ho : qm_So st) (hd : decode (mC mi) pc = .ok (.baload, 1)) (ha : qa_bald ls st h = some (.inl (ls', st', h'))) (kk : ∀ (H1 : Heap) (locs1 : List Loc) (als1 : Array Slot), qm_Wd s B0 L xs dC dI cs h' H1 locs1 → qm_Lo mi B0 sb sa als1 ls' → qm_So st' → W p l e R s m args below meth c H1 locs1 cells slots Q (F0 m (pc + 1) als1 (st'.map (qm_cv B0 sb sa)))) : W p l e R s m args below meth c H locs cells slots Q (F0 m pc als (st.map (qm_cv B0 sb sa))) := by
  unfold qa_bald at ha
  rcases st with _ | ⟨v, _ | ⟨v2, r⟩⟩
  · cases ha
  · rcases v with v | v | ⟨q', i'⟩ <;> cases ha
  · rcases v with j | v | ⟨q', i'⟩
    · rcases v2 with v2 | v2 | ⟨q, i⟩
      · cases ha
      · cases ha
      · replace ha : (if j < 0 ∨ qm_blen q ≤ j.toNatClampNeg then none else some (.inl (ls, qI (zI h q i j.toNatClampNeg) :: r, h)) : Option qm_Act) = some (.inl (ls', st', h')) := ha
        split at ha
        · cases ha
        · next hg =>
          cases ha
          have hb : q = 67 ∨ q = 76 := by
            apply Classical.byContradiction
            intro hn
            have : qm_blen q = 0 := by
              unfold qm_blen
              split
              · exact absurd (Or.inl rfl) hn
              · exact absurd (Or.inr rfl) hn
              · rfl
            exact hg (Or.inr (by rw [this]; exact Nat.zero_le _))
          have h0 : q ≠ 0 := by rcases hb with rfl | rfl <;> decide
          have h80 : q ≠ 80 := by rcases hb with rfl | rfl <;> decide
          have h81 : q ≠ 81 := by rcases hb with rfl | rfl <;> decide
          have hi := qm_okV_lt ho.t.h h0
          have he := qm_W_at (B0 := B0) (cs := cs) (h := h) hi h80 h81
          rw [qm_cell_b hb] at he
          rw [List.map_cons, List.map_cons, qm_cv_P h0 h80 h81]
          exact va_zald X.1 X.2.1 X.2.2.2.2.2.1.1 hw.1 (qm_ad q i) 2 he rfl hg hd (kk H locs als hw hl (ho.t.t.cons trivial))
    · cases ha
    · cases ha
theorem so_aald (X : qm_Cx p R s m args c cells slots d mi B0 sb sa sv L xs dC dI cs) (hw : qm_Wd s B0 L xs dC dI cs h H locs) (hl : qm_Lo mi B0 sb sa als ls) (ho : qm_So st) (hd : decode (mC mi) pc = .ok (.aaload, 1)) (ha : qa_aald ls st h = some (.inl (ls', st', h'))) (kk : ∀ (H1 : Heap) (locs1 : List Loc) (als1 : Array Slot), qm_Wd s B0 L xs dC dI cs h' H1 locs1 → qm_Lo mi B0 sb sa als1 ls' → qm_So st' → W p l e R s m args below meth c H1 locs1 cells slots Q (F0 m (pc + 1) als1 (st'.map (qm_cv B0 sb sa)))) : W p l e R s m args below meth c H locs cells slots Q (F0 m pc als (st.map (qm_cv B0 sb sa))) := by
  unfold qa_aald at ha
  rcases st with _ | ⟨v, _ | ⟨v2, r⟩⟩
  · cases ha
  · rcases v with v | v | ⟨q', i'⟩ <;> cases ha
  · rcases v with j | v | ⟨q', i'⟩
    · rcases v2 with v2 | v2 | ⟨q, i⟩
      · cases ha
      · cases ha
      · replace ha : (if j < 0 ∨ qm_rlen q ≤ j.toNatClampNeg then none else some (.inl (ls, qP (qm_rel q).1 ((qm_rel q).2 + j.toNatClampNeg) :: r, h)) : Option qm_Act) = some (.inl (ls', st', h')) := ha
        split at ha
        · cases ha
        · next hg =>
          cases ha
          have hb : q = 46 ∨ q = 51 := by
            apply Classical.byContradiction
            intro hn
            have : qm_rlen q = 0 := by
              unfold qm_rlen
              split
              · exact absurd (Or.inl rfl) hn
              · exact absurd (Or.inr rfl) hn
              · rfl
            exact hg (Or.inr (by rw [this]; exact Nat.zero_le _))
          rcases hb with rfl | rfl
          · have hi := qm_okV_lt ho.t.h (by decide)
            have he := qm_W_at (B0 := B0) (cs := cs) (h := h) hi (by decide) (by decide)
            have hj : j.toNatClampNeg < 5 := Nat.not_le.mp (fun z => hg (Or.inr z))
            have hok : qm_okV (qP 3 (4 + j.toNatClampNeg)) := Or.inr (show 4 + j.toNatClampNeg < 9 by omega)
            have k2 := kk H locs als hw hl (ho.t.t.cons hok)
            rw [List.map_cons, show qm_cv B0 sb sa (qP (qm_rel 46).1 ((qm_rel 46).2 + j.toNatClampNeg)) = .ref (B0 + qm_ad 3 (4 + j.toNatClampNeg)) from qm_cv_P (k := 3) (by decide) (by decide) (by decide)] at k2
            rw [List.map_cons, List.map_cons, qm_cv_P (k := 46) (by decide) (by decide) (by decide)]
            have hfl := hw.2.2.2.1.2.2 46 i j.toNatClampNeg (Or.inr hj) hi
            refine va_aldq X.1 X.2.1 X.2.2.2.2.2.1.1 hw.1 (qm_ad 46 i) 4 (C := "WoodStack$Pile") he rfl hg hd ?_
            rw [hfl]
            exact k2
          · have hi := qm_okV_lt ho.t.h (by decide)
            have he := qm_W_at (B0 := B0) (cs := cs) (h := h) hi (by decide) (by decide)
            have hj : j.toNatClampNeg < 4 := Nat.not_le.mp (fun z => hg (Or.inr z))
            have hok : qm_okV (qP 4 (0 + j.toNatClampNeg)) := Or.inr (show 0 + j.toNatClampNeg < 5 by omega)
            have k2 := kk H locs als hw hl (ho.t.t.cons hok)
            rw [List.map_cons, show qm_cv B0 sb sa (qP (qm_rel 51).1 ((qm_rel 51).2 + j.toNatClampNeg)) = .ref (B0 + qm_ad 4 (0 + j.toNatClampNeg)) from qm_cv_P (k := 4) (by decide) (by decide) (by decide)] at k2
            rw [List.map_cons, List.map_cons, qm_cv_P (k := 51) (by decide) (by decide) (by decide)]
            have hfl := hw.2.2.2.1.2.2 51 i j.toNatClampNeg (Or.inr hj) hi
            refine va_aldq X.1 X.2.1 X.2.2.2.2.2.1.1 hw.1 (qm_ad 51 i) 3 (C := "WoodStack$Text") he rfl hg hd ?_
            rw [hfl]
            exact k2
    · cases ha
    · cases ha
theorem so_iast (X : qm_Cx p R s m args c cells slots d mi B0 sb sa sv L xs dC dI cs) (hw : qm_Wd s B0 L xs dC dI cs h H locs) (hl : qm_Lo mi B0 sb sa als ls) (ho : qm_So st) (hd : decode (mC mi) pc = .ok (.iastore, 1)) (ha : qa_iast ls st h = some (.inl (ls', st', h'))) (kk : ∀ (H1 : Heap) (locs1 : List Loc) (als1 : Array Slot), qm_Wd s B0 L xs dC dI cs h' H1 locs1 → qm_Lo mi B0 sb sa als1 ls' → qm_So st' → W p l e R s m args below meth c H1 locs1 cells slots Q (F0 m (pc + 1) als1 (st'.map (qm_cv B0 sb sa)))) : W p l e R s m args below meth c H locs cells slots Q (F0 m pc als (st.map (qm_cv B0 sb sa))) := by
  unfold qa_iast at ha
  rcases st with _ | ⟨v, _ | ⟨v1, _ | ⟨v2, r⟩⟩⟩
  · cases ha
  · rcases v with v | v | ⟨q', i'⟩ <;> cases ha
  · rcases v with v | v | ⟨q', i'⟩ <;> rcases v1 with v1 | v1 | ⟨q1, i1⟩ <;> cases ha
  · rcases v with v | v | ⟨q', i'⟩
    · rcases v1 with j | v1 | ⟨q1, i1⟩
      · rcases v2 with v2 | v2 | ⟨q, i⟩
        · cases ha
        · cases ha
        · replace ha : (if (j < 0 ∨ qm_ilen h q ≤ j.toNatClampNeg) ∨ q = 80 then none else some (.inl (ls, r, uI h q i j.toNatClampNeg v)) : Option qm_Act) = some (.inl (ls', st', h')) := ha
          split at ha
          · cases ha
          · next hg =>
            cases ha
            have h80 : q ≠ 80 := fun z => hg (Or.inr z)
            have hg : ¬ (j < 0 ∨ qm_ilen h q ≤ j.toNatClampNeg) := fun z => hg (Or.inl z)
            rw [qm_ilen_z h80] at hg
            have hp : 0 < qm_ilen qm_z q := Nat.lt_of_le_of_lt (Nat.zero_le _) (Nat.not_le.mp (fun z => hg (Or.inr z)))
            have hz := qm_ilen_pos hp
            have hi := qm_okV_lt ho.t.t.h hz.1
            have he := qm_W_at (B0 := B0) (cs := cs) (h := h) hi h80 hz.2.1
            rw [qm_cell_i hp] at he
            rw [List.map_cons, List.map_cons, List.map_cons, qm_cv_P hz.1 h80 hz.2.1]
            refine va_iast X.1 X.2.1 X.2.2.2.2.2.1.1 hw.1 hw.2.1 hw.2.2.1 (qm_ad q i) 0 he rfl hg hd (fun H1 locs1 p1 p2 p3 => ?_)
            refine kk H1 locs1 als (hw.wI hi h80 hz.2.1 ⟨qm_fk_arr (qm_arr_ge hp), qm_rlen_0 hp⟩ ?_ p1 p2 p3) hl ho.t.t.t
            rw [qm_cell_i hp]
            congr 4
            funext a
            rw [zI_uI]
            simp [upd]
      · rcases v2 with v2 | v2 | ⟨q, i⟩ <;> cases ha
      · rcases v2 with v2 | v2 | ⟨q, i⟩ <;> cases ha
    · rcases v1 with v1 | v1 | ⟨q1, i1⟩ <;> rcases v2 with v2 | v2 | ⟨q, i⟩ <;> cases ha
    · rcases v1 with v1 | v1 | ⟨q1, i1⟩ <;> rcases v2 with v2 | v2 | ⟨q, i⟩ <;> cases ha
theorem so_bast (X : qm_Cx p R s m args c cells slots d mi B0 sb sa sv L xs dC dI cs) (hw : qm_Wd s B0 L xs dC dI cs h H locs) (hl : qm_Lo mi B0 sb sa als ls) (ho : qm_So st) (hd : decode (mC mi) pc = .ok (.bastore, 1)) (ha : qa_bast ls st h = some (.inl (ls', st', h'))) (kk : ∀ (H1 : Heap) (locs1 : List Loc) (als1 : Array Slot), qm_Wd s B0 L xs dC dI cs h' H1 locs1 → qm_Lo mi B0 sb sa als1 ls' → qm_So st' → W p l e R s m args below meth c H1 locs1 cells slots Q (F0 m (pc + 1) als1 (st'.map (qm_cv B0 sb sa)))) : W p l e R s m args below meth c H locs cells slots Q (F0 m pc als (st.map (qm_cv B0 sb sa))) := by
  unfold qa_bast at ha
  rcases st with _ | ⟨v, _ | ⟨v1, _ | ⟨v2, r⟩⟩⟩
  · cases ha
  · rcases v with v | v | ⟨q', i'⟩ <;> cases ha
  · rcases v with v | v | ⟨q', i'⟩ <;> rcases v1 with v1 | v1 | ⟨q1, i1⟩ <;> cases ha
  · rcases v with v | v | ⟨q', i'⟩
    · rcases v1 with j | v1 | ⟨q1, i1⟩
      · rcases v2 with v2 | v2 | ⟨q, i⟩
        · cases ha
        · cases ha
        · replace ha : (if (j < 0 ∨ qm_blen q ≤ j.toNatClampNeg) ∨ ¬ (v = 0 ∨ v = 1) then none else some (.inl (ls, r, uI h q i j.toNatClampNeg v)) : Option qm_Act) = some (.inl (ls', st', h')) := ha
          split at ha
          · cases ha
          · next hg =>
            cases ha
            have hv : v = 0 ∨ v = 1 := Classical.byContradiction fun z => hg (Or.inr z)
            have hg : ¬ (j < 0 ∨ qm_blen q ≤ j.toNatClampNeg) := fun z => hg (Or.inl z)
            have hb : q = 67 ∨ q = 76 := by
              apply Classical.byContradiction
              intro hn
              have : qm_blen q = 0 := by
                unfold qm_blen
                split
                · exact absurd (Or.inl rfl) hn
                · exact absurd (Or.inr rfl) hn
                · rfl
              exact hg (Or.inr (by rw [this]; exact Nat.zero_le _))
            have h0 : q ≠ 0 := by rcases hb with rfl | rfl <;> decide
            have h80 : q ≠ 80 := by rcases hb with rfl | rfl <;> decide
            have h81 : q ≠ 81 := by rcases hb with rfl | rfl <;> decide
            have hi := qm_okV_lt ho.t.t.h h0
            have he := qm_W_at (B0 := B0) (cs := cs) (h := h) hi h80 h81
            rw [qm_cell_b hb] at he
            rw [List.map_cons, List.map_cons, List.map_cons, qm_cv_P h0 h80 h81]
            refine va_zast X.1 X.2.1 X.2.2.2.2.2.1.1 hw.1 hw.2.1 hw.2.2.1 (qm_ad q i) 2 he rfl hg hd (fun H1 locs1 p1 p2 p3 => ?_)
            refine kk H1 locs1 als (hw.wI hi h80 h81 ⟨qm_fk_arr (by rcases hb with rfl | rfl <;> decide), by rcases hb with rfl | rfl <;> rfl⟩ ?_ p1 p2 p3) hl ho.t.t.t
            rw [qm_cell_b hb]
            have hn : vp_nar .boolean v = v := by rcases hv with rfl | rfl <;> rfl
            rw [hn]
            congr 4
            funext a
            rw [zI_uI]
            simp [upd]
      · rcases v2 with v2 | v2 | ⟨q, i⟩ <;> cases ha
      · rcases v2 with v2 | v2 | ⟨q, i⟩ <;> cases ha
    · rcases v1 with v1 | v1 | ⟨q1, i1⟩ <;> rcases v2 with v2 | v2 | ⟨q, i⟩ <;> cases ha
    · rcases v1 with v1 | v1 | ⟨q1, i1⟩ <;> rcases v2 with v2 | v2 | ⟨q, i⟩ <;> cases ha
theorem so_last (X : qm_Cx p R s m args c cells slots d mi B0 sb sa sv L xs dC dI cs) (hw : qm_Wd s B0 L xs dC dI cs h H locs) (hl : qm_Lo mi B0 sb sa als ls) (ho : qm_So st) (hd : decode (mC mi) pc = .ok (.lastore, 1)) (ha : qa_last ls st h = some (.inl (ls', st', h'))) (kk : ∀ (H1 : Heap) (locs1 : List Loc) (als1 : Array Slot), qm_Wd s B0 L xs dC dI cs h' H1 locs1 → qm_Lo mi B0 sb sa als1 ls' → qm_So st' → W p l e R s m args below meth c H1 locs1 cells slots Q (F0 m (pc + 1) als1 (st'.map (qm_cv B0 sb sa)))) : W p l e R s m args below meth c H locs cells slots Q (F0 m pc als (st.map (qm_cv B0 sb sa))) := by
  unfold qa_last at ha
  rcases st with _ | ⟨v, _ | ⟨v1, _ | ⟨v2, r⟩⟩⟩
  · cases ha
  · rcases v with v | v | ⟨q', i'⟩ <;> cases ha
  · rcases v with v | v | ⟨q', i'⟩ <;> rcases v1 with v1 | v1 | ⟨q1, i1⟩ <;> cases ha
  · rcases v with v | v | ⟨q', i'⟩
    · rcases v1 with v1 | v1 | ⟨q1, i1⟩ <;> rcases v2 with v2 | v2 | ⟨q, i⟩ <;> cases ha
    · rcases v1 with j | v1 | ⟨q1, i1⟩
      · rcases v2 with v2 | v2 | ⟨q, i⟩
        · cases ha
        · cases ha
        · replace ha : (if j < 0 ∨ qm_llen q ≤ j.toNatClampNeg then none else some (.inl (ls, r, uL h q i j.toNatClampNeg v)) : Option qm_Act) = some (.inl (ls', st', h')) := ha
          split at ha
          · cases ha
          · next hg =>
            cases ha
            have h66 : q = 66 := by
              apply Classical.byContradiction
              intro hn
              have : qm_llen q = 0 := by
                unfold qm_llen
                split
                · exact absurd rfl hn
                · rfl
              exact hg (Or.inr (by rw [this]; exact Nat.zero_le _))
            subst h66
            have hi := qm_okV_lt ho.t.t.h (by decide)
            have he := qm_W_at (B0 := B0) (cs := cs) (h := h) hi (by decide) (by decide)
            rw [qm_cell_l] at he
            rw [List.map_cons, List.map_cons, List.map_cons, qm_cv_P (k := 66) (by decide) (by decide) (by decide)]
            refine va_last X.1 X.2.1 X.2.2.2.2.2.1.1 hw.1 hw.2.1 hw.2.2.1 (qm_ad 66 i) 1 he rfl hg hd (fun H1 locs1 p1 p2 p3 => ?_)
            refine kk H1 locs1 als (hw.wL hi (by decide) (by decide) ?_ p1 p2 p3) hl ho.t.t.t
            rw [qm_cell_l]
            congr 5
            funext a
            rw [zL_uL]
            simp [vp_updL]
      · rcases v2 with v2 | v2 | ⟨q, i⟩ <;> cases ha
      · rcases v2 with v2 | v2 | ⟨q, i⟩ <;> cases ha
    · rcases v1 with v1 | v1 | ⟨q1, i1⟩ <;> rcases v2 with v2 | v2 | ⟨q, i⟩ <;> cases ha
theorem so_alen (X : qm_Cx p R s m args c cells slots d mi B0 sb sa sv L xs dC dI cs) (hw : qm_Wd s B0 L xs dC dI cs h H locs) (hl : qm_Lo mi B0 sb sa als ls) (ho : qm_So st) (hd : decode (mC mi) pc = .ok (.arraylength, 1)) (ha : qa_alen ls st h = some (.inl (ls', st', h'))) (kk : ∀ (H1 : Heap) (locs1 : List Loc) (als1 : Array Slot), qm_Wd s B0 L xs dC dI cs h' H1 locs1 → qm_Lo mi B0 sb sa als1 ls' → qm_So st' → W p l e R s m args below meth c H1 locs1 cells slots Q (F0 m (pc + 1) als1 (st'.map (qm_cv B0 sb sa)))) : W p l e R s m args below meth c H locs cells slots Q (F0 m pc als (st.map (qm_cv B0 sb sa))) := by
  unfold qa_alen at ha
  rcases st with _ | ⟨v, r⟩
  · cases ha
  · rcases v with v | v | ⟨q, i⟩
    · cases ha
    · cases ha
    · replace ha : (if q = 35 ∨ q = 42 ∨ q = 54 ∨ q = 55 ∨ q = 80 then some (.inl (ls, qI (Int32.ofNat (qm_ilen h q)) :: r, h)) else none : Option qm_Act) = some (.inl (ls', st', h')) := ha
      split at ha
      · next hg =>
        cases ha
        by_cases h80 : q = 80
        · subst h80
          have hL : qm_ilen h 80 = L := by
            show (zI h 82 0 0).toNatClampNeg = L
            rw [hw.2.2.2.2.2, nI_clamp X.2.2.2.2.2.1.2.2.2.2.1]
          have k2 := kk H locs als hw hl (ho.t.cons trivial)
          rw [hL] at k2
          have Ev := X.2.2.2.2.2.1
          exact va_slen X.1 X.2.1 Ev.2.2.1 (Nat.lt_of_lt_of_le Ev.2.2.2.1 Ev.2.2.2.2.2.1) (Nat.not_le.mpr Ev.2.2.2.1) hw.2.2.1 hd k2
        · have hp : 0 < qm_ilen qm_z q := by
            rcases hg with rfl | rfl | rfl | rfl | rfl
            · decide
            · decide
            · decide
            · decide
            · exact absurd rfl h80
          have hz := qm_ilen_pos hp
          have hi := qm_okV_lt ho.h hz.1
          have he := qm_W_at (B0 := B0) (cs := cs) (h := h) hi h80 hz.2.1
          rw [qm_cell_i hp] at he
          have k2 := kk H locs als hw hl (ho.t.cons trivial)
          rw [qm_ilen_z h80] at k2
          rw [List.map_cons, qm_cv_P hz.1 h80 hz.2.1]
          exact va_alen X.1 X.2.1 X.2.2.2.2.2.1.1 hw.1 (qm_ad q i) 0 he rfl rfl hd k2
      · cases ha
theorem so_max (X : qm_Cx p R s m args c cells slots d mi B0 sb sa sv L xs dC dI cs) (hw : qm_Wd s B0 L xs dC dI cs h H locs) (hl : qm_Lo mi B0 sb sa als ls) (ho : qm_So st) {idx : Nat} (hm : (mN mi, idx, 81) ∈ qm_ilk) (hd : decode (mC mi) pc = .ok (.invokestatic idx, 3)) (ha : qa_m2 (fun x y => if x < y then y else x) ls st h = some (.inl (ls', st', h'))) (kk : ∀ (H1 : Heap) (locs1 : List Loc) (als1 : Array Slot), qm_Wd s B0 L xs dC dI cs h' H1 locs1 → qm_Lo mi B0 sb sa als1 ls' → qm_So st' → W p l e R s m args below meth c H1 locs1 cells slots Q (F0 m (pc + 3) als1 (st'.map (qm_cv B0 sb sa)))) : W p l e R s m args below meth c H locs cells slots Q (F0 m pc als (st.map (qm_cv B0 sb sa))) := by
  unfold qa_m2 at ha
  rcases st with _ | ⟨v, _ | ⟨v2, r⟩⟩
  · cases ha
  · rcases v with v | v | ⟨q', i'⟩ <;> cases ha
  · rcases v with v | v | ⟨q', i'⟩
    · rcases v2 with v2 | v2 | ⟨q, i⟩
      · replace ha : (if qm_wid r ≤ 8 then some (.inl (ls, qI ((fun x y => if x < y then y else x) v2 v) :: r, h)) else none : Option qm_Act) = some (.inl (ls', st', h')) := ha
        split at ha
        · next hg =>
          cases ha
          exact va_mmax X.1 X.2.1 (by rw [X.2.2.1]; exact hl.1.1.symm) X.2.2.2.1 (X.2.2.2.2.1 _ (il_ok_81 _ hm rfl).tb) (X.2.2.2.2.1 _ is_81.tb) (X.2.2.2.2.1 _ ii_M.tb) (X.2.2.2.2.1 _ icw_81.tb) (by have := X.2.2.2.2.2.2.2.2.1; omega) (by rw [qm_wid_cat]; have := X.2.2.2.2.2.2.2.2.2; omega) X.2.2.2.2.2.2.1 X.2.2.2.2.2.2.2.1 hd (kk H locs als hw hl (ho.t.t.cons trivial))
        · cases ha
      · cases ha
      · cases ha
    · rcases v2 with v2 | v2 | ⟨q, i⟩ <;> cases ha
    · rcases v2 with v2 | v2 | ⟨q, i⟩ <;> cases ha
theorem so_min (X : qm_Cx p R s m args c cells slots d mi B0 sb sa sv L xs dC dI cs) (hw : qm_Wd s B0 L xs dC dI cs h H locs) (hl : qm_Lo mi B0 sb sa als ls) (ho : qm_So st) {idx : Nat} (hm : (mN mi, idx, 82) ∈ qm_ilk) (hd : decode (mC mi) pc = .ok (.invokestatic idx, 3)) (ha : qa_m2 (fun x y => if y < x then y else x) ls st h = some (.inl (ls', st', h'))) (kk : ∀ (H1 : Heap) (locs1 : List Loc) (als1 : Array Slot), qm_Wd s B0 L xs dC dI cs h' H1 locs1 → qm_Lo mi B0 sb sa als1 ls' → qm_So st' → W p l e R s m args below meth c H1 locs1 cells slots Q (F0 m (pc + 3) als1 (st'.map (qm_cv B0 sb sa)))) : W p l e R s m args below meth c H locs cells slots Q (F0 m pc als (st.map (qm_cv B0 sb sa))) := by
  unfold qa_m2 at ha
  rcases st with _ | ⟨v, _ | ⟨v2, r⟩⟩
  · cases ha
  · rcases v with v | v | ⟨q', i'⟩ <;> cases ha
  · rcases v with v | v | ⟨q', i'⟩
    · rcases v2 with v2 | v2 | ⟨q, i⟩
      · replace ha : (if qm_wid r ≤ 8 then some (.inl (ls, qI ((fun x y => if y < x then y else x) v2 v) :: r, h)) else none : Option qm_Act) = some (.inl (ls', st', h')) := ha
        split at ha
        · next hg =>
          cases ha
          exact va_mmin X.1 X.2.1 (by rw [X.2.2.1]; exact hl.1.1.symm) X.2.2.2.1 (X.2.2.2.2.1 _ (il_ok_82 _ hm rfl).tb) (X.2.2.2.2.1 _ is_82.tb) (X.2.2.2.2.1 _ ii_M.tb) (X.2.2.2.2.1 _ icw_82.tb) (by have := X.2.2.2.2.2.2.2.2.1; omega) (by rw [qm_wid_cat]; have := X.2.2.2.2.2.2.2.2.2; omega) X.2.2.2.2.2.2.1 X.2.2.2.2.2.2.2.1 hd (kk H locs als hw hl (ho.t.t.cons trivial))
        · cases ha
      · cases ha
      · cases ha
    · rcases v2 with v2 | v2 | ⟨q, i⟩ <;> cases ha
    · rcases v2 with v2 | v2 | ⟨q, i⟩ <;> cases ha
theorem so_maxl (X : qm_Cx p R s m args c cells slots d mi B0 sb sa sv L xs dC dI cs) (hw : qm_Wd s B0 L xs dC dI cs h H locs) (hl : qm_Lo mi B0 sb sa als ls) (ho : qm_So st) {idx : Nat} (hm : (mN mi, idx, 84) ∈ qm_ilk) (hd : decode (mC mi) pc = .ok (.invokestatic idx, 3)) (ha : qa_lm2 (fun x y => if y < x then x else y) ls st h = some (.inl (ls', st', h'))) (kk : ∀ (H1 : Heap) (locs1 : List Loc) (als1 : Array Slot), qm_Wd s B0 L xs dC dI cs h' H1 locs1 → qm_Lo mi B0 sb sa als1 ls' → qm_So st' → W p l e R s m args below meth c H1 locs1 cells slots Q (F0 m (pc + 3) als1 (st'.map (qm_cv B0 sb sa)))) : W p l e R s m args below meth c H locs cells slots Q (F0 m pc als (st.map (qm_cv B0 sb sa))) := by
  unfold qa_lm2 at ha
  rcases st with _ | ⟨v, _ | ⟨v2, r⟩⟩
  · cases ha
  · rcases v with v | v | ⟨q', i'⟩ <;> cases ha
  · rcases v with v | v | ⟨q', i'⟩
    · rcases v2 with v2 | v2 | ⟨q, i⟩ <;> cases ha
    · rcases v2 with v2 | v2 | ⟨q, i⟩
      · cases ha
      · replace ha : (if qm_wid r ≤ 8 then some (.inl (ls, qL ((fun x y => if y < x then x else y) v2 v) :: r, h)) else none : Option qm_Act) = some (.inl (ls', st', h')) := ha
        split at ha
        · next hg =>
          cases ha
          exact va_mmax_long X.1 X.2.1 (by rw [X.2.2.1]; exact hl.1.1.symm) X.2.2.2.1 (X.2.2.2.2.1 _ (il_ok_84 _ hm rfl).tb) (X.2.2.2.2.1 _ is_84.tb) (X.2.2.2.2.1 _ ii_M.tb) (X.2.2.2.2.1 _ icw_84.tb) (by have := X.2.2.2.2.2.2.2.2.1; omega) (by rw [qm_wid_cat]; have := X.2.2.2.2.2.2.2.2.2; omega) X.2.2.2.2.2.2.1 X.2.2.2.2.2.2.2.1 hd (kk H locs als hw hl (ho.t.t.cons trivial))
        · cases ha
      · cases ha
    · rcases v2 with v2 | v2 | ⟨q, i⟩ <;> cases ha
theorem so_minl (X : qm_Cx p R s m args c cells slots d mi B0 sb sa sv L xs dC dI cs) (hw : qm_Wd s B0 L xs dC dI cs h H locs) (hl : qm_Lo mi B0 sb sa als ls) (ho : qm_So st) {idx : Nat} (hm : (mN mi, idx, 85) ∈ qm_ilk) (hd : decode (mC mi) pc = .ok (.invokestatic idx, 3)) (ha : qa_lm2 (fun x y => if y < x then y else x) ls st h = some (.inl (ls', st', h'))) (kk : ∀ (H1 : Heap) (locs1 : List Loc) (als1 : Array Slot), qm_Wd s B0 L xs dC dI cs h' H1 locs1 → qm_Lo mi B0 sb sa als1 ls' → qm_So st' → W p l e R s m args below meth c H1 locs1 cells slots Q (F0 m (pc + 3) als1 (st'.map (qm_cv B0 sb sa)))) : W p l e R s m args below meth c H locs cells slots Q (F0 m pc als (st.map (qm_cv B0 sb sa))) := by
  unfold qa_lm2 at ha
  rcases st with _ | ⟨v, _ | ⟨v2, r⟩⟩
  · cases ha
  · rcases v with v | v | ⟨q', i'⟩ <;> cases ha
  · rcases v with v | v | ⟨q', i'⟩
    · rcases v2 with v2 | v2 | ⟨q, i⟩ <;> cases ha
    · rcases v2 with v2 | v2 | ⟨q, i⟩
      · cases ha
      · replace ha : (if qm_wid r ≤ 8 then some (.inl (ls, qL ((fun x y => if y < x then y else x) v2 v) :: r, h)) else none : Option qm_Act) = some (.inl (ls', st', h')) := ha
        split at ha
        · next hg =>
          cases ha
          exact va_mmin_long X.1 X.2.1 (by rw [X.2.2.1]; exact hl.1.1.symm) X.2.2.2.1 (X.2.2.2.2.1 _ (il_ok_85 _ hm rfl).tb) (X.2.2.2.2.1 _ is_85.tb) (X.2.2.2.2.1 _ ii_M.tb) (X.2.2.2.2.1 _ icw_85.tb) (by have := X.2.2.2.2.2.2.2.2.1; omega) (by rw [qm_wid_cat]; have := X.2.2.2.2.2.2.2.2.2; omega) X.2.2.2.2.2.2.1 X.2.2.2.2.2.2.2.1 hd (kk H locs als hw hl (ho.t.t.cons trivial))
        · cases ha
      · cases ha
    · rcases v2 with v2 | v2 | ⟨q, i⟩ <;> cases ha
theorem so_abs (X : qm_Cx p R s m args c cells slots d mi B0 sb sa sv L xs dC dI cs) (hw : qm_Wd s B0 L xs dC dI cs h H locs) (hl : qm_Lo mi B0 sb sa als ls) (ho : qm_So st) {idx : Nat} (hm : (mN mi, idx, 83) ∈ qm_ilk) (hd : decode (mC mi) pc = .ok (.invokestatic idx, 3)) (ha : qa_abs ls st h = some (.inl (ls', st', h'))) (kk : ∀ (H1 : Heap) (locs1 : List Loc) (als1 : Array Slot), qm_Wd s B0 L xs dC dI cs h' H1 locs1 → qm_Lo mi B0 sb sa als1 ls' → qm_So st' → W p l e R s m args below meth c H1 locs1 cells slots Q (F0 m (pc + 3) als1 (st'.map (qm_cv B0 sb sa)))) : W p l e R s m args below meth c H locs cells slots Q (F0 m pc als (st.map (qm_cv B0 sb sa))) := by
  unfold qa_abs at ha
  rcases st with _ | ⟨v, r⟩
  · cases ha
  · rcases v with v | v | ⟨q, i⟩
    · replace ha : (if qm_wid r ≤ 8 then some (.inl (ls, qI (if 0 ≤ v then v else 0 - v) :: r, h)) else none : Option qm_Act) = some (.inl (ls', st', h')) := ha
      split at ha
      · next hg =>
        cases ha
        exact va_mabs X.1 X.2.1 (by rw [X.2.2.1]; exact hl.1.1.symm) X.2.2.2.1 (X.2.2.2.2.1 _ (il_ok_83 _ hm rfl).tb) (X.2.2.2.2.1 _ is_83.tb) (X.2.2.2.2.1 _ ii_M.tb) (X.2.2.2.2.1 _ icw_83.tb) (by have := X.2.2.2.2.2.2.2.2.1; omega) (by rw [qm_wid_cat]; have := X.2.2.2.2.2.2.2.2.2; omega) X.2.2.2.2.2.2.1 X.2.2.2.2.2.2.2.1 hd (kk H locs als hw hl (ho.t.cons trivial))
      · cases ha
    · cases ha
    · cases ha
theorem so_copy (X : qm_Cx p R s m args c cells slots d mi B0 sb sa sv L xs dC dI cs) (hw : qm_Wd s B0 L xs dC dI cs h H locs) (hl : qm_Lo mi B0 sb sa als ls) (ho : qm_So st) {idx : Nat} (hm : (mN mi, idx, 86) ∈ qm_ilk) (hd : decode (mC mi) pc = .ok (.invokestatic idx, 3)) (ha : qa_copy ls st h = some (.inl (ls', st', h'))) (kk : ∀ (H1 : Heap) (locs1 : List Loc) (als1 : Array Slot), qm_Wd s B0 L xs dC dI cs h' H1 locs1 → qm_Lo mi B0 sb sa als1 ls' → qm_So st' → W p l e R s m args below meth c H1 locs1 cells slots Q (F0 m (pc + 3) als1 (st'.map (qm_cv B0 sb sa)))) : W p l e R s m args below meth c H locs cells slots Q (F0 m pc als (st.map (qm_cv B0 sb sa))) := by
  have h9 : nativeFrameWords "java/lang/System" "arraycopy" 5 ≤ 100 := by decide +kernel
  unfold qa_copy at ha
  split at ha
  · next n0 dp q' i' sp q i r =>
    split at ha
    · cases ha
    · next hg =>
      have g1 : ¬ sp < 0 := fun z => hg (Or.inl (Or.inl z))
      have g2 : ¬ dp < 0 := fun z => hg (Or.inl (Or.inr (Or.inl z)))
      have g3 : ¬ n0 < 0 := fun z => hg (Or.inl (Or.inr (Or.inr z)))
      have g4 : sp.toNatClampNeg + n0.toNatClampNeg ≤ qm_ilen h q := Nat.not_lt.mp (fun z => hg (Or.inr (Or.inl z)))
      have g5 : dp.toNatClampNeg + n0.toNatClampNeg ≤ qm_ilen h q' := Nat.not_lt.mp (fun z => hg (Or.inr (Or.inr (Or.inl z))))
      have g6 : q ≠ 80 := fun z => hg (Or.inr (Or.inr (Or.inr (Or.inl z))))
      have g7 : q' ≠ 80 := fun z => hg (Or.inr (Or.inr (Or.inr (Or.inr (Or.inl z)))))
      have g8 : qm_wid r ≤ 8 := Nat.not_lt.mp (fun z => hg (Or.inr (Or.inr (Or.inr (Or.inr (Or.inr (Or.inl z)))))))
      have hq0 : ¬ qm_ilen h q = 0 := fun z => hg (Or.inr (Or.inr (Or.inr (Or.inr (Or.inr (Or.inr (Or.inl z)))))))
      have hq1 : ¬ qm_ilen h q' = 0 := fun z => hg (Or.inr (Or.inr (Or.inr (Or.inr (Or.inr (Or.inr (Or.inr z)))))))
      rw [qm_ilen_z g6] at g4 hq0
      rw [qm_ilen_z g7] at g5 hq1
      cases ha
      have hq0 : 0 < qm_ilen qm_z q := Nat.pos_of_ne_zero hq0
      have hq1 : 0 < qm_ilen qm_z q' := Nat.pos_of_ne_zero hq1
      have z0 := qm_ilen_pos hq0
      have z1 := qm_ilen_pos hq1
      have i1 := qm_okV_lt ho.t.t.h z1.1
      have i0 := qm_okV_lt ho.t.t.t.t.h z0.1
      have e0 := qm_W_at (B0 := B0) (cs := cs) (h := h) i0 g6 z0.2.1
      have e1 := qm_W_at (B0 := B0) (cs := cs) (h := h) i1 g7 z1.2.1
      rw [qm_cell_i hq0] at e0
      rw [qm_cell_i hq1] at e1
      have g9 := X.2.2.2.2.2.2.2.2.2
      rw [List.map_cons, List.map_cons, List.map_cons, List.map_cons, List.map_cons, qm_cv_P z1.1 g7 z1.2.1, qm_cv_P z0.1 g6 z0.2.1]
      refine va_copyi X.1 X.2.1 (by rw [X.2.2.1]; exact hl.1.1.symm) X.2.2.2.1 (X.2.2.2.2.1 _ (il_ok_86 _ hm rfl).tb) (X.2.2.2.2.1 _ in_86.tb) (X.2.2.2.2.1 _ is_86.tb) (X.2.2.2.2.1 _ ii_S.tb) X.2.2.2.2.2.1.1 hw.1 hw.2.1 hw.2.2.1 (qm_ad q i) (qm_ad q' i') 0 0 e0 e1 rfl rfl rfl g1 g2 g3 g4 g5 (fun _ _ => rfl) (by have := X.2.2.2.2.2.2.2.2.1; omega) (by rw [qm_wid_cat]; omega) hd (fun H1 locs1 p1 p2 p3 => ?_)
      refine kk H1 locs1 als (hw.wC i1 g7 z1.2.1 ⟨qm_arr_ge hq1, qm_rlen_0 hq1⟩ ?_ p1 p2 p3) hl ho.t.t.t.t.t
      rw [qm_cell_i hq1]
      congr 4
      funext a
      rw [zI_uC]
      by_cases ha : dp.toNatClampNeg ≤ a ∧ a < dp.toNatClampNeg + n0.toNatClampNeg
      · rw [if_pos ⟨rfl, rfl, ha⟩, pk_cpy_in ha.1 ha.2]
      · rw [if_neg (fun z => ha z.2.2), pk_cpy_out (by omega)]
  · cases ha
end QSA
end
section
theorem qm_nest_form : ∀ w ∈ qm_nest, ∃ a i y z, w = Cond.methodLinkNest a i y z := by
  unfold qm_nest
  repeat' first | exact fun _ h => absurd h List.not_mem_nil | refine List.forall_mem_cons.mpr ⟨⟨_, _, _, _, rfl⟩, ?_⟩
section QEN
variable {B0 sb sa sv L : Nat} {xs : Nat → Int32} {dC : Nat → ClassId} {dI : Nat → Nat → Nat} {cs : Nat × Nat × Nat × Nat × Nat} {U V s : State}
theorem qm_Env.to (hvm : U.vm = V.vm) (hh : V.heap = U.heap) (E : qm_Env B0 sb sa sv L xs dC dI cs U) : qm_Env B0 sb sa sv L xs dC dI cs V := by
  have al : U.vm.Alike V.vm := by rw [hvm]; exact Vm.Alike.refl _
  obtain ⟨k, nw, x, h1, h2, h3, r, sS, z, v, hv, z2⟩ := E
  refine ⟨k.moved al, fun w hw => ?_, ?_, h1, h2, by rw [hh]; exact h3, vk_R.same hvm.symm r, ?_, ?_, v, hv, ?_⟩
  · obtain ⟨a, i, y, b, rfl⟩ := qm_nest_form w hw
    exact va_Nw.same rfl hvm (nw _ hw)
  · rw [hh]; exact x.moved al
  · rw [hh]; exact sS.moved al
  · rw [hh]; exact z.moved al
  · rw [hh]; exact z2.moved al
theorem qm_Env.warm (hW : s.WarmedH V.vm) (hsz : s.heap.size ≤ V.heap.size) (hk : ∀ q : Nat, q < s.heap.size → ¬ B0 ≤ q → V.heap[q]? = s.heap[q]?) (E : qm_Env B0 sb sa sv L xs dC dI cs s) : qm_Env B0 sb sa sv L xs dC dI cs V := by
  have al : s.vm.Alike V.vm := hW.alike
  obtain ⟨k, nw, x, h1, h2, h3, r, sS, z, v, hv, z2⟩ := E
  refine ⟨k.moved al, fun w hw => ?_, ?_, h1, h2, Nat.le_trans h3 hsz, vk_R.warm hW r, ?_, ?_, v, hv, ?_⟩
  · obtain ⟨a, i, y, b, rfl⟩ := qm_nest_form w hw
    exact va_Nw.warmM hW (nw _ hw)
  · exact (x.kept (hk sb (Nat.lt_of_lt_of_le h1 h3) (Nat.not_le.mpr h1))).moved al
  · exact (sS.kept hk).moved al
  · exact (z.kept hk).moved al
  · exact (z2.kept hk).moved al
end QEN
end
section
theorem qa_load_inl (a : List Nat) (t : Nat) {ls st : List qm_AV} {s : qm_Hp} {r : qm_Act} (h : qa_load a t ls st s = some r) : ∃ x y z, r = .inl (x, y, z) := by
  unfold qa_load at h
  repeat' split at h
  all_goals first | (cases h; done) | (cases h; exact ⟨_, _, _, rfl⟩)
theorem qa_store_inl (a : List Nat) (t : Nat) {ls st : List qm_AV} {s : qm_Hp} {r : qm_Act} (h : qa_store a t ls st s = some r) : ∃ x y z, r = .inl (x, y, z) := by
  unfold qa_store at h
  repeat' split at h
  all_goals first | (cases h; done) | (cases h; exact ⟨_, _, _, rfl⟩)
theorem qa_iinc_inl (a : List Nat) (c : Int) {ls st : List qm_AV} {s : qm_Hp} {r : qm_Act} (h : qa_iinc a c ls st s = some r) : ∃ x y z, r = .inl (x, y, z) := by
  unfold qa_iinc at h
  repeat' split at h
  all_goals first | (cases h; done) | (cases h; exact ⟨_, _, _, rfl⟩)
theorem qa_bin_inl (f : Int32 → Int32 → Int32) {ls st : List qm_AV} {s : qm_Hp} {r : qm_Act} (h : qa_bin f ls st s = some r) : ∃ x y z, r = .inl (x, y, z) := by
  unfold qa_bin at h
  repeat' split at h
  all_goals first | (cases h; done) | (cases h; exact ⟨_, _, _, rfl⟩)
theorem qa_div_inl (f : Int32 → Int32 → Int32) {ls st : List qm_AV} {s : qm_Hp} {r : qm_Act} (h : qa_div f ls st s = some r) : ∃ x y z, r = .inl (x, y, z) := by
  unfold qa_div at h
  repeat' split at h
  all_goals first | (cases h; done) | (cases h; exact ⟨_, _, _, rfl⟩)
theorem qa_neg_inl  {ls st : List qm_AV} {s : qm_Hp} {r : qm_Act} (h : qa_neg ls st s = some r) : ∃ x y z, r = .inl (x, y, z) := by
  unfold qa_neg at h
  repeat' split at h
  all_goals first | (cases h; done) | (cases h; exact ⟨_, _, _, rfl⟩)
theorem qa_lbin_inl (f : Int64 → Int64 → Int64) {ls st : List qm_AV} {s : qm_Hp} {r : qm_Act} (h : qa_lbin f ls st s = some r) : ∃ x y z, r = .inl (x, y, z) := by
  unfold qa_lbin at h
  repeat' split at h
  all_goals first | (cases h; done) | (cases h; exact ⟨_, _, _, rfl⟩)
theorem qa_ldiv_inl  {ls st : List qm_AV} {s : qm_Hp} {r : qm_Act} (h : qa_ldiv ls st s = some r) : ∃ x y z, r = .inl (x, y, z) := by
  unfold qa_ldiv at h
  repeat' split at h
  all_goals first | (cases h; done) | (cases h; exact ⟨_, _, _, rfl⟩)
theorem qa_lneg_inl  {ls st : List qm_AV} {s : qm_Hp} {r : qm_Act} (h : qa_lneg ls st s = some r) : ∃ x y z, r = .inl (x, y, z) := by
  unfold qa_lneg at h
  repeat' split at h
  all_goals first | (cases h; done) | (cases h; exact ⟨_, _, _, rfl⟩)
theorem qa_lshl_inl  {ls st : List qm_AV} {s : qm_Hp} {r : qm_Act} (h : qa_lshl ls st s = some r) : ∃ x y z, r = .inl (x, y, z) := by
  unfold qa_lshl at h
  repeat' split at h
  all_goals first | (cases h; done) | (cases h; exact ⟨_, _, _, rfl⟩)
theorem qa_lcmp_inl  {ls st : List qm_AV} {s : qm_Hp} {r : qm_Act} (h : qa_lcmp ls st s = some r) : ∃ x y z, r = .inl (x, y, z) := by
  unfold qa_lcmp at h
  repeat' split at h
  all_goals first | (cases h; done) | (cases h; exact ⟨_, _, _, rfl⟩)
theorem qa_i2l_inl  {ls st : List qm_AV} {s : qm_Hp} {r : qm_Act} (h : qa_i2l ls st s = some r) : ∃ x y z, r = .inl (x, y, z) := by
  unfold qa_i2l at h
  repeat' split at h
  all_goals first | (cases h; done) | (cases h; exact ⟨_, _, _, rfl⟩)
theorem qa_l2i_inl  {ls st : List qm_AV} {s : qm_Hp} {r : qm_Act} (h : qa_l2i ls st s = some r) : ∃ x y z, r = .inl (x, y, z) := by
  unfold qa_l2i at h
  repeat' split at h
  all_goals first | (cases h; done) | (cases h; exact ⟨_, _, _, rfl⟩)
theorem qa_dup_inl  {ls st : List qm_AV} {s : qm_Hp} {r : qm_Act} (h : qa_dup ls st s = some r) : ∃ x y z, r = .inl (x, y, z) := by
  unfold qa_dup at h
  repeat' split at h
  all_goals first | (cases h; done) | (cases h; exact ⟨_, _, _, rfl⟩)
theorem qa_dup2_inl  {ls st : List qm_AV} {s : qm_Hp} {r : qm_Act} (h : qa_dup2 ls st s = some r) : ∃ x y z, r = .inl (x, y, z) := by
  unfold qa_dup2 at h
  repeat' split at h
  all_goals first | (cases h; done) | (cases h; exact ⟨_, _, _, rfl⟩)
theorem qa_pop_inl  {ls st : List qm_AV} {s : qm_Hp} {r : qm_Act} (h : qa_pop ls st s = some r) : ∃ x y z, r = .inl (x, y, z) := by
  unfold qa_pop at h
  repeat' split at h
  all_goals first | (cases h; done) | (cases h; exact ⟨_, _, _, rfl⟩)
theorem qa_getI_inl (a : List Nat) {ls st : List qm_AV} {s : qm_Hp} {r : qm_Act} (h : qa_getI a ls st s = some r) : ∃ x y z, r = .inl (x, y, z) := by
  unfold qa_getI at h
  repeat' split at h
  all_goals first | (cases h; done) | (cases h; exact ⟨_, _, _, rfl⟩)
theorem qa_getL_inl (a : List Nat) {ls st : List qm_AV} {s : qm_Hp} {r : qm_Act} (h : qa_getL a ls st s = some r) : ∃ x y z, r = .inl (x, y, z) := by
  unfold qa_getL at h
  repeat' split at h
  all_goals first | (cases h; done) | (cases h; exact ⟨_, _, _, rfl⟩)
theorem qa_getP_inl (a : List Nat) {ls st : List qm_AV} {s : qm_Hp} {r : qm_Act} (h : qa_getP a ls st s = some r) : ∃ x y z, r = .inl (x, y, z) := by
  unfold qa_getP at h
  repeat' split at h
  all_goals first | (cases h; done) | (cases h; exact ⟨_, _, _, rfl⟩)
theorem qa_getM_inl (a : List Nat) {ls st : List qm_AV} {s : qm_Hp} {r : qm_Act} (h : qa_getM a ls st s = some r) : ∃ x y z, r = .inl (x, y, z) := by
  unfold qa_getM at h
  repeat' split at h
  all_goals first | (cases h; done) | (cases h; exact ⟨_, _, _, rfl⟩)
theorem qa_putI_inl (a : List Nat) {ls st : List qm_AV} {s : qm_Hp} {r : qm_Act} (h : qa_putI a ls st s = some r) : ∃ x y z, r = .inl (x, y, z) := by
  unfold qa_putI at h
  repeat' split at h
  all_goals first | (cases h; done) | (cases h; exact ⟨_, _, _, rfl⟩)
theorem qa_putZ_inl (a : List Nat) {ls st : List qm_AV} {s : qm_Hp} {r : qm_Act} (h : qa_putZ a ls st s = some r) : ∃ x y z, r = .inl (x, y, z) := by
  unfold qa_putZ at h
  repeat' split at h
  all_goals first | (cases h; done) | (cases h; exact ⟨_, _, _, rfl⟩)
theorem qa_putL_inl (a : List Nat) {ls st : List qm_AV} {s : qm_Hp} {r : qm_Act} (h : qa_putL a ls st s = some r) : ∃ x y z, r = .inl (x, y, z) := by
  unfold qa_putL at h
  repeat' split at h
  all_goals first | (cases h; done) | (cases h; exact ⟨_, _, _, rfl⟩)
theorem qa_putM_inl (a : List Nat) {ls st : List qm_AV} {s : qm_Hp} {r : qm_Act} (h : qa_putM a ls st s = some r) : ∃ x y z, r = .inl (x, y, z) := by
  unfold qa_putM at h
  repeat' split at h
  all_goals first | (cases h; done) | (cases h; exact ⟨_, _, _, rfl⟩)
theorem qa_null_inl (a : List Nat) {ls st : List qm_AV} {s : qm_Hp} {r : qm_Act} (h : qa_null a ls st s = some r) : ∃ x y z, r = .inl (x, y, z) := by
  unfold qa_null at h
  repeat' split at h
  all_goals first | (cases h; done) | (cases h; exact ⟨_, _, _, rfl⟩)
theorem qa_iald_inl  {ls st : List qm_AV} {s : qm_Hp} {r : qm_Act} (h : qa_iald ls st s = some r) : ∃ x y z, r = .inl (x, y, z) := by
  unfold qa_iald at h
  repeat' split at h
  all_goals first | (cases h; done) | (cases h; exact ⟨_, _, _, rfl⟩)
theorem qa_iast_inl  {ls st : List qm_AV} {s : qm_Hp} {r : qm_Act} (h : qa_iast ls st s = some r) : ∃ x y z, r = .inl (x, y, z) := by
  unfold qa_iast at h
  repeat' split at h
  all_goals first | (cases h; done) | (cases h; exact ⟨_, _, _, rfl⟩)
theorem qa_lald_inl  {ls st : List qm_AV} {s : qm_Hp} {r : qm_Act} (h : qa_lald ls st s = some r) : ∃ x y z, r = .inl (x, y, z) := by
  unfold qa_lald at h
  repeat' split at h
  all_goals first | (cases h; done) | (cases h; exact ⟨_, _, _, rfl⟩)
theorem qa_last_inl  {ls st : List qm_AV} {s : qm_Hp} {r : qm_Act} (h : qa_last ls st s = some r) : ∃ x y z, r = .inl (x, y, z) := by
  unfold qa_last at h
  repeat' split at h
  all_goals first | (cases h; done) | (cases h; exact ⟨_, _, _, rfl⟩)
theorem qa_bald_inl  {ls st : List qm_AV} {s : qm_Hp} {r : qm_Act} (h : qa_bald ls st s = some r) : ∃ x y z, r = .inl (x, y, z) := by
  unfold qa_bald at h
  repeat' split at h
  all_goals first | (cases h; done) | (cases h; exact ⟨_, _, _, rfl⟩)
theorem qa_bast_inl  {ls st : List qm_AV} {s : qm_Hp} {r : qm_Act} (h : qa_bast ls st s = some r) : ∃ x y z, r = .inl (x, y, z) := by
  unfold qa_bast at h
  repeat' split at h
  all_goals first | (cases h; done) | (cases h; exact ⟨_, _, _, rfl⟩)
theorem qa_aald_inl  {ls st : List qm_AV} {s : qm_Hp} {r : qm_Act} (h : qa_aald ls st s = some r) : ∃ x y z, r = .inl (x, y, z) := by
  unfold qa_aald at h
  repeat' split at h
  all_goals first | (cases h; done) | (cases h; exact ⟨_, _, _, rfl⟩)
theorem qa_alen_inl  {ls st : List qm_AV} {s : qm_Hp} {r : qm_Act} (h : qa_alen ls st s = some r) : ∃ x y z, r = .inl (x, y, z) := by
  unfold qa_alen at h
  repeat' split at h
  all_goals first | (cases h; done) | (cases h; exact ⟨_, _, _, rfl⟩)
theorem qa_abs_inl  {ls st : List qm_AV} {s : qm_Hp} {r : qm_Act} (h : qa_abs ls st s = some r) : ∃ x y z, r = .inl (x, y, z) := by
  unfold qa_abs at h
  repeat' split at h
  all_goals first | (cases h; done) | (cases h; exact ⟨_, _, _, rfl⟩)
theorem qa_copy_inl  {ls st : List qm_AV} {s : qm_Hp} {r : qm_Act} (h : qa_copy ls st s = some r) : ∃ x y z, r = .inl (x, y, z) := by
  unfold qa_copy at h
  repeat' split at h
  all_goals first | (cases h; done) | (cases h; exact ⟨_, _, _, rfl⟩)
theorem qa_slen_inl  {ls st : List qm_AV} {s : qm_Hp} {r : qm_Act} (h : qa_slen ls st s = some r) : ∃ x y z, r = .inl (x, y, z) := by
  unfold qa_slen at h
  repeat' split at h
  all_goals first | (cases h; done) | (cases h; exact ⟨_, _, _, rfl⟩)
theorem qa_char_inl  {ls st : List qm_AV} {s : qm_Hp} {r : qm_Act} (h : qa_char ls st s = some r) : ∃ x y z, r = .inl (x, y, z) := by
  unfold qa_char at h
  repeat' split at h
  all_goals first | (cases h; done) | (cases h; exact ⟨_, _, _, rfl⟩)
theorem qa_m2_inl (f : Int32 → Int32 → Int32) {ls st : List qm_AV} {s : qm_Hp} {r : qm_Act} (h : qa_m2 f ls st s = some r) : ∃ x y z, r = .inl (x, y, z) := by
  unfold qa_m2 at h
  repeat' split at h
  all_goals first | (cases h; done) | (cases h; exact ⟨_, _, _, rfl⟩)
theorem qa_lm2_inl (f : Int64 → Int64 → Int64) {ls st : List qm_AV} {s : qm_Hp} {r : qm_Act} (h : qa_lm2 f ls st s = some r) : ∃ x y z, r = .inl (x, y, z) := by
  unfold qa_lm2 at h
  repeat' split at h
  all_goals first | (cases h; done) | (cases h; exact ⟨_, _, _, rfl⟩)
theorem qm_ofInt_toInt {a : Int} (h0 : 0 ≤ a) (h1 : a < 100000) : (Int32.ofInt a).toInt = a := Int32.toInt_ofInt_of_le (by omega) (by omega)
theorem qm_sw_in : ∀ (bs : List Nat) (lo : Int) (x : Int32) (df : Nat), 0 ≤ lo → lo + bs.length < 100000 → ¬ x.toInt < lo → x.toInt < lo + bs.length → ∃ b, bs[(x.toInt - lo).toNat]? = some b ∧ qm_sw bs lo x df = b
  | [], lo, x, df, h0, h1, h2, h3 => by simp at h3; omega
  | b :: r, lo, x, df, h0, h1, h2, h3 => by
    simp only [List.length_cons] at h1 h3
    rw [qm_sw]
    by_cases hx : x = Int32.ofInt lo
    · rw [if_pos hx]
      refine ⟨b, ?_, rfl⟩
      have : x.toInt = lo := by rw [hx]; exact qm_ofInt_toInt h0 (by omega)
      rw [this]
      simp
    · rw [if_neg hx]
      have hne : x.toInt ≠ lo := fun z => hx (Int32.toInt_inj.mp (by rw [z, qm_ofInt_toInt h0 (by omega)]))
      obtain ⟨b', e1, e2⟩ := qm_sw_in r (lo + 1) x df (by omega) (by omega) (by omega) (by omega)
      refine ⟨b', ?_, e2⟩
      have : (x.toInt - lo).toNat = (x.toInt - (lo + 1)).toNat + 1 := by omega
      rw [this]
      simpa using e1
theorem qm_sw_out : ∀ (bs : List Nat) (lo : Int) (x : Int32) (df : Nat), 0 ≤ lo → lo + bs.length < 100000 → (x.toInt < lo ∨ lo + bs.length - 1 < x.toInt) → qm_sw bs lo x df = df
  | [], lo, x, df, h0, h1, h2 => rfl
  | b :: r, lo, x, df, h0, h1, h2 => by
    simp only [List.length_cons] at h1 h2
    have hx : ¬ x = Int32.ofInt lo := fun z => by
      have : x.toInt = lo := by rw [z]; exact qm_ofInt_toInt h0 (by omega)
      omega
    rw [qm_sw, if_neg hx]
    exact qm_sw_out r (lo + 1) x df (by omega) (by omega) (by omega)
theorem qm_lk_off (mi pc : Nat) (dflt : Int) (df : Nat) (x : Int32) (hdf : (pc : Int) + dflt = (qm_bpc mi df : Int)) : ∀ (bs : List Nat) (ps : List (Int × Int)), ps.map (fun o => (o.1, (pc : Int) + o.2)) = (qk_pairs bs).map (fun q => ((q.1 : Int), (qm_bpc mi q.2 : Int))) → (qk_pairs bs).all (fun q => decide (q.1 < 1000)) = true → bs.length % 2 = 0 → (pc : Int) + Op.lookupswitch.offset ps dflt x.toInt = (qm_bpc mi (qm_lk bs x df) : Int)
  | [], ps, h, _, _ => by
    cases ps with
    | nil => exact hdf
    | cons a r => simp [qk_pairs] at h
  | [k], ps, h, _, hl => by simp at hl
  | k :: b :: r, ps, h, ha, hl => by
    cases ps with
    | nil => simp [qk_pairs] at h
    | cons a ps =>
      obtain ⟨a1, a2⟩ := a
      simp only [qk_pairs, List.map_cons, List.cons.injEq, Prod.mk.injEq] at h
      simp only [qk_pairs, List.all_cons, Bool.and_eq_true, decide_eq_true_eq] at ha
      obtain ⟨⟨h1, h2⟩, h3⟩ := h
      rw [Op.lookupswitch.offset_cons, qm_lk]
      have hk : (Int32.ofNat k).toInt = (k : Int) := nI_toInt (by have := ha.1; omega)
      by_cases hx : x = Int32.ofNat k
      · rw [if_pos (by rw [hx, hk]; exact h1), if_pos hx]
        exact h2
      · rw [if_neg (fun z => hx (Int32.toInt_inj.mp (by rw [hk, ← h1]; exact z.symm))), if_neg hx]
        exact qm_lk_off mi pc dflt df x hdf r ps h3 ha.2 (by simp at hl; omega)
section QON
variable {p : Program} {l : Launch} {e : Env} {R : Room} {s : State} {m : MethodId} {args : Array Value} {below : List Frame} {meth : Method} {c : Code} {cells slots : Nat} {Q : State → Prop} {H : Heap} {locs : List Loc}
variable {d B0 sb sa sv L mi : Nat} {xs : Nat → Int32} {dC : Nat → ClassId} {dI : Nat → Nat → Nat} {cs : Nat × Nat × Nat × Nat × Nat} {pc n : Nat} {als : Array Slot} {ls st ls' st' : List qm_AV} {h h' : qm_Hp} {x : Instr}
theorem so_icmp (X : qm_Cx p R s m args c cells slots d mi B0 sb sa sv L xs dC dI cs) (hw : qm_Wd s B0 L xs dC dI cs h H locs) (hl : qm_Lo mi B0 sb sa als ls) (ho : qm_So st) {r : qm_Act} {c0 b0 : Nat} (hd : decode (mC mi) pc = .ok (.if_icmp (qk_cnd c0) (qk_off x), n)) (hn : n = 3) (ht : (pc : Int) + qk_off x = (qm_bpc mi b0 : Int)) (ha : qa_icmp [c0, b0] ls st h = some r) (k1 : ∀ (ls' st' : List qm_AV) (h' : qm_Hp), r = .inl (ls', st', h') → ∀ (H1 : Heap) (locs1 : List Loc) (als1 : Array Slot), qm_Wd s B0 L xs dC dI cs h' H1 locs1 → qm_Lo mi B0 sb sa als1 ls' → qm_So st' → W p l e R s m args below meth c H1 locs1 cells slots Q (F0 m (pc + n) als1 (st'.map (qm_cv B0 sb sa)))) (k2 : ∀ (b : Nat) (st' : List qm_AV), r = .inr (.inl (b, st')) → qm_So st' → W p l e R s m args below meth c H locs cells slots Q (F0 m (qm_bpc mi b) als (st'.map (qm_cv B0 sb sa)))) : W p l e R s m args below meth c H locs cells slots Q (F0 m pc als (st.map (qm_cv B0 sb sa))) := by
  subst hn
  unfold qa_icmp at ha
  rcases st with _ | ⟨v, _ | ⟨v2, t⟩⟩
  · cases ha
  · rcases v with v | v | ⟨q', i'⟩ <;> cases ha
  · rcases v with y | v | ⟨q', i'⟩
    · rcases v2 with x0 | v2 | ⟨q, i⟩
      · replace ha : (if qm_cond c0 x0 y = true then some (.inr (.inl (b0, t))) else some (.inl (ls, t, h)) : Option qm_Act) = some r := ha
        match c0, hd, ha with
        | 0, hd, ha =>
          simp only [qm_cond] at ha
          exact lv_icmp_eq X.1 X.2.1 hd ht (fun hc => k2 b0 t (by rw [decide_eq_true hc] at ha; exact (Option.some.inj ha).symm) ho.t.t) (fun hc => k1 ls t h (by rw [decide_eq_false hc] at ha; exact (Option.some.inj ha).symm) H locs als hw hl ho.t.t)
        | 1, hd, ha =>
          simp only [qm_cond] at ha
          exact lv_icmp_ne X.1 X.2.1 hd ht (fun hc => k2 b0 t (by rw [decide_eq_true hc] at ha; exact (Option.some.inj ha).symm) ho.t.t) (fun hc => k1 ls t h (by rw [decide_eq_false (fun z => z hc)] at ha; exact (Option.some.inj ha).symm) H locs als hw hl ho.t.t)
        | 2, hd, ha =>
          simp only [qm_cond] at ha
          exact lv_icmp_lt X.1 X.2.1 hd ht (fun hc => k2 b0 t (by rw [decide_eq_true hc] at ha; exact (Option.some.inj ha).symm) ho.t.t) (fun hc => k1 ls t h (by rw [decide_eq_false hc] at ha; exact (Option.some.inj ha).symm) H locs als hw hl ho.t.t)
        | 3, hd, ha =>
          simp only [qm_cond] at ha
          exact lv_icmp_ge X.1 X.2.1 hd ht (fun hc => k2 b0 t (by rw [decide_eq_true hc] at ha; exact (Option.some.inj ha).symm) ho.t.t) (fun hc => k1 ls t h (by rw [decide_eq_false hc] at ha; exact (Option.some.inj ha).symm) H locs als hw hl ho.t.t)
        | 4, hd, ha =>
          simp only [qm_cond] at ha
          exact lv_icmp_gt X.1 X.2.1 hd ht (fun hc => k2 b0 t (by rw [decide_eq_true hc] at ha; exact (Option.some.inj ha).symm) ho.t.t) (fun hc => k1 ls t h (by rw [decide_eq_false hc] at ha; exact (Option.some.inj ha).symm) H locs als hw hl ho.t.t)
        | _ + 5, hd, ha =>
          simp only [qm_cond] at ha
          exact lv_icmp_le X.1 X.2.1 hd ht (fun hc => k2 b0 t (by rw [decide_eq_true hc] at ha; exact (Option.some.inj ha).symm) ho.t.t) (fun hc => k1 ls t h (by rw [decide_eq_false hc] at ha; exact (Option.some.inj ha).symm) H locs als hw hl ho.t.t)
      · cases ha
      · cases ha
    · rcases v2 with v2 | v2 | ⟨q, i⟩ <;> cases ha
    · rcases v2 with v2 | v2 | ⟨q, i⟩ <;> cases ha
theorem so_if (X : qm_Cx p R s m args c cells slots d mi B0 sb sa sv L xs dC dI cs) (hw : qm_Wd s B0 L xs dC dI cs h H locs) (hl : qm_Lo mi B0 sb sa als ls) (ho : qm_So st) {r : qm_Act} {c0 b0 : Nat} (hd : decode (mC mi) pc = .ok (.ifCond (qk_cnd c0) (qk_off x), n)) (hn : n = 3) (ht : (pc : Int) + qk_off x = (qm_bpc mi b0 : Int)) (ha : qa_if [c0, b0] ls st h = some r) (k1 : ∀ (ls' st' : List qm_AV) (h' : qm_Hp), r = .inl (ls', st', h') → ∀ (H1 : Heap) (locs1 : List Loc) (als1 : Array Slot), qm_Wd s B0 L xs dC dI cs h' H1 locs1 → qm_Lo mi B0 sb sa als1 ls' → qm_So st' → W p l e R s m args below meth c H1 locs1 cells slots Q (F0 m (pc + n) als1 (st'.map (qm_cv B0 sb sa)))) (k2 : ∀ (b : Nat) (st' : List qm_AV), r = .inr (.inl (b, st')) → qm_So st' → W p l e R s m args below meth c H locs cells slots Q (F0 m (qm_bpc mi b) als (st'.map (qm_cv B0 sb sa)))) : W p l e R s m args below meth c H locs cells slots Q (F0 m pc als (st.map (qm_cv B0 sb sa))) := by
  subst hn
  unfold qa_if at ha
  rcases st with _ | ⟨v, t⟩
  · cases ha
  · rcases v with x0 | v | ⟨q', i'⟩
    · replace ha : (if qm_cond c0 x0 0 = true then some (.inr (.inl (b0, t))) else some (.inl (ls, t, h)) : Option qm_Act) = some r := ha
      match c0, hd, ha with
      | 0, hd, ha =>
        simp only [qm_cond] at ha
        exact lv_if_eq X.1 X.2.1 hd ht (fun hc => k2 b0 t (by rw [decide_eq_true hc] at ha; exact (Option.some.inj ha).symm) ho.t) (fun hc => k1 ls t h (by rw [decide_eq_false hc] at ha; exact (Option.some.inj ha).symm) H locs als hw hl ho.t)
      | 1, hd, ha =>
        simp only [qm_cond] at ha
        exact lv_if_ne X.1 X.2.1 hd ht (fun hc => k2 b0 t (by rw [decide_eq_true hc] at ha; exact (Option.some.inj ha).symm) ho.t) (fun hc => k1 ls t h (by rw [decide_eq_false (fun z => z hc)] at ha; exact (Option.some.inj ha).symm) H locs als hw hl ho.t)
      | 2, hd, ha =>
        simp only [qm_cond] at ha
        exact lv_if_lt X.1 X.2.1 hd ht (fun hc => k2 b0 t (by rw [decide_eq_true hc] at ha; exact (Option.some.inj ha).symm) ho.t) (fun hc => k1 ls t h (by rw [decide_eq_false hc] at ha; exact (Option.some.inj ha).symm) H locs als hw hl ho.t)
      | 3, hd, ha =>
        simp only [qm_cond] at ha
        exact lv_if_ge X.1 X.2.1 hd ht (fun hc => k2 b0 t (by rw [decide_eq_true hc] at ha; exact (Option.some.inj ha).symm) ho.t) (fun hc => k1 ls t h (by rw [decide_eq_false hc] at ha; exact (Option.some.inj ha).symm) H locs als hw hl ho.t)
      | 4, hd, ha =>
        simp only [qm_cond] at ha
        exact lv_if_gt X.1 X.2.1 hd ht (fun hc => k2 b0 t (by rw [decide_eq_true hc] at ha; exact (Option.some.inj ha).symm) ho.t) (fun hc => k1 ls t h (by rw [decide_eq_false hc] at ha; exact (Option.some.inj ha).symm) H locs als hw hl ho.t)
      | _ + 5, hd, ha =>
        simp only [qm_cond] at ha
        exact lv_if_le X.1 X.2.1 hd ht (fun hc => k2 b0 t (by rw [decide_eq_true hc] at ha; exact (Option.some.inj ha).symm) ho.t) (fun hc => k1 ls t h (by rw [decide_eq_false hc] at ha; exact (Option.some.inj ha).symm) H locs als hw hl ho.t)
    · cases ha
    · cases ha
theorem so_tsw (X : qm_Cx p R s m args c cells slots d mi B0 sb sa sv L xs dC dI cs) (hw : qm_Wd s B0 L xs dC dI cs h H locs) (hl : qm_Lo mi B0 sb sa als ls) (ho : qm_So st) {r : qm_Act} {df : Nat} {bs : List Nat} {lo : Int} (hd : decode (mC mi) pc = .ok (.tableswitch (qk_tsw x).1 (qk_tsw x).2.1 (qk_tsw x).2.2.1 (qk_tsw x).2.2.2, n)) (h1 : (qk_tsw x).2.1 = lo) (h2 : (qk_tsw x).2.2.1 = lo + bs.length - 1) (h3 : 0 ≤ lo) (h4 : bs.length < 1000) (h5 : lo < 1000) (h6 : (pc : Int) + (qk_tsw x).1 = (qm_bpc mi df : Int)) (h7 : (qk_tsw x).2.2.2.toList.map (fun o => (pc : Int) + o) = bs.map (fun b => (qm_bpc mi b : Int))) (ha : qa_tsw (df :: bs) lo st = some r) (k2 : ∀ (b : Nat) (st' : List qm_AV), r = .inr (.inl (b, st')) → qm_So st' → W p l e R s m args below meth c H locs cells slots Q (F0 m (qm_bpc mi b) als (st'.map (qm_cv B0 sb sa)))) : W p l e R s m args below meth c H locs cells slots Q (F0 m pc als (st.map (qm_cv B0 sb sa))) := by
  unfold qa_tsw at ha
  rcases st with _ | ⟨v, t⟩
  · cases ha
  · rcases v with x0 | v | ⟨q', i'⟩
    · have e : r = .inr (.inl (qm_sw bs lo x0 df, t)) := (Option.some.inj ha).symm
      have k3 := k2 _ t e ho.t
      rw [h1, h2] at hd
      by_cases hc : x0.toInt < lo ∨ lo + bs.length - 1 < x0.toInt
      · rw [qm_sw_out bs lo x0 df h3 (by omega) hc] at k3
        exact lv_tableOut X.1 X.2.1 hd hc h6 k3
      · obtain ⟨b, e1, e2⟩ := qm_sw_in bs lo x0 df h3 (by omega) (fun z => hc (Or.inl z)) (by have : ¬ lo + bs.length - 1 < x0.toInt := fun z => hc (Or.inr z); omega)
        rw [e2] at k3
        have h8 : ((qk_tsw x).2.2.2.toList.map (fun o => (pc : Int) + o))[(x0.toInt - lo).toNat]? = some (qm_bpc mi b : Int) := by rw [h7, List.getElem?_map, e1]; rfl
        rw [List.getElem?_map] at h8
        cases ho2 : (qk_tsw x).2.2.2.toList[(x0.toInt - lo).toNat]? with
        | none => rw [ho2] at h8; cases h8
        | some off =>
          rw [ho2] at h8
          exact lv_tableIn X.1 X.2.1 hd (fun z => hc (Or.inl z)) (fun z => hc (Or.inr z)) (by rw [← Array.getElem?_toList]; exact ho2) (Option.some.inj h8) k3
    · cases ha
    · cases ha
theorem so_lsw (X : qm_Cx p R s m args c cells slots d mi B0 sb sa sv L xs dC dI cs) (hw : qm_Wd s B0 L xs dC dI cs h H locs) (hl : qm_Lo mi B0 sb sa als ls) (ho : qm_So st) {r : qm_Act} {df : Nat} {bs : List Nat} (hd : decode (mC mi) pc = .ok (.lookupswitch (qk_lsw x).1 (qk_lsw x).2, n)) (h1 : ((qk_lsw x).2.toList.zip ((qk_lsw x).2.toList.drop 1)).all (fun (a, next) => a.1 < next.1) = true) (h2 : (pc : Int) + (qk_lsw x).1 = (qm_bpc mi df : Int)) (h3 : (qk_lsw x).2.toList.map (fun o => (o.1, (pc : Int) + o.2)) = (qk_pairs bs).map (fun q => ((q.1 : Int), (qm_bpc mi q.2 : Int)))) (h4 : bs.length % 2 = 0) (h5 : (qk_pairs bs).all (fun q => decide (q.1 < 1000)) = true) (ha : qa_lsw (df :: bs) st = some r) (k2 : ∀ (b : Nat) (st' : List qm_AV), r = .inr (.inl (b, st')) → qm_So st' → W p l e R s m args below meth c H locs cells slots Q (F0 m (qm_bpc mi b) als (st'.map (qm_cv B0 sb sa)))) : W p l e R s m args below meth c H locs cells slots Q (F0 m pc als (st.map (qm_cv B0 sb sa))) := by
  unfold qa_lsw at ha
  rcases st with _ | ⟨v, t⟩
  · cases ha
  · rcases v with x0 | v | ⟨q', i'⟩
    · have e : r = .inr (.inl (qm_lk bs x0 df, t)) := (Option.some.inj ha).symm
      exact lv_lookup X.1 X.2.1 hd h1 rfl (qm_lk_off mi pc _ df x0 h2 bs _ h3 h5 h4) (k2 _ t e ho.t)
    · cases ha
    · cases ha
theorem so_null (X : qm_Cx p R s m args c cells slots d mi B0 sb sa sv L xs dC dI cs) (hw : qm_Wd s B0 L xs dC dI cs h H locs) (hl : qm_Lo mi B0 sb sa als ls) (ho : qm_So st) {a : List Nat} (hd : decode (mC mi) pc = .ok (.ifnull (qk_off x), 3)) (ha : qa_null a ls st h = some (.inl (ls', st', h'))) (kk : ∀ (H1 : Heap) (locs1 : List Loc) (als1 : Array Slot), qm_Wd s B0 L xs dC dI cs h' H1 locs1 → qm_Lo mi B0 sb sa als1 ls' → qm_So st' → W p l e R s m args below meth c H1 locs1 cells slots Q (F0 m (pc + 3) als1 (st'.map (qm_cv B0 sb sa)))) : W p l e R s m args below meth c H locs cells slots Q (F0 m pc als (st.map (qm_cv B0 sb sa))) := by
  unfold qa_null at ha
  split at ha
  · next b q j t =>
    split at ha
    · cases ha
    · next hq =>
      cases ha
      have h0 : ∃ a : Nat, qm_cv B0 sb sa (qP q j) = .ref a := by
        simp only [qm_cv]
        rw [if_neg hq]
        split
        · exact ⟨_, rfl⟩
        · split <;> exact ⟨_, rfl⟩
      obtain ⟨a, ea⟩ := h0
      rw [List.map_cons, ea]
      exact lv_ifnull X.1 X.2.1 hd (kk H locs als hw hl ho.t)
  · cases ha
end QON
end
section
def ys_length : MethodName := ⟨"java/lang/String", "length", "()I"⟩
def ws_length : List Cond := Cond.code ys_length prog_12_method_54_code 1 (some .int) :: qm_tb
def ys_charAt : MethodName := ⟨"java/lang/String", "charAt", "(I)C"⟩
def ws_charAt : List Cond := Cond.code ys_charAt prog_12_method_56_code 2 (some .char) :: qm_tb
def ys_coder : MethodName := ⟨"java/lang/String", "coder", "()B"⟩
def ws_coder : List Cond := Cond.code ys_coder prog_12_method_152_code 1 (some .byte) :: qm_tb
def ys_isLatin1 : MethodName := ⟨"java/lang/String", "isLatin1", "()Z"⟩
def ws_isLatin1 : List Cond := Cond.code ys_isLatin1 prog_12_method_154_code 1 (some .boolean) :: qm_tb
def ys_check : MethodName := ⟨"java/lang/String", "checkIndex", "(II)V"⟩
def ws_check : List Cond := Cond.code ys_check prog_12_method_155_code 2 (none) :: qm_tb
def ys_latin : MethodName := ⟨"java/lang/StringLatin1", "charAt", "([BI)C"⟩
def ws_latin : List Cond := Cond.code ys_latin prog_13_method_2_code 2 (some .char) :: qm_tb
def ys_pre : MethodName := ⟨"jdk/internal/util/Preconditions", "checkIndex", "(IILjava/util/function/BiFunction;)I"⟩
def ws_pre : List Cond := Cond.code ys_pre prog_16_method_11_code 3 (some .int) :: qm_tb
theorem fs_compact : qm_Tb (Cond.fieldLink "java/lang/String" 38 "java/lang/String" "COMPACT_STRINGS" "Z") := ⟨qm_in2 210 rfl, rfl⟩
theorem fs_coder : qm_Tb (Cond.fieldLink "java/lang/String" 15 "java/lang/String" "coder" "B") := ⟨qm_in7 28 rfl, rfl⟩
theorem fs_value : qm_Tb (Cond.fieldLink "java/lang/String" 9 "java/lang/String" "value" "[B") := ⟨qm_in7 27 rfl, rfl⟩
theorem fs_fmt : qm_Tb (Cond.fieldLink "java/lang/String" 1053 "jdk/internal/util/Preconditions" "SIOOBE_FORMATTER" "Ljava/util/function/BiFunction;") := ⟨qm_in2 226 rfl, rfl⟩
theorem ml_coder : qm_Tb (Cond.methodLink "java/lang/String" 335 ys_coder) := ⟨qm_in2 206 rfl, rfl⟩
theorem ml_isLatin1 : qm_Tb (Cond.methodLink "java/lang/String" 492 ys_isLatin1) := ⟨qm_in2 216 rfl, rfl⟩
theorem ml_latin : qm_Tb (Cond.methodLink "java/lang/String" 495 ys_latin) := ⟨qm_in2 220 rfl, rfl⟩
theorem ml_check : qm_Tb (Cond.methodLink "java/lang/StringLatin1" 9 ys_check) := ⟨qm_in2 223 rfl, rfl⟩
theorem ml_pre : qm_Tb (Cond.methodLink "java/lang/String" 1059 ys_pre) := ⟨qm_in2 228 rfl, rfl⟩
theorem ml_length : qm_Tb (Cond.methodLink "WoodStack$Tokens" 51 ys_length) := ⟨qm_in2 202 rfl, rfl⟩
theorem ml_charAt : qm_Tb (Cond.methodLink "WoodStack$Tokens" 57 ys_charAt) := ⟨qm_in2 212 rfl, rfl⟩
theorem im_length : qm_Tb (Cond.instanceMethod ys_length) := ⟨qm_in2 203 rfl, rfl⟩
theorem se_length : qm_Tb (Cond.selects "java/lang/String" ys_length ys_length) := ⟨qm_in2 204 rfl, rfl⟩
theorem im_charAt : qm_Tb (Cond.instanceMethod ys_charAt) := ⟨qm_in2 213 rfl, rfl⟩
theorem se_charAt : qm_Tb (Cond.selects "java/lang/String" ys_charAt ys_charAt) := ⟨qm_in2 214 rfl, rfl⟩
theorem im_coder : qm_Tb (Cond.instanceMethod ys_coder) := ⟨qm_in2 207 rfl, rfl⟩
theorem se_coder : qm_Tb (Cond.selects "java/lang/String" ys_coder ys_coder) := ⟨qm_in2 208 rfl, rfl⟩
theorem im_isLatin1 : qm_Tb (Cond.instanceMethod ys_isLatin1) := ⟨qm_in2 217 rfl, rfl⟩
theorem se_isLatin1 : qm_Tb (Cond.selects "java/lang/String" ys_isLatin1 ys_isLatin1) := ⟨qm_in2 218 rfl, rfl⟩
theorem st_check : qm_Tb (Cond.static ys_check) := ⟨qm_in2 224 rfl, rfl⟩
theorem st_latin : qm_Tb (Cond.static ys_latin) := ⟨qm_in2 221 rfl, rfl⟩
theorem st_pre : qm_Tb (Cond.static ys_pre) := ⟨qm_in2 229 rfl, rfl⟩
theorem in_str : qm_Tb (Cond.initialized "java/lang/String") := ⟨qm_in1 11 rfl, rfl⟩
theorem in_lat : qm_Tb (Cond.initialized "java/lang/StringLatin1") := ⟨qm_in1 12 rfl, rfl⟩
theorem in_pre : qm_Tb (Cond.initialized "jdk/internal/util/Preconditions") := ⟨qm_in1 13 rfl, rfl⟩
theorem co_length : qm_Tb (Cond.code ys_length prog_12_method_54_code 1 (some .int)) := ⟨qm_in2 205 rfl, rfl⟩
theorem gd_length : GoodIn qm_tb ws_length := by
  intro w hw
  rcases List.mem_cons.mp hw with rfl | hw
  · exact ⟨co_length.tb, good_of_word co_length.2⟩
  · exact ⟨hw, good_of_word (List.mem_filter.mp hw).2⟩
theorem pd_length : ys_length.cls ≠ "java/lang/invoke/MethodHandle" ∧ ys_length.cls ≠ "java/lang/invoke/VarHandle" ∧ (parseMethodDescriptor ys_length.desc).map (fun d => d.parameters.length) = some 0 := by decide +kernel
theorem co_charAt : qm_Tb (Cond.code ys_charAt prog_12_method_56_code 2 (some .char)) := ⟨qm_in2 215 rfl, rfl⟩
theorem gd_charAt : GoodIn qm_tb ws_charAt := by
  intro w hw
  rcases List.mem_cons.mp hw with rfl | hw
  · exact ⟨co_charAt.tb, good_of_word co_charAt.2⟩
  · exact ⟨hw, good_of_word (List.mem_filter.mp hw).2⟩
theorem pd_charAt : ys_charAt.cls ≠ "java/lang/invoke/MethodHandle" ∧ ys_charAt.cls ≠ "java/lang/invoke/VarHandle" ∧ (parseMethodDescriptor ys_charAt.desc).map (fun d => d.parameters.length) = some 1 := by decide +kernel
theorem co_coder : qm_Tb (Cond.code ys_coder prog_12_method_152_code 1 (some .byte)) := ⟨qm_in2 209 rfl, rfl⟩
theorem gd_coder : GoodIn qm_tb ws_coder := by
  intro w hw
  rcases List.mem_cons.mp hw with rfl | hw
  · exact ⟨co_coder.tb, good_of_word co_coder.2⟩
  · exact ⟨hw, good_of_word (List.mem_filter.mp hw).2⟩
theorem pd_coder : ys_coder.cls ≠ "java/lang/invoke/MethodHandle" ∧ ys_coder.cls ≠ "java/lang/invoke/VarHandle" ∧ (parseMethodDescriptor ys_coder.desc).map (fun d => d.parameters.length) = some 0 := by decide +kernel
theorem co_isLatin1 : qm_Tb (Cond.code ys_isLatin1 prog_12_method_154_code 1 (some .boolean)) := ⟨qm_in2 219 rfl, rfl⟩
theorem gd_isLatin1 : GoodIn qm_tb ws_isLatin1 := by
  intro w hw
  rcases List.mem_cons.mp hw with rfl | hw
  · exact ⟨co_isLatin1.tb, good_of_word co_isLatin1.2⟩
  · exact ⟨hw, good_of_word (List.mem_filter.mp hw).2⟩
theorem pd_isLatin1 : ys_isLatin1.cls ≠ "java/lang/invoke/MethodHandle" ∧ ys_isLatin1.cls ≠ "java/lang/invoke/VarHandle" ∧ (parseMethodDescriptor ys_isLatin1.desc).map (fun d => d.parameters.length) = some 0 := by decide +kernel
theorem co_check : qm_Tb (Cond.code ys_check prog_12_method_155_code 2 (none)) := ⟨qm_in2 225 rfl, rfl⟩
theorem gd_check : GoodIn qm_tb ws_check := by
  intro w hw
  rcases List.mem_cons.mp hw with rfl | hw
  · exact ⟨co_check.tb, good_of_word co_check.2⟩
  · exact ⟨hw, good_of_word (List.mem_filter.mp hw).2⟩
theorem pd_check : ys_check.cls ≠ "java/lang/invoke/MethodHandle" ∧ ys_check.cls ≠ "java/lang/invoke/VarHandle" ∧ (parseMethodDescriptor ys_check.desc).map (fun d => d.parameters.length) = some 2 := by decide +kernel
theorem co_latin : qm_Tb (Cond.code ys_latin prog_13_method_2_code 2 (some .char)) := ⟨qm_in2 222 rfl, rfl⟩
theorem gd_latin : GoodIn qm_tb ws_latin := by
  intro w hw
  rcases List.mem_cons.mp hw with rfl | hw
  · exact ⟨co_latin.tb, good_of_word co_latin.2⟩
  · exact ⟨hw, good_of_word (List.mem_filter.mp hw).2⟩
theorem pd_latin : ys_latin.cls ≠ "java/lang/invoke/MethodHandle" ∧ ys_latin.cls ≠ "java/lang/invoke/VarHandle" ∧ (parseMethodDescriptor ys_latin.desc).map (fun d => d.parameters.length) = some 2 := by decide +kernel
theorem co_pre : qm_Tb (Cond.code ys_pre prog_16_method_11_code 3 (some .int)) := ⟨qm_in2 230 rfl, rfl⟩
theorem gd_pre : GoodIn qm_tb ws_pre := by
  intro w hw
  rcases List.mem_cons.mp hw with rfl | hw
  · exact ⟨co_pre.tb, good_of_word co_pre.2⟩
  · exact ⟨hw, good_of_word (List.mem_filter.mp hw).2⟩
theorem pd_pre : ys_pre.cls ≠ "java/lang/invoke/MethodHandle" ∧ ys_pre.cls ≠ "java/lang/invoke/VarHandle" ∧ (parseMethodDescriptor ys_pre.desc).map (fun d => d.parameters.length) = some 3 := by decide +kernel
theorem qs_wk {B0 : Nat} {H0 H : Heap} {locs : List Loc} (h : va_S (fun _ => False) H0 H locs) : va_S (fun q => B0 ≤ q) H0 H locs := ⟨h.1, fun q h1 _ => h.2.1 q h1 (fun z => z), fun l hl => absurd (h.2.2 l hl) (fun z => z)⟩
theorem qm_strB : ∀ j, j < 149 → (qm_str.map Int32.ofNat).getD j 0 = Int32.ofNat (qm_str.getD j 0) ∧ qm_str.getD j 0 < 128 := by decide +kernel
theorem qm_strL : qm_str.length = 149 := by decide +kernel
theorem js_coder {B0 sb sa sv L : Nat} {xs : Nat → Int32} {dC : Nat → ClassId} {dI : Nat → Nat → Nat} {cs : Nat × Nat × Nat × Nat × Nat} (l : Launch)  : Met l ys_coder ws_coder ({ frames := 0, cells := 0, slots := 0, locals := 0 } : Room) (va_Pc [.ref sa] (fun U => qm_Env B0 sb sa sv L xs dC dI cs U)) (va_Qi (fun r (_ : Unit) => r = 0) (fun _ _ => True) (fun _ => False)) 0 0 (fun _ => False) := by
  refine Met.ofW (cc := prog_12_method_152_code) (maxL := 1) (ret := some .byte) (by decide +kernel) rfl ?_
  intro p e s m args below meth c s₁ B hml hv
  obtain ⟨rfl, hE⟩ := hv
  have hx := B.exec
  have hb := B.bytes
  have hr := B.returns
  have hlocks := B.notSynchronized
  have hts0 := atoms_spec (ws := ws_coder) B.pre
  have hts : ∀ w ∈ qm_tb, w.before _ s = true := fun w hw => hts0 w (List.mem_cons_of_mem _ hw)
  have hown : s.vm.findClass "java/lang/String" = some m.cls := findClass_of_methodNamed B.named
  have hS0 : va_S (fun _ => False) s.heap s.heap [] := va_S.rf
  have hS : va_S (fun q => B0 ≤ q) s.heap s.heap [] := va_S.rf
  have hl := lv_entry ([.ref sa]) (n := 1) (Nat.le_of_ble_eq_true rfl)
  rw [lg_entry_eq]
  generalize (lg_sl ([.ref sa]) ++ List.replicate (1 - (lg_sl ([.ref sa])).length) Slot.unset).toArray = ls at hl ⊢
  have hl : lv_has ls 1 ([(0, .ref sa)]) := hl
  refine va_gets hx hb hE.2.2.2.2.2.2.2.2.1 hS hown (hts _ fs_compact.tb) (fun _ h => h) (show decode prog_12_method_152_code 0 = .ok (.getstatic 38, 3) by decide +kernel) ?_
  refine lv_if_eq (tgt := 13) hx hb (show decode prog_12_method_152_code 3 = .ok (.ifCond .eq 10, 3) by decide +kernel) (by decide) (fun c => absurd c (by decide)) (fun _ => ?_)
  refine lv_aload_n hx hb (show decode prog_12_method_152_code 6 = .ok (.aload_n 0, 1) by decide +kernel) rfl (lv_at hl 0 rfl) ?_
  refine vk_getf hx hb (hE.2.2.2.2.2.2.2.1.1 0 (by decide)).2.1 hS hown (hts _ fs_coder.tb) (fun _ h => h) (show decode prog_12_method_152_code 7 = .ok (.getfield 15, 3) by decide +kernel) ?_
  refine lv_goto (tgt := 14) hx hb (show decode prog_12_method_152_code 10 = .ok (.goto 4, 3) by decide +kernel) (by decide) ?_
  exact W.zret hx hb hr rfl (fun t ht _ => ⟨⟨0, (), rfl, rfl, trivial⟩, hS0.F ht⟩) (fun q hq => by cases hq) (show decode prog_12_method_152_code 14 = .ok (.ireturn, 1) by decide +kernel)
theorem js_isLatin1 {B0 sb sa sv L : Nat} {xs : Nat → Int32} {dC : Nat → ClassId} {dI : Nat → Nat → Nat} {cs : Nat × Nat × Nat × Nat × Nat} (l : Launch)  : Met l ys_isLatin1 ws_isLatin1 ({ frames := 0, cells := 0, slots := 0, locals := 0 } : Room) (va_Pc [.ref sa] (fun U => qm_Env B0 sb sa sv L xs dC dI cs U)) (va_Qi (fun r (_ : Unit) => r = 1) (fun _ _ => True) (fun _ => False)) 0 0 (fun _ => False) := by
  refine Met.ofW (cc := prog_12_method_154_code) (maxL := 1) (ret := some .boolean) (by decide +kernel) rfl ?_
  intro p e s m args below meth c s₁ B hml hv
  obtain ⟨rfl, hE⟩ := hv
  have hx := B.exec
  have hb := B.bytes
  have hr := B.returns
  have hlocks := B.notSynchronized
  have hts0 := atoms_spec (ws := ws_isLatin1) B.pre
  have hts : ∀ w ∈ qm_tb, w.before _ s = true := fun w hw => hts0 w (List.mem_cons_of_mem _ hw)
  have hown : s.vm.findClass "java/lang/String" = some m.cls := findClass_of_methodNamed B.named
  have hS0 : va_S (fun _ => False) s.heap s.heap [] := va_S.rf
  have hS : va_S (fun q => B0 ≤ q) s.heap s.heap [] := va_S.rf
  have hl := lv_entry ([.ref sa]) (n := 1) (Nat.le_of_ble_eq_true rfl)
  rw [lg_entry_eq]
  generalize (lg_sl ([.ref sa]) ++ List.replicate (1 - (lg_sl ([.ref sa])).length) Slot.unset).toArray = ls at hl ⊢
  have hl : lv_has ls 1 ([(0, .ref sa)]) := hl
  refine va_gets hx hb hE.2.2.2.2.2.2.2.2.1 hS hown (hts _ fs_compact.tb) (fun _ h => h) (show decode prog_12_method_154_code 0 = .ok (.getstatic 38, 3) by decide +kernel) ?_
  refine lv_if_eq (tgt := 17) hx hb (show decode prog_12_method_154_code 3 = .ok (.ifCond .eq 14, 3) by decide +kernel) (by decide) (fun c => absurd c (by decide)) (fun _ => ?_)
  refine lv_aload_n hx hb (show decode prog_12_method_154_code 6 = .ok (.aload_n 0, 1) by decide +kernel) rfl (lv_at hl 0 rfl) ?_
  refine vk_getf hx hb (hE.2.2.2.2.2.2.2.1.1 0 (by decide)).2.1 hS hown (hts _ fs_coder.tb) (fun _ h => h) (show decode prog_12_method_154_code 7 = .ok (.getfield 15, 3) by decide +kernel) ?_
  refine lv_if_ne (tgt := 17) hx hb (show decode prog_12_method_154_code 10 = .ok (.ifCond .ne 7, 3) by decide +kernel) (by decide) (fun c => absurd rfl c) (fun _ => ?_)
  refine lv_iconst (v := 1) hx hb (show decode prog_12_method_154_code 13 = .ok (.iconst 1, 1) by decide +kernel) (by decide) ?_
  refine lv_goto (tgt := 18) hx hb (show decode prog_12_method_154_code 14 = .ok (.goto 4, 3) by decide +kernel) (by decide) ?_
  exact W.zret hx hb hr rfl (fun t ht _ => ⟨⟨1, (), rfl, rfl, trivial⟩, hS0.F ht⟩) (fun q hq => by cases hq) (show decode prog_12_method_154_code 18 = .ok (.ireturn, 1) by decide +kernel)
theorem js_pre {B0 sb sa sv L : Nat} {xs : Nat → Int32} {dC : Nat → ClassId} {dI : Nat → Nat → Nat} {cs : Nat × Nat × Nat × Nat × Nat} (l : Launch) {i n : Int32} {v : Value} (hv : v = .null ∨ ∃ a, v = .ref a) (h0 : ¬ i < 0) (h1 : i < n) : Met l ys_pre ws_pre ({ frames := 0, cells := 0, slots := 0, locals := 0 } : Room) (va_Pc [.int i, .int n, v] (fun U => qm_Env B0 sb sa sv L xs dC dI cs U)) (va_Qi (fun r (_ : Unit) => r = i) (fun _ _ => True) (fun _ => False)) 0 0 (fun _ => False) := by
  refine Met.ofW (cc := prog_16_method_11_code) (maxL := 3) (ret := some .int) (by decide +kernel) rfl ?_
  intro p e s m args below meth c s₁ B hml hv
  obtain ⟨rfl, hE⟩ := hv
  have hx := B.exec
  have hb := B.bytes
  have hr := B.returns
  have hlocks := B.notSynchronized
  have hts0 := atoms_spec (ws := ws_pre) B.pre
  have hts : ∀ w ∈ qm_tb, w.before _ s = true := fun w hw => hts0 w (List.mem_cons_of_mem _ hw)
  have hown : s.vm.findClass "jdk/internal/util/Preconditions" = some m.cls := findClass_of_methodNamed B.named
  have hS0 : va_S (fun _ => False) s.heap s.heap [] := va_S.rf
  have hS : va_S (fun q => B0 ≤ q) s.heap s.heap [] := va_S.rf
  have hl := lv_entry ([.int i, .int n, v]) (n := 3) (by rcases hv with rfl | ⟨a, rfl⟩ <;> exact Nat.le_of_ble_eq_true rfl)
  rw [lg_entry_eq]
  generalize (lg_sl ([.int i, .int n, v]) ++ List.replicate (3 - (lg_sl ([.int i, .int n, v])).length) Slot.unset).toArray = ls at hl ⊢
  have hl : lv_has ls 3 ([(0, .int i), (1, .int n), (2, v)]) := hl
  refine lv_iload_n hx hb (show decode prog_16_method_11_code 0 = .ok (.iload_n 0, 1) by decide +kernel) rfl (lv_at hl 0 rfl) ?_
  refine lv_if_lt (tgt := 9) hx hb (show decode prog_16_method_11_code 1 = .ok (.ifCond .lt 8, 3) by decide +kernel) (by decide) (fun c => absurd c h0) (fun _ => ?_)
  refine lv_iload_n hx hb (show decode prog_16_method_11_code 4 = .ok (.iload_n 0, 1) by decide +kernel) rfl (lv_at hl 0 rfl) ?_
  refine lv_iload_n hx hb (show decode prog_16_method_11_code 5 = .ok (.iload_n 1, 1) by decide +kernel) rfl (lv_at hl 1 rfl) ?_
  refine lv_icmp_lt (tgt := 16) hx hb (show decode prog_16_method_11_code 6 = .ok (.if_icmp .lt 10, 3) by decide +kernel) (by decide) (fun _ => ?_) (fun c => absurd h1 c)
  refine lv_iload_n hx hb (show decode prog_16_method_11_code 16 = .ok (.iload_n 0, 1) by decide +kernel) rfl (lv_at hl 0 rfl) ?_
  exact W.iret hx hb hr (fun t ht _ => ⟨⟨i, (), rfl, rfl, trivial⟩, hS0.F ht⟩) (fun q hq => by cases hq) (show decode prog_16_method_11_code 17 = .ok (.ireturn, 1) by decide +kernel)
theorem js_check {B0 sb sa sv L : Nat} {xs : Nat → Int32} {dC : Nat → ClassId} {dI : Nat → Nat → Nat} {cs : Nat × Nat × Nat × Nat × Nat} (l : Launch) {i n : Int32} (h0 : ¬ i < 0) (h1 : i < n) : Met l ys_check ws_check ({ frames := 1, cells := 0, slots := 0, locals := 22 } : Room) (va_Pc [.int i, .int n] (fun U => qm_Env B0 sb sa sv L xs dC dI cs U)) (va_Qv (fun (_ : Unit) => True) (fun _ _ => True) (fun _ => False)) 0 0 (fun _ => False) := by
  refine Met.ofW (cc := prog_12_method_155_code) (maxL := 2) (ret := none) (by decide +kernel) rfl ?_
  intro p e s m args below meth c s₁ B hml hv
  obtain ⟨rfl, hE⟩ := hv
  have hx := B.exec
  have hb := B.bytes
  have hr := B.returns
  have hlocks := B.notSynchronized
  have hts0 := atoms_spec (ws := ws_check) B.pre
  have hts : ∀ w ∈ qm_tb, w.before _ s = true := fun w hw => hts0 w (List.mem_cons_of_mem _ hw)
  have hown : s.vm.findClass "java/lang/String" = some m.cls := findClass_of_methodNamed B.named
  have hS0 : va_S (fun _ => False) s.heap s.heap [] := va_S.rf
  have hS : va_S (fun q => B0 ≤ q) s.heap s.heap [] := va_S.rf
  have hl := lv_entry ([.int i, .int n]) (n := 2) (Nat.le_of_ble_eq_true rfl)
  rw [lg_entry_eq]
  generalize (lg_sl ([.int i, .int n]) ++ List.replicate (2 - (lg_sl ([.int i, .int n])).length) Slot.unset).toArray = ls at hl ⊢
  have hl : lv_has ls 2 ([(0, .int i), (1, .int n)]) := hl
  obtain ⟨v, hv, hz⟩ := hE.2.2.2.2.2.2.2.2.2
  refine lv_iload_n hx hb (show decode prog_12_method_155_code 0 = .ok (.iload_n 0, 1) by decide +kernel) rfl (lv_at hl 0 rfl) ?_
  refine lv_iload_n hx hb (show decode prog_12_method_155_code 1 = .ok (.iload_n 1, 1) by decide +kernel) rfl (lv_at hl 1 rfl) ?_
  refine va_gets hx hb hz hS hown (hts _ fs_fmt.tb) (fun _ h => h) (show decode prog_12_method_155_code 2 = .ok (.getstatic 1053, 3) by decide +kernel) ?_
  refine va_calli (va_runS (As := [.int i, .int n, v]) (rest := []) ⟨hx, hb, hml, hown, hts⟩ (js_pre (sb := sb) (sa := sa) (sv := sv) (L := L) (xs := xs) (dC := dC) (dI := dI) (cs := cs) l hv h0 h1) ⟨callB_of 3 hts gd_pre rfl rfl rfl (hts _ in_pre.tb) (hts _ ml_pre.tb) pd_pre ⟨Nat.le_of_ble_eq_true rfl, Nat.le_of_ble_eq_true rfl⟩, hts _ st_pre.tb⟩ ⟨fun a U g mk q => ⟨q.1, qm_Env.to (U := U) rfl rfl q.2⟩, fun U hU hW => ⟨rfl, qm_Env.warm hW (by rw [hU]; exact Nat.le_refl _) (fun q _ _ => by rw [hU]) hE⟩⟩ rfl rfl hl.1 rfl (Nat.le_of_ble_eq_true rfl) (show decode prog_12_method_155_code 5 = .ok (.invokestatic 1059, 3) by decide +kernel) ⟨Nat.le_of_ble_eq_true rfl, Nat.le_of_ble_eq_true rfl⟩) hS0 (fun q _ z => z) (fun q z => z) (fun r u t H1 locs1 ht al hp hB hsz hk hS0 => ?_)
  have hS := qs_wk (B0 := B0) hS0
  refine lv_pop hx hb (show decode prog_12_method_155_code 8 = .ok (.pop, 1) by decide +kernel) rfl ?_
  exact W.vret hx hb hr (fun t ht _ => ⟨⟨(), rfl, trivial, trivial⟩, hS0.F ht⟩) hS0.2.2 (show decode prog_12_method_155_code 9 = .ok (.return_, 1) by decide +kernel)
theorem js_latin {B0 sb sa sv L : Nat} {xs : Nat → Int32} {dC : Nat → ClassId} {dI : Nat → Nat → Nat} {cs : Nat × Nat × Nat × Nat × Nat} (l : Launch) {j : Nat} (hj : j < 149) : Met l ys_latin ws_latin ({ frames := 2, cells := 0, slots := 0, locals := 43 } : Room) (va_Pc [.ref sv, .int (nI j)] (fun U => qm_Env B0 sb sa sv L xs dC dI cs U)) (va_Qi (fun r (_ : Unit) => r = Int32.ofNat (qm_str.getD j 0)) (fun _ _ => True) (fun _ => False)) 0 0 (fun _ => False) := by
  refine Met.ofW (cc := prog_13_method_2_code) (maxL := 2) (ret := some .char) (by decide +kernel) rfl ?_
  intro p e s m args below meth c s₁ B hml hv
  obtain ⟨rfl, hE⟩ := hv
  have hx := B.exec
  have hb := B.bytes
  have hr := B.returns
  have hlocks := B.notSynchronized
  have hts0 := atoms_spec (ws := ws_latin) B.pre
  have hts : ∀ w ∈ qm_tb, w.before _ s = true := fun w hw => hts0 w (List.mem_cons_of_mem _ hw)
  have hown : s.vm.findClass "java/lang/StringLatin1" = some m.cls := findClass_of_methodNamed B.named
  have hS0 : va_S (fun _ => False) s.heap s.heap [] := va_S.rf
  have hS : va_S (fun q => B0 ≤ q) s.heap s.heap [] := va_S.rf
  have hl := lv_entry ([.ref sv, .int (nI j)]) (n := 2) (Nat.le_of_ble_eq_true rfl)
  rw [lg_entry_eq]
  generalize (lg_sl ([.ref sv, .int (nI j)]) ++ List.replicate (2 - (lg_sl ([.ref sv, .int (nI j)])).length) Slot.unset).toArray = ls at hl ⊢
  have hl : lv_has ls 2 ([(0, .ref sv), (1, .int (nI j))]) := hl
  have hT := (hE.2.2.2.2.2.2.2.1.1 0 (by decide)).2.2.2
  have hT : va_T .byte sv 149 (fun a => .int ((qm_str.map Int32.ofNat).getD a 0)) (fun q => B0 ≤ q) s s.heap := by
    have h9 := hT
    simp only [List.getD_cons_zero, qm_strL] at h9
    exact h9
  refine lv_iload_n hx hb (show decode prog_13_method_2_code 0 = .ok (.iload_n 1, 1) by decide +kernel) rfl (lv_at hl 1 rfl) ?_
  refine lv_aload_n hx hb (show decode prog_13_method_2_code 1 = .ok (.aload_n 0, 1) by decide +kernel) rfl (lv_at hl 0 rfl) ?_
  refine va_tlen hx hb hT hS (v := 149) rfl (show decode prog_13_method_2_code 2 = .ok (.arraylength, 1) by decide +kernel) ?_
  refine va_callv (va_runS (As := [.int (nI j), .int 149]) (rest := []) ⟨hx, hb, hml, hown, hts⟩ (js_check (sb := sb) (sa := sa) (sv := sv) (L := L) (xs := xs) (dC := dC) (dI := dI) (cs := cs) l (nI_pos (by omega)) (nI_lt hj (by decide))) ⟨callB_of 2 hts gd_check rfl rfl rfl (hts _ in_str.tb) (hts _ ml_check.tb) pd_check ⟨Nat.le_of_ble_eq_true rfl, Nat.le_of_ble_eq_true rfl⟩, hts _ st_check.tb⟩ ⟨fun a U g mk q => ⟨q.1, qm_Env.to (U := U) rfl rfl q.2⟩, fun U hU hW => ⟨rfl, qm_Env.warm hW (by rw [hU]; exact Nat.le_refl _) (fun q _ _ => by rw [hU]) hE⟩⟩ rfl rfl hl.1 rfl (Nat.le_of_ble_eq_true rfl) (show decode prog_13_method_2_code 3 = .ok (.invokestatic 9, 3) by decide +kernel) ⟨Nat.le_of_ble_eq_true rfl, Nat.le_of_ble_eq_true rfl⟩) hS0 (fun q _ z => z) (fun q z => z) (fun u t H1 locs1 ht al hp hB hsz hk hS0 => ?_)
  have hS := qs_wk (B0 := B0) hS0
  refine lv_aload_n hx hb (show decode prog_13_method_2_code 6 = .ok (.aload_n 0, 1) by decide +kernel) rfl (lv_at hl 0 rfl) ?_
  refine lv_iload_n hx hb (show decode prog_13_method_2_code 7 = .ok (.iload_n 1, 1) by decide +kernel) rfl (lv_at hl 1 rfl) ?_
  refine va_tb hx hb hT hS (i := nI j) (vp_in_nI hj (by decide)) rfl (show decode prog_13_method_2_code 8 = .ok (.baload, 1) by decide +kernel) ?_
  refine lv_sipush (v := 255) hx hb (show decode prog_13_method_2_code 9 = .ok (.sipush 255, 3) by decide +kernel) (by decide) ?_
  refine lv_iand hx hb (show decode prog_13_method_2_code 12 = .ok (.iand, 1) by decide +kernel) ?_
  refine lv_i2c hx hb (show decode prog_13_method_2_code 13 = .ok (.i2c, 1) by decide +kernel) rfl ?_
  rw [nI_clamp (by omega), (qm_strB j hj).1]
  have hlt := (qm_strB j hj).2
  generalize qm_str.getD j 0 = w at hlt ⊢
  have hv : ((Int32.ofNat w &&& 255).toUInt32 % 65536).toInt32 = Int32.ofNat w := by
    have : ∀ a, a < 128 → ((Int32.ofNat a &&& 255).toUInt32 % 65536).toInt32 = Int32.ofNat a := by decide +kernel
    exact this w hlt
  rw [hv]
  have hn : narrow .char (.int (Int32.ofNat w)) = .int (Int32.ofNat w) := (pk_charN (q := w) (by omega)).1
  exact W.zret hx hb hr hn (fun t ht _ => ⟨⟨_, (), rfl, rfl, trivial⟩, hS0.F ht⟩) hS0.2.2 (show decode prog_13_method_2_code 14 = .ok (.ireturn, 1) by decide +kernel)
theorem js_charAt {B0 sb sa sv L : Nat} {xs : Nat → Int32} {dC : Nat → ClassId} {dI : Nat → Nat → Nat} {cs : Nat × Nat × Nat × Nat × Nat} (l : Launch) {j : Nat} (hj : j < 149) : Met l ys_charAt ws_charAt ({ frames := 3, cells := 0, slots := 0, locals := 64 } : Room) (va_Pc [.ref sa, .int (nI j)] (fun U => qm_Env B0 sb sa sv L xs dC dI cs U)) (va_Qi (fun r (_ : Unit) => r = Int32.ofNat (qm_str.getD j 0)) (fun _ _ => True) (fun _ => False)) 0 0 (fun _ => False) := by
  refine Met.ofW (cc := prog_12_method_56_code) (maxL := 2) (ret := some .char) (by decide +kernel) rfl ?_
  intro p e s m args below meth c s₁ B hml hv
  obtain ⟨rfl, hE⟩ := hv
  have hx := B.exec
  have hb := B.bytes
  have hr := B.returns
  have hlocks := B.notSynchronized
  have hts0 := atoms_spec (ws := ws_charAt) B.pre
  have hts : ∀ w ∈ qm_tb, w.before _ s = true := fun w hw => hts0 w (List.mem_cons_of_mem _ hw)
  have hown : s.vm.findClass "java/lang/String" = some m.cls := findClass_of_methodNamed B.named
  have hS0 : va_S (fun _ => False) s.heap s.heap [] := va_S.rf
  have hS : va_S (fun q => B0 ≤ q) s.heap s.heap [] := va_S.rf
  have hl := lv_entry ([.ref sa, .int (nI j)]) (n := 2) (Nat.le_of_ble_eq_true rfl)
  rw [lg_entry_eq]
  generalize (lg_sl ([.ref sa, .int (nI j)]) ++ List.replicate (2 - (lg_sl ([.ref sa, .int (nI j)])).length) Slot.unset).toArray = ls at hl ⊢
  have hl : lv_has ls 2 ([(0, .ref sa), (1, .int (nI j))]) := hl
  refine lv_aload_n hx hb (show decode prog_12_method_56_code 0 = .ok (.aload_n 0, 1) by decide +kernel) rfl (lv_at hl 0 rfl) ?_
  refine va_calli (va_runV (As := []) (rest := []) ⟨hx, hb, hml, hown, hts⟩ (js_isLatin1 (sb := sb) (sa := sa) (sv := sv) (L := L) (xs := xs) (dC := dC) (dI := dI) (cs := cs) l) ⟨callB_of 0 hts gd_isLatin1 rfl rfl rfl (hts _ in_str.tb) (hts _ ml_isLatin1.tb) pd_isLatin1 ⟨Nat.le_of_ble_eq_true rfl, Nat.le_of_ble_eq_true rfl⟩, hts _ im_isLatin1.tb, hts _ se_isLatin1.tb⟩ ⟨fun a U g mk q => ⟨q.1, qm_Env.to (U := U) rfl rfl q.2⟩, vk_recv (i := 0) hE.2.2.2.2.2.2.2.1 (by decide) hS, fun U hU hW => ⟨rfl, qm_Env.warm hW (by rw [hU]; exact Nat.le_refl _) (fun q _ _ => by rw [hU]) hE⟩⟩ rfl rfl hl.1 rfl (Nat.le_of_ble_eq_true rfl) (show decode prog_12_method_56_code 1 = .ok (.invokevirtual 492, 3) by decide +kernel) ⟨Nat.le_of_ble_eq_true rfl, Nat.le_of_ble_eq_true rfl⟩) hS0 (fun q _ z => z) (fun q z => z) (fun r u t H1 locs1 ht al hp hB hsz hk hS0 => ?_)
  have hS1 := qs_wk (B0 := B0) hS0
  have hp : r = 1 := hp
  subst hp
  refine lv_if_eq (tgt := 16) hx hb (show decode prog_12_method_56_code 4 = .ok (.ifCond .eq 12, 3) by decide +kernel) (by decide) (fun c => absurd c (by decide)) (fun _ => ?_)
  refine lv_aload_n hx hb (show decode prog_12_method_56_code 7 = .ok (.aload_n 0, 1) by decide +kernel) rfl (lv_at hl 0 rfl) ?_
  refine vk_getf hx hb (hE.2.2.2.2.2.2.2.1.1 0 (by decide)).2.2.1 hS1 hown (hts _ fs_value.tb) (fun _ h => h) (show decode prog_12_method_56_code 8 = .ok (.getfield 9, 3) by decide +kernel) ?_
  refine lv_iload_n hx hb (show decode prog_12_method_56_code 11 = .ok (.iload_n 1, 1) by decide +kernel) rfl (lv_at hl 1 rfl) ?_
  refine va_calli (va_runS (As := [.ref sv, .int (nI j)]) (rest := []) ⟨hx, hb, hml, hown, hts⟩ (js_latin (sb := sb) (sa := sa) (sv := sv) (L := L) (xs := xs) (dC := dC) (dI := dI) (cs := cs) l hj) ⟨callB_of 2 hts gd_latin rfl rfl rfl (hts _ in_lat.tb) (hts _ ml_latin.tb) pd_latin ⟨Nat.le_of_ble_eq_true rfl, Nat.le_of_ble_eq_true rfl⟩, hts _ st_latin.tb⟩ ⟨fun a U g mk q => ⟨q.1, qm_Env.to (U := U) rfl rfl q.2⟩, fun U hU hW => ⟨rfl, qm_Env.warm hW (by rw [hU]; exact hS1.1) (fun q h1 h2 => by rw [hU]; exact hS1.2.1 q h1 h2) hE⟩⟩ rfl rfl hl.1 rfl (Nat.le_of_ble_eq_true rfl) (show decode prog_12_method_56_code 12 = .ok (.invokestatic 495, 3) by decide +kernel) ⟨Nat.le_of_ble_eq_true rfl, Nat.le_of_ble_eq_true rfl⟩) hS0 (fun q _ z => z) (fun q z => z) (fun r u t H2 locs2 ht al hp hB hsz hk hS0 => ?_)
  have hS := qs_wk (B0 := B0) hS0
  have hp : r = Int32.ofNat (qm_str.getD j 0) := hp
  subst hp
  have hn : narrow .char (.int (Int32.ofNat (qm_str.getD j 0))) = .int (Int32.ofNat (qm_str.getD j 0)) := (pk_charN (q := qm_str.getD j 0) (by have := (qm_strB j hj).2; omega)).1
  exact W.zret hx hb hr hn (fun t ht _ => ⟨⟨_, (), rfl, rfl, trivial⟩, hS0.F ht⟩) hS0.2.2 (show decode prog_12_method_56_code 15 = .ok (.ireturn, 1) by decide +kernel)
theorem js_length {B0 sb sa sv L : Nat} {xs : Nat → Int32} {dC : Nat → ClassId} {dI : Nat → Nat → Nat} {cs : Nat × Nat × Nat × Nat × Nat} (l : Launch)  : Met l ys_length ws_length ({ frames := 1, cells := 0, slots := 0, locals := 20 } : Room) (va_Pc [.ref sa] (fun U => qm_Env B0 sb sa sv L xs dC dI cs U)) (va_Qi (fun r (_ : Unit) => r = 149) (fun _ _ => True) (fun _ => False)) 0 0 (fun _ => False) := by
  refine Met.ofW (cc := prog_12_method_54_code) (maxL := 1) (ret := some .int) (by decide +kernel) rfl ?_
  intro p e s m args below meth c s₁ B hml hv
  obtain ⟨rfl, hE⟩ := hv
  have hx := B.exec
  have hb := B.bytes
  have hr := B.returns
  have hlocks := B.notSynchronized
  have hts0 := atoms_spec (ws := ws_length) B.pre
  have hts : ∀ w ∈ qm_tb, w.before _ s = true := fun w hw => hts0 w (List.mem_cons_of_mem _ hw)
  have hown : s.vm.findClass "java/lang/String" = some m.cls := findClass_of_methodNamed B.named
  have hS0 : va_S (fun _ => False) s.heap s.heap [] := va_S.rf
  have hS : va_S (fun q => B0 ≤ q) s.heap s.heap [] := va_S.rf
  have hl := lv_entry ([.ref sa]) (n := 1) (Nat.le_of_ble_eq_true rfl)
  rw [lg_entry_eq]
  generalize (lg_sl ([.ref sa]) ++ List.replicate (1 - (lg_sl ([.ref sa])).length) Slot.unset).toArray = ls at hl ⊢
  have hl : lv_has ls 1 ([(0, .ref sa)]) := hl
  have hT := (hE.2.2.2.2.2.2.2.1.1 0 (by decide)).2.2.2
  have hT : va_T .byte sv 149 (fun a => .int ((qm_str.map Int32.ofNat).getD a 0)) (fun q => B0 ≤ q) s s.heap := by
    have h9 := hT
    simp only [List.getD_cons_zero, qm_strL] at h9
    exact h9
  refine lv_aload_n hx hb (show decode prog_12_method_54_code 0 = .ok (.aload_n 0, 1) by decide +kernel) rfl (lv_at hl 0 rfl) ?_
  refine vk_getf hx hb (hE.2.2.2.2.2.2.2.1.1 0 (by decide)).2.2.1 hS hown (hts _ fs_value.tb) (fun _ h => h) (show decode prog_12_method_54_code 1 = .ok (.getfield 9, 3) by decide +kernel) ?_
  refine va_tlen hx hb hT hS (v := 149) rfl (show decode prog_12_method_54_code 4 = .ok (.arraylength, 1) by decide +kernel) ?_
  refine lv_aload_n hx hb (show decode prog_12_method_54_code 5 = .ok (.aload_n 0, 1) by decide +kernel) rfl (lv_at hl 0 rfl) ?_
  refine va_calli (va_runV (As := []) (rest := [.int 149]) ⟨hx, hb, hml, hown, hts⟩ (js_coder (sb := sb) (sa := sa) (sv := sv) (L := L) (xs := xs) (dC := dC) (dI := dI) (cs := cs) l) ⟨callB_of 0 hts gd_coder rfl rfl rfl (hts _ in_str.tb) (hts _ ml_coder.tb) pd_coder ⟨Nat.le_of_ble_eq_true rfl, Nat.le_of_ble_eq_true rfl⟩, hts _ im_coder.tb, hts _ se_coder.tb⟩ ⟨fun a U g mk q => ⟨q.1, qm_Env.to (U := U) rfl rfl q.2⟩, vk_recv (i := 0) hE.2.2.2.2.2.2.2.1 (by decide) hS, fun U hU hW => ⟨rfl, qm_Env.warm hW (by rw [hU]; exact Nat.le_refl _) (fun q _ _ => by rw [hU]) hE⟩⟩ rfl rfl hl.1 rfl (by simp [JFrame.monitorRoom, Value.category]) (show decode prog_12_method_54_code 6 = .ok (.invokevirtual 335, 3) by decide +kernel) ⟨Nat.le_of_ble_eq_true rfl, Nat.le_of_ble_eq_true rfl⟩) hS0 (fun q _ z => z) (fun q z => z) (fun r u t H1 locs1 ht al hp hB hsz hk hS0 => ?_)
  have hS := qs_wk (B0 := B0) hS0
  have hp : r = 0 := hp
  subst hp
  refine lv_ishr hx hb (show decode prog_12_method_54_code 9 = .ok (.ishr, 1) by decide +kernel) ?_
  exact W.iret hx hb hr (fun t ht _ => ⟨⟨_, (), rfl, by decide +kernel, trivial⟩, hS0.F ht⟩) hS0.2.2 (show decode prog_12_method_54_code 10 = .ok (.ireturn, 1) by decide +kernel)
theorem qs_fr1 {d F : Nat} (h : d + 4 ≤ F) : 3 + 1 ≤ F := by omega
theorem qs_lo1 {d F : Nat} (h : 64 * d + 256 ≤ F) : 8 + (2 + 11) + 64 ≤ F := by omega
theorem qs_fr0 {d F : Nat} (h : d + 4 ≤ F) : 1 + 1 ≤ F := by omega
theorem qs_lo0 {d F : Nat} (h : 64 * d + 256 ≤ F) : 8 + (1 + 11) + 20 ≤ F := by omega
section QST2
variable {p : Program} {l : Launch} {e : Env} {R : Room} {s : State} {m : MethodId} {args : Array Value} {below : List Frame} {meth : Method} {c : Code} {cells slots : Nat} {Q : State → Prop} {H : Heap} {locs : List Loc}
variable {d B0 sb sa sv L mi : Nat} {xs : Nat → Int32} {dC : Nat → ClassId} {dI : Nat → Nat → Nat} {cs : Nat × Nat × Nat × Nat × Nat} {pc n : Nat} {als : Array Slot} {ls st ls' st' : List qm_AV} {h h' : qm_Hp} {x : Instr}
theorem so_slen (X : qm_Cx p R s m args c cells slots d mi B0 sb sa sv L xs dC dI cs) (hw : qm_Wd s B0 L xs dC dI cs h H locs) (hl : qm_Lo mi B0 sb sa als ls) (ho : qm_So st) {idx : Nat} (hm : (mN mi, idx, 87) ∈ qm_ilk) (hd : decode (mC mi) pc = .ok (.invokevirtual idx, 3)) (ha : qa_slen ls st h = some (.inl (ls', st', h'))) (kk : ∀ (H1 : Heap) (locs1 : List Loc) (als1 : Array Slot), qm_Wd s B0 L xs dC dI cs h' H1 locs1 → qm_Lo mi B0 sb sa als1 ls' → qm_So st' → W p l e R s m args below meth c H1 locs1 cells slots Q (F0 m (pc + 3) als1 (st'.map (qm_cv B0 sb sa)))) : W p l e R s m args below meth c H locs cells slots Q (F0 m pc als (st.map (qm_cv B0 sb sa))) := by
  unfold qa_slen at ha
  rcases st with _ | ⟨v, r⟩
  · cases ha
  · rcases v with v | v | ⟨q, i⟩
    · cases ha
    · cases ha
    · replace ha : (if q = 81 ∧ qm_wid r ≤ 8 then some (.inl (ls, qI (Int32.ofNat qm_str.length) :: r, h)) else none : Option qm_Act) = some (.inl (ls', st', h')) := ha
      by_cases hg : q = 81 ∧ qm_wid r ≤ 8
      rotate_left
      · rw [if_neg hg] at ha; cases ha
      rw [if_pos hg] at ha
      obtain ⟨hq, hwid⟩ := hg
      subst hq
      cases ha
      have hio : ∀ e ∈ qm_ilk, e.2.2 = 87 → e.1 = 5 ∧ e.2.1 = 51 := by decide
      obtain ⟨h5, hix⟩ := hio _ hm rfl
      have h5 : mN mi = 5 := h5
      have hix : idx = 51 := hix
      subst hix
      have hown := X.2.2.2.1
      rw [show mN mi = 5 from h5] at hown
      have hE := X.2.2.2.2.2.1
      have hts := X.2.2.2.2.1
      have g9 := X.2.2.2.2.2.2.2.2.1
      have g10 := X.2.2.2.2.2.2.2.2.2
      have hWd : 2 * (F0 m pc als (.ref sa :: r.map (qm_cv B0 sb sa))).monitorRoom + ((r.map (qm_cv B0 sb sa)).map fun v => v.category).sum ≤ 8 := by
        rw [qm_wid_cat]
        exact (Nat.zero_add _).symm ▸ hwid
      exact va_calli (va_runV (As := []) (rest := r.map (qm_cv B0 sb sa)) ⟨X.1, X.2.1, X.2.2.1, hown, hts⟩ (js_length (B0 := B0) (sb := sb) (sa := sa) (sv := sv) (L := L) (xs := xs) (dC := dC) (dI := dI) (cs := cs) l) ⟨callB_of 0 hts gd_length rfl rfl rfl (hts _ in_str.tb) (hts _ ml_length.tb) pd_length ⟨qs_fr0 g9, qs_lo0 g10⟩, hts _ im_length.tb, hts _ se_length.tb⟩ ⟨fun a U g mk q => ⟨q.1, qm_Env.to (U := U) rfl rfl q.2⟩, vk_recv (i := 0) hE.2.2.2.2.2.2.2.1 (by decide) hw.2.2.1, fun U hU hW => ⟨rfl, qm_Env.warm hW (by rw [hU]; exact hw.2.2.1.1) (fun q h1 h2 => by rw [hU]; exact hw.2.2.1.2.1 q h1 h2) hE⟩⟩ rfl rfl hl.1.1 rfl hWd hd ⟨X.2.2.2.2.2.2.1, X.2.2.2.2.2.2.2.1⟩) hw.2.2.1 (fun q _ z => absurd z (fun z => z)) (fun q z => absurd z (fun z => z)) (fun r0 u t H1 locs1 ht al hp hB hsz hk hS => by
        have hp : r0 = 149 := hp
        subst hp
        have k9 := kk H1 locs1 als ⟨hw.1.kept (fun a q hq => hk q.1 (hw.1 a q hq).lt (fun z => z)), hw.2.1, hS, hw.2.2.2⟩ hl (ho.t.cons trivial)
        rw [qm_strL] at k9; exact k9)
theorem so_char (X : qm_Cx p R s m args c cells slots d mi B0 sb sa sv L xs dC dI cs) (hw : qm_Wd s B0 L xs dC dI cs h H locs) (hl : qm_Lo mi B0 sb sa als ls) (ho : qm_So st) {idx : Nat} (hm : (mN mi, idx, 88) ∈ qm_ilk) (hd : decode (mC mi) pc = .ok (.invokevirtual idx, 3)) (ha : qa_char ls st h = some (.inl (ls', st', h'))) (kk : ∀ (H1 : Heap) (locs1 : List Loc) (als1 : Array Slot), qm_Wd s B0 L xs dC dI cs h' H1 locs1 → qm_Lo mi B0 sb sa als1 ls' → qm_So st' → W p l e R s m args below meth c H1 locs1 cells slots Q (F0 m (pc + 3) als1 (st'.map (qm_cv B0 sb sa)))) : W p l e R s m args below meth c H locs cells slots Q (F0 m pc als (st.map (qm_cv B0 sb sa))) := by
  unfold qa_char at ha
  rcases st with _ | ⟨v, _ | ⟨v2, r⟩⟩
  · cases ha
  · rcases v with v | v | ⟨q', i'⟩ <;> cases ha
  · rcases v with j | v | ⟨q', i'⟩
    rotate_left
    · cases ha
    · cases ha
    rcases v2 with v2 | v2 | ⟨q, i⟩
    · cases ha
    · cases ha
    · replace ha : (if q = 81 ∧ qm_wid r ≤ 8 ∧ ¬ (j < 0 ∨ qm_str.length ≤ j.toNatClampNeg) then some (.inl (ls, qI (Int32.ofNat (qm_str.getD j.toNatClampNeg 0)) :: r, h)) else none : Option qm_Act) = some (.inl (ls', st', h')) := ha
      by_cases hg : q = 81 ∧ qm_wid r ≤ 8 ∧ ¬ (j < 0 ∨ qm_str.length ≤ j.toNatClampNeg)
      rotate_left
      · rw [if_neg hg] at ha; cases ha
      rw [if_pos hg] at ha
      obtain ⟨hq, hwid, hj⟩ := hg
      rw [qm_strL] at hj
      obtain ⟨jn, hjn, hjE⟩ := vp_in_of (x := j) (n := 149) hj (by decide)
      subst hjE
      rw [nI_clamp (by omega)] at ha
      subst hq
      cases ha
      have hio : ∀ e ∈ qm_ilk, e.2.2 = 88 → e.1 = 5 ∧ e.2.1 = 57 := by decide
      obtain ⟨h5, hix⟩ := hio _ hm rfl
      have h5 : mN mi = 5 := h5
      have hix : idx = 57 := hix
      subst hix
      have hown := X.2.2.2.1
      rw [show mN mi = 5 from h5] at hown
      have hE := X.2.2.2.2.2.1
      have hts := X.2.2.2.2.1
      have g9 := X.2.2.2.2.2.2.2.2.1
      have g10 := X.2.2.2.2.2.2.2.2.2
      have hWd : 2 * (F0 m pc als (.int (nI jn) :: .ref sa :: r.map (qm_cv B0 sb sa))).monitorRoom + ((r.map (qm_cv B0 sb sa)).map fun v => v.category).sum ≤ 8 := by
        rw [qm_wid_cat]
        exact (Nat.zero_add _).symm ▸ hwid
      exact va_calli (va_runV (As := [.int (nI jn)]) (rest := r.map (qm_cv B0 sb sa)) ⟨X.1, X.2.1, X.2.2.1, hown, hts⟩ (js_charAt (B0 := B0) (sb := sb) (sa := sa) (sv := sv) (L := L) (xs := xs) (dC := dC) (dI := dI) (cs := cs) l hjn) ⟨callB_of 1 hts gd_charAt rfl rfl rfl (hts _ in_str.tb) (hts _ ml_charAt.tb) pd_charAt ⟨qs_fr1 g9, qs_lo1 g10⟩, hts _ im_charAt.tb, hts _ se_charAt.tb⟩ ⟨fun a U g mk q => ⟨q.1, qm_Env.to (U := U) rfl rfl q.2⟩, vk_recv (i := 0) hE.2.2.2.2.2.2.2.1 (by decide) hw.2.2.1, fun U hU hW => ⟨rfl, qm_Env.warm hW (by rw [hU]; exact hw.2.2.1.1) (fun q h1 h2 => by rw [hU]; exact hw.2.2.1.2.1 q h1 h2) hE⟩⟩ rfl rfl hl.1.1 rfl hWd hd ⟨X.2.2.2.2.2.2.1, X.2.2.2.2.2.2.2.1⟩) hw.2.2.1 (fun q _ z => absurd z (fun z => z)) (fun q z => absurd z (fun z => z)) (fun r0 u t H1 locs1 ht al hp hB hsz hk hS => by
        have hp : r0 = Int32.ofNat (qm_str.getD jn 0) := hp
        subst hp
        have k9 := kk H1 locs1 als ⟨hw.1.kept (fun a q hq => hk q.1 (hw.1 a q hq).lt (fun z => z)), hw.2.1, hS, hw.2.2.2⟩ hl (ho.t.t.cons trivial)
        exact k9)
end QST2
end
section
section QDI
variable {p : Program} {l : Launch} {e : Env} {R : Room} {s : State} {m : MethodId} {args : Array Value} {below : List Frame} {meth : Method} {c : Code} {cells slots : Nat} {Q : State → Prop} {H : Heap} {locs : List Loc}
variable {d B0 sb sa sv L mi : Nat} {xs : Nat → Int32} {dC : Nat → ClassId} {dI : Nat → Nat → Nat} {cs : Nat × Nat × Nat × Nat × Nat} {pc n : Nat} {als : Array Slot} {ls st ls' st' : List qm_AV} {h h' : qm_Hp} {x : Instr}
theorem on_0 (X : qm_Cx p R s m args c cells slots d mi B0 sb sa sv L xs dC dI cs) (hw : qm_Wd s B0 L xs dC dI cs h H locs) (hl : qm_Lo mi B0 sb sa als ls) (ho : qm_So st) {r : qm_Act} {a : List Nat} {v : Int} (hd : decode (mC mi) pc = .ok (x, n)) (hq : qkB mi pc (0, a, v) x n = true) (hne : 0 ≠ 64 ∧ 0 ≠ 70 ∧ 0 ≠ 71 ∧ 0 ≠ 72 ∧ 0 ≠ 80 ∧ 0 ≠ 73) (ha : qm_act (0, a, v) ls st h = some r) (k1 : ∀ (ls' st' : List qm_AV) (h' : qm_Hp), r = .inl (ls', st', h') → ∀ (H1 : Heap) (locs1 : List Loc) (als1 : Array Slot), qm_Wd s B0 L xs dC dI cs h' H1 locs1 → qm_Lo mi B0 sb sa als1 ls' → qm_So st' → W p l e R s m args below meth c H1 locs1 cells slots Q (F0 m (pc + n) als1 (st'.map (qm_cv B0 sb sa)))) (k2 : ∀ (b : Nat) (st' : List qm_AV), r = .inr (.inl (b, st')) → qm_So st' → W p l e R s m args below meth c H locs cells slots Q (F0 m (qm_bpc mi b) als (st'.map (qm_cv B0 sb sa)))) : W p l e R s m args below meth c H locs cells slots Q (F0 m pc als (st.map (qm_cv B0 sb sa))) := by
  have e := Option.some.inj ha
  simp only [qkB, qk_var, Bool.or_eq_true, Bool.and_eq_true, decide_eq_true_eq] at hq
  rcases hq with (((⟨hn, hx⟩ | ⟨⟨hn, hx⟩, hv⟩) | ⟨⟨hn, hx⟩, hv⟩) | ⟨⟨hn, hx⟩, hm⟩) | ⟨⟨hn, hx⟩, hm⟩
  · subst hn; rw [hx] at hd
    exact so_iconst X hw hl ho hd (k1 _ _ _ e.symm H locs als hw hl (ho.cons trivial))
  · subst hn; rw [hx] at hd
    exact so_bipush X hw hl ho hd (qm_bip _ hv.1 hv.2) (k1 _ _ _ e.symm H locs als hw hl (ho.cons trivial))
  · subst hn; rw [hx] at hd
    exact so_sipush X hw hl ho hd (qm_sip _ hv.1 hv.2) (k1 _ _ _ e.symm H locs als hw hl (ho.cons trivial))
  · subst hn; rw [hx] at hd
    exact lv_ldc X.1 X.2.1 X.2.2.2.1 (X.2.2.2.2.1 _ (qm_clk_ok _ hm).tb) hd (k1 _ _ _ e.symm H locs als hw hl (ho.cons trivial))
  · subst hn; rw [hx] at hd
    exact lv_ldcw X.1 X.2.1 X.2.2.2.1 (X.2.2.2.2.1 _ (qm_clk_ok _ hm).tb) hd (k1 _ _ _ e.symm H locs als hw hl (ho.cons trivial))
theorem on_1 (X : qm_Cx p R s m args c cells slots d mi B0 sb sa sv L xs dC dI cs) (hw : qm_Wd s B0 L xs dC dI cs h H locs) (hl : qm_Lo mi B0 sb sa als ls) (ho : qm_So st) {r : qm_Act} {a : List Nat} {v : Int} (hd : decode (mC mi) pc = .ok (x, n)) (hq : qkB mi pc (1, a, v) x n = true) (hne : 1 ≠ 64 ∧ 1 ≠ 70 ∧ 1 ≠ 71 ∧ 1 ≠ 72 ∧ 1 ≠ 80 ∧ 1 ≠ 73) (ha : qm_act (1, a, v) ls st h = some r) (k1 : ∀ (ls' st' : List qm_AV) (h' : qm_Hp), r = .inl (ls', st', h') → ∀ (H1 : Heap) (locs1 : List Loc) (als1 : Array Slot), qm_Wd s B0 L xs dC dI cs h' H1 locs1 → qm_Lo mi B0 sb sa als1 ls' → qm_So st' → W p l e R s m args below meth c H1 locs1 cells slots Q (F0 m (pc + n) als1 (st'.map (qm_cv B0 sb sa)))) (k2 : ∀ (b : Nat) (st' : List qm_AV), r = .inr (.inl (b, st')) → qm_So st' → W p l e R s m args below meth c H locs cells slots Q (F0 m (qm_bpc mi b) als (st'.map (qm_cv B0 sb sa)))) : W p l e R s m args below meth c H locs cells slots Q (F0 m pc als (st.map (qm_cv B0 sb sa))) := by
  have e := Option.some.inj ha
  simp only [qkB, qk_var, Bool.or_eq_true, Bool.and_eq_true, decide_eq_true_eq] at hq
  rcases hq with (⟨⟨hn, hv⟩, hx⟩ | ⟨⟨hn, hv⟩, hx⟩) | ⟨⟨hn, hx⟩, hm⟩
  · subst hn; subst hv; rw [hx] at hd
    exact lv_lconst X.1 X.2.1 hd rfl (k1 _ _ _ e.symm H locs als hw hl (ho.cons trivial))
  · subst hn; subst hv; rw [hx] at hd
    exact lv_lconst X.1 X.2.1 hd rfl (k1 _ _ _ e.symm H locs als hw hl (ho.cons trivial))
  · subst hn; rw [hx] at hd
    exact lv_ldc2 X.1 X.2.1 X.2.2.2.1 (X.2.2.2.2.1 _ (qm_llk_ok _ hm).tb) hd (k1 _ _ _ e.symm H locs als hw hl (ho.cons trivial))
theorem on_2 (X : qm_Cx p R s m args c cells slots d mi B0 sb sa sv L xs dC dI cs) (hw : qm_Wd s B0 L xs dC dI cs h H locs) (hl : qm_Lo mi B0 sb sa als ls) (ho : qm_So st) {r : qm_Act} {a : List Nat} {v : Int} (hd : decode (mC mi) pc = .ok (x, n)) (hq : qkB mi pc (2, a, v) x n = true) (hne : 2 ≠ 64 ∧ 2 ≠ 70 ∧ 2 ≠ 71 ∧ 2 ≠ 72 ∧ 2 ≠ 80 ∧ 2 ≠ 73) (ha : qm_act (2, a, v) ls st h = some r) (k1 : ∀ (ls' st' : List qm_AV) (h' : qm_Hp), r = .inl (ls', st', h') → ∀ (H1 : Heap) (locs1 : List Loc) (als1 : Array Slot), qm_Wd s B0 L xs dC dI cs h' H1 locs1 → qm_Lo mi B0 sb sa als1 ls' → qm_So st' → W p l e R s m args below meth c H1 locs1 cells slots Q (F0 m (pc + n) als1 (st'.map (qm_cv B0 sb sa)))) (k2 : ∀ (b : Nat) (st' : List qm_AV), r = .inr (.inl (b, st')) → qm_So st' → W p l e R s m args below meth c H locs cells slots Q (F0 m (qm_bpc mi b) als (st'.map (qm_cv B0 sb sa)))) : W p l e R s m args below meth c H locs cells slots Q (F0 m pc als (st.map (qm_cv B0 sb sa))) := by
  rcases a with _ | ⟨k, _ | ⟨k9, a9⟩⟩
  · cases hq
  · simp only [qkB, qk_var, Bool.or_eq_true, Bool.and_eq_true, decide_eq_true_eq] at hq
    replace ha : qa_load [k] 0 ls st h = some r := ha
    obtain ⟨l1, s1, h1, e⟩ := qa_load_inl _ _ ha
    subst e
    rcases hq with ⟨hn, hx⟩ | ⟨⟨hn, hk⟩, hx⟩
    · subst hn; rw [hx] at hd
      exact so_iload X hw hl ho hd ha (k1 _ _ _ rfl)
    · subst hn; rw [hx] at hd
      exact so_iload_n X hw hl ho hk hd ha (k1 _ _ _ rfl)
  · cases hq
theorem on_3 (X : qm_Cx p R s m args c cells slots d mi B0 sb sa sv L xs dC dI cs) (hw : qm_Wd s B0 L xs dC dI cs h H locs) (hl : qm_Lo mi B0 sb sa als ls) (ho : qm_So st) {r : qm_Act} {a : List Nat} {v : Int} (hd : decode (mC mi) pc = .ok (x, n)) (hq : qkB mi pc (3, a, v) x n = true) (hne : 3 ≠ 64 ∧ 3 ≠ 70 ∧ 3 ≠ 71 ∧ 3 ≠ 72 ∧ 3 ≠ 80 ∧ 3 ≠ 73) (ha : qm_act (3, a, v) ls st h = some r) (k1 : ∀ (ls' st' : List qm_AV) (h' : qm_Hp), r = .inl (ls', st', h') → ∀ (H1 : Heap) (locs1 : List Loc) (als1 : Array Slot), qm_Wd s B0 L xs dC dI cs h' H1 locs1 → qm_Lo mi B0 sb sa als1 ls' → qm_So st' → W p l e R s m args below meth c H1 locs1 cells slots Q (F0 m (pc + n) als1 (st'.map (qm_cv B0 sb sa)))) (k2 : ∀ (b : Nat) (st' : List qm_AV), r = .inr (.inl (b, st')) → qm_So st' → W p l e R s m args below meth c H locs cells slots Q (F0 m (qm_bpc mi b) als (st'.map (qm_cv B0 sb sa)))) : W p l e R s m args below meth c H locs cells slots Q (F0 m pc als (st.map (qm_cv B0 sb sa))) := by
  rcases a with _ | ⟨k, _ | ⟨k9, a9⟩⟩
  · cases hq
  · simp only [qkB, qk_var, Bool.or_eq_true, Bool.and_eq_true, decide_eq_true_eq] at hq
    replace ha : qa_load [k] 1 ls st h = some r := ha
    obtain ⟨l1, s1, h1, e⟩ := qa_load_inl _ _ ha
    subst e
    rcases hq with ⟨hn, hx⟩ | ⟨⟨hn, hk⟩, hx⟩
    · subst hn; rw [hx] at hd
      exact so_lload X hw hl ho hd ha (k1 _ _ _ rfl)
    · subst hn; rw [hx] at hd
      exact so_lload_n X hw hl ho hk hd ha (k1 _ _ _ rfl)
  · cases hq
theorem on_4 (X : qm_Cx p R s m args c cells slots d mi B0 sb sa sv L xs dC dI cs) (hw : qm_Wd s B0 L xs dC dI cs h H locs) (hl : qm_Lo mi B0 sb sa als ls) (ho : qm_So st) {r : qm_Act} {a : List Nat} {v : Int} (hd : decode (mC mi) pc = .ok (x, n)) (hq : qkB mi pc (4, a, v) x n = true) (hne : 4 ≠ 64 ∧ 4 ≠ 70 ∧ 4 ≠ 71 ∧ 4 ≠ 72 ∧ 4 ≠ 80 ∧ 4 ≠ 73) (ha : qm_act (4, a, v) ls st h = some r) (k1 : ∀ (ls' st' : List qm_AV) (h' : qm_Hp), r = .inl (ls', st', h') → ∀ (H1 : Heap) (locs1 : List Loc) (als1 : Array Slot), qm_Wd s B0 L xs dC dI cs h' H1 locs1 → qm_Lo mi B0 sb sa als1 ls' → qm_So st' → W p l e R s m args below meth c H1 locs1 cells slots Q (F0 m (pc + n) als1 (st'.map (qm_cv B0 sb sa)))) (k2 : ∀ (b : Nat) (st' : List qm_AV), r = .inr (.inl (b, st')) → qm_So st' → W p l e R s m args below meth c H locs cells slots Q (F0 m (qm_bpc mi b) als (st'.map (qm_cv B0 sb sa)))) : W p l e R s m args below meth c H locs cells slots Q (F0 m pc als (st.map (qm_cv B0 sb sa))) := by
  rcases a with _ | ⟨k, _ | ⟨k9, a9⟩⟩
  · cases hq
  · simp only [qkB, qk_var, Bool.or_eq_true, Bool.and_eq_true, decide_eq_true_eq] at hq
    replace ha : qa_load [k] 2 ls st h = some r := ha
    obtain ⟨l1, s1, h1, e⟩ := qa_load_inl _ _ ha
    subst e
    rcases hq with ⟨hn, hx⟩ | ⟨⟨hn, hk⟩, hx⟩
    · subst hn; rw [hx] at hd
      exact so_aload X hw hl ho hd ha (k1 _ _ _ rfl)
    · subst hn; rw [hx] at hd
      exact so_aload_n X hw hl ho hk hd ha (k1 _ _ _ rfl)
  · cases hq
theorem on_5 (X : qm_Cx p R s m args c cells slots d mi B0 sb sa sv L xs dC dI cs) (hw : qm_Wd s B0 L xs dC dI cs h H locs) (hl : qm_Lo mi B0 sb sa als ls) (ho : qm_So st) {r : qm_Act} {a : List Nat} {v : Int} (hd : decode (mC mi) pc = .ok (x, n)) (hq : qkB mi pc (5, a, v) x n = true) (hne : 5 ≠ 64 ∧ 5 ≠ 70 ∧ 5 ≠ 71 ∧ 5 ≠ 72 ∧ 5 ≠ 80 ∧ 5 ≠ 73) (ha : qm_act (5, a, v) ls st h = some r) (k1 : ∀ (ls' st' : List qm_AV) (h' : qm_Hp), r = .inl (ls', st', h') → ∀ (H1 : Heap) (locs1 : List Loc) (als1 : Array Slot), qm_Wd s B0 L xs dC dI cs h' H1 locs1 → qm_Lo mi B0 sb sa als1 ls' → qm_So st' → W p l e R s m args below meth c H1 locs1 cells slots Q (F0 m (pc + n) als1 (st'.map (qm_cv B0 sb sa)))) (k2 : ∀ (b : Nat) (st' : List qm_AV), r = .inr (.inl (b, st')) → qm_So st' → W p l e R s m args below meth c H locs cells slots Q (F0 m (qm_bpc mi b) als (st'.map (qm_cv B0 sb sa)))) : W p l e R s m args below meth c H locs cells slots Q (F0 m pc als (st.map (qm_cv B0 sb sa))) := by
  rcases a with _ | ⟨k, _ | ⟨k9, a9⟩⟩
  · cases hq
  · simp only [qkB, qk_var, Bool.or_eq_true, Bool.and_eq_true, decide_eq_true_eq] at hq
    replace ha : qa_store [k] 0 ls st h = some r := ha
    obtain ⟨l1, s1, h1, e⟩ := qa_store_inl _ _ ha
    subst e
    rcases hq with ⟨hn, hx⟩ | ⟨⟨hn, hk⟩, hx⟩
    · subst hn; rw [hx] at hd
      exact so_istore X hw hl ho hd ha (k1 _ _ _ rfl)
    · subst hn; rw [hx] at hd
      exact so_istore_n X hw hl ho hk hd ha (k1 _ _ _ rfl)
  · cases hq
theorem on_6 (X : qm_Cx p R s m args c cells slots d mi B0 sb sa sv L xs dC dI cs) (hw : qm_Wd s B0 L xs dC dI cs h H locs) (hl : qm_Lo mi B0 sb sa als ls) (ho : qm_So st) {r : qm_Act} {a : List Nat} {v : Int} (hd : decode (mC mi) pc = .ok (x, n)) (hq : qkB mi pc (6, a, v) x n = true) (hne : 6 ≠ 64 ∧ 6 ≠ 70 ∧ 6 ≠ 71 ∧ 6 ≠ 72 ∧ 6 ≠ 80 ∧ 6 ≠ 73) (ha : qm_act (6, a, v) ls st h = some r) (k1 : ∀ (ls' st' : List qm_AV) (h' : qm_Hp), r = .inl (ls', st', h') → ∀ (H1 : Heap) (locs1 : List Loc) (als1 : Array Slot), qm_Wd s B0 L xs dC dI cs h' H1 locs1 → qm_Lo mi B0 sb sa als1 ls' → qm_So st' → W p l e R s m args below meth c H1 locs1 cells slots Q (F0 m (pc + n) als1 (st'.map (qm_cv B0 sb sa)))) (k2 : ∀ (b : Nat) (st' : List qm_AV), r = .inr (.inl (b, st')) → qm_So st' → W p l e R s m args below meth c H locs cells slots Q (F0 m (qm_bpc mi b) als (st'.map (qm_cv B0 sb sa)))) : W p l e R s m args below meth c H locs cells slots Q (F0 m pc als (st.map (qm_cv B0 sb sa))) := by
  rcases a with _ | ⟨k, _ | ⟨k9, a9⟩⟩
  · cases hq
  · simp only [qkB, qk_var, Bool.or_eq_true, Bool.and_eq_true, decide_eq_true_eq] at hq
    replace ha : qa_store [k] 1 ls st h = some r := ha
    obtain ⟨l1, s1, h1, e⟩ := qa_store_inl _ _ ha
    subst e
    rcases hq with ⟨hn, hx⟩ | ⟨⟨hn, hk⟩, hx⟩
    · subst hn; rw [hx] at hd
      exact so_lstore X hw hl ho hd ha (k1 _ _ _ rfl)
    · subst hn; rw [hx] at hd
      exact so_lstore_n X hw hl ho hk hd ha (k1 _ _ _ rfl)
  · cases hq
theorem on_7 (X : qm_Cx p R s m args c cells slots d mi B0 sb sa sv L xs dC dI cs) (hw : qm_Wd s B0 L xs dC dI cs h H locs) (hl : qm_Lo mi B0 sb sa als ls) (ho : qm_So st) {r : qm_Act} {a : List Nat} {v : Int} (hd : decode (mC mi) pc = .ok (x, n)) (hq : qkB mi pc (7, a, v) x n = true) (hne : 7 ≠ 64 ∧ 7 ≠ 70 ∧ 7 ≠ 71 ∧ 7 ≠ 72 ∧ 7 ≠ 80 ∧ 7 ≠ 73) (ha : qm_act (7, a, v) ls st h = some r) (k1 : ∀ (ls' st' : List qm_AV) (h' : qm_Hp), r = .inl (ls', st', h') → ∀ (H1 : Heap) (locs1 : List Loc) (als1 : Array Slot), qm_Wd s B0 L xs dC dI cs h' H1 locs1 → qm_Lo mi B0 sb sa als1 ls' → qm_So st' → W p l e R s m args below meth c H1 locs1 cells slots Q (F0 m (pc + n) als1 (st'.map (qm_cv B0 sb sa)))) (k2 : ∀ (b : Nat) (st' : List qm_AV), r = .inr (.inl (b, st')) → qm_So st' → W p l e R s m args below meth c H locs cells slots Q (F0 m (qm_bpc mi b) als (st'.map (qm_cv B0 sb sa)))) : W p l e R s m args below meth c H locs cells slots Q (F0 m pc als (st.map (qm_cv B0 sb sa))) := by
  rcases a with _ | ⟨k, _ | ⟨k9, a9⟩⟩
  · cases hq
  · simp only [qkB, qk_var, Bool.or_eq_true, Bool.and_eq_true, decide_eq_true_eq] at hq
    replace ha : qa_store [k] 2 ls st h = some r := ha
    obtain ⟨l1, s1, h1, e⟩ := qa_store_inl _ _ ha
    subst e
    rcases hq with ⟨hn, hx⟩ | ⟨⟨hn, hk⟩, hx⟩
    · subst hn; rw [hx] at hd
      exact so_astore X hw hl ho hd ha (k1 _ _ _ rfl)
    · subst hn; rw [hx] at hd
      exact so_astore_n X hw hl ho hk hd ha (k1 _ _ _ rfl)
  · cases hq
theorem on_8 (X : qm_Cx p R s m args c cells slots d mi B0 sb sa sv L xs dC dI cs) (hw : qm_Wd s B0 L xs dC dI cs h H locs) (hl : qm_Lo mi B0 sb sa als ls) (ho : qm_So st) {r : qm_Act} {a : List Nat} {v : Int} (hd : decode (mC mi) pc = .ok (x, n)) (hq : qkB mi pc (8, a, v) x n = true) (hne : 8 ≠ 64 ∧ 8 ≠ 70 ∧ 8 ≠ 71 ∧ 8 ≠ 72 ∧ 8 ≠ 80 ∧ 8 ≠ 73) (ha : qm_act (8, a, v) ls st h = some r) (k1 : ∀ (ls' st' : List qm_AV) (h' : qm_Hp), r = .inl (ls', st', h') → ∀ (H1 : Heap) (locs1 : List Loc) (als1 : Array Slot), qm_Wd s B0 L xs dC dI cs h' H1 locs1 → qm_Lo mi B0 sb sa als1 ls' → qm_So st' → W p l e R s m args below meth c H1 locs1 cells slots Q (F0 m (pc + n) als1 (st'.map (qm_cv B0 sb sa)))) (k2 : ∀ (b : Nat) (st' : List qm_AV), r = .inr (.inl (b, st')) → qm_So st' → W p l e R s m args below meth c H locs cells slots Q (F0 m (qm_bpc mi b) als (st'.map (qm_cv B0 sb sa)))) : W p l e R s m args below meth c H locs cells slots Q (F0 m pc als (st.map (qm_cv B0 sb sa))) := by
  rcases a with _ | ⟨k, _ | ⟨k9, a9⟩⟩
  · cases hq
  · simp only [qkB, qk_var, Bool.or_eq_true, Bool.and_eq_true, decide_eq_true_eq] at hq
    replace ha : qa_iinc [k] v ls st h = some r := ha
    obtain ⟨l1, s1, h1, e⟩ := qa_iinc_inl _ _ ha
    subst e
    obtain ⟨hn, hx⟩ := hq
    subst hn; rw [hx] at hd
    exact so_iinc X hw hl ho hd ha (k1 _ _ _ rfl)
  · cases hq
theorem on_10 (X : qm_Cx p R s m args c cells slots d mi B0 sb sa sv L xs dC dI cs) (hw : qm_Wd s B0 L xs dC dI cs h H locs) (hl : qm_Lo mi B0 sb sa als ls) (ho : qm_So st) {r : qm_Act} {a : List Nat} {v : Int} (hd : decode (mC mi) pc = .ok (x, n)) (hq : qkB mi pc (10, a, v) x n = true) (hne : 10 ≠ 64 ∧ 10 ≠ 70 ∧ 10 ≠ 71 ∧ 10 ≠ 72 ∧ 10 ≠ 80 ∧ 10 ≠ 73) (ha : qm_act (10, a, v) ls st h = some r) (k1 : ∀ (ls' st' : List qm_AV) (h' : qm_Hp), r = .inl (ls', st', h') → ∀ (H1 : Heap) (locs1 : List Loc) (als1 : Array Slot), qm_Wd s B0 L xs dC dI cs h' H1 locs1 → qm_Lo mi B0 sb sa als1 ls' → qm_So st' → W p l e R s m args below meth c H1 locs1 cells slots Q (F0 m (pc + n) als1 (st'.map (qm_cv B0 sb sa)))) (k2 : ∀ (b : Nat) (st' : List qm_AV), r = .inr (.inl (b, st')) → qm_So st' → W p l e R s m args below meth c H locs cells slots Q (F0 m (qm_bpc mi b) als (st'.map (qm_cv B0 sb sa)))) : W p l e R s m args below meth c H locs cells slots Q (F0 m pc als (st.map (qm_cv B0 sb sa))) := by
  simp only [qkB, qk_var, Bool.or_eq_true, Bool.and_eq_true, decide_eq_true_eq] at hq
  obtain ⟨l1, s1, h1, e⟩ := qa_bin_inl _ ha
  subst e
  obtain ⟨hn, hx⟩ := hq
  subst hn; rw [hx] at hd
  exact so_iadd X hw hl ho hd ha (k1 _ _ _ rfl)
theorem on_11 (X : qm_Cx p R s m args c cells slots d mi B0 sb sa sv L xs dC dI cs) (hw : qm_Wd s B0 L xs dC dI cs h H locs) (hl : qm_Lo mi B0 sb sa als ls) (ho : qm_So st) {r : qm_Act} {a : List Nat} {v : Int} (hd : decode (mC mi) pc = .ok (x, n)) (hq : qkB mi pc (11, a, v) x n = true) (hne : 11 ≠ 64 ∧ 11 ≠ 70 ∧ 11 ≠ 71 ∧ 11 ≠ 72 ∧ 11 ≠ 80 ∧ 11 ≠ 73) (ha : qm_act (11, a, v) ls st h = some r) (k1 : ∀ (ls' st' : List qm_AV) (h' : qm_Hp), r = .inl (ls', st', h') → ∀ (H1 : Heap) (locs1 : List Loc) (als1 : Array Slot), qm_Wd s B0 L xs dC dI cs h' H1 locs1 → qm_Lo mi B0 sb sa als1 ls' → qm_So st' → W p l e R s m args below meth c H1 locs1 cells slots Q (F0 m (pc + n) als1 (st'.map (qm_cv B0 sb sa)))) (k2 : ∀ (b : Nat) (st' : List qm_AV), r = .inr (.inl (b, st')) → qm_So st' → W p l e R s m args below meth c H locs cells slots Q (F0 m (qm_bpc mi b) als (st'.map (qm_cv B0 sb sa)))) : W p l e R s m args below meth c H locs cells slots Q (F0 m pc als (st.map (qm_cv B0 sb sa))) := by
  simp only [qkB, qk_var, Bool.or_eq_true, Bool.and_eq_true, decide_eq_true_eq] at hq
  obtain ⟨l1, s1, h1, e⟩ := qa_bin_inl _ ha
  subst e
  obtain ⟨hn, hx⟩ := hq
  subst hn; rw [hx] at hd
  exact so_isub X hw hl ho hd ha (k1 _ _ _ rfl)
theorem on_12 (X : qm_Cx p R s m args c cells slots d mi B0 sb sa sv L xs dC dI cs) (hw : qm_Wd s B0 L xs dC dI cs h H locs) (hl : qm_Lo mi B0 sb sa als ls) (ho : qm_So st) {r : qm_Act} {a : List Nat} {v : Int} (hd : decode (mC mi) pc = .ok (x, n)) (hq : qkB mi pc (12, a, v) x n = true) (hne : 12 ≠ 64 ∧ 12 ≠ 70 ∧ 12 ≠ 71 ∧ 12 ≠ 72 ∧ 12 ≠ 80 ∧ 12 ≠ 73) (ha : qm_act (12, a, v) ls st h = some r) (k1 : ∀ (ls' st' : List qm_AV) (h' : qm_Hp), r = .inl (ls', st', h') → ∀ (H1 : Heap) (locs1 : List Loc) (als1 : Array Slot), qm_Wd s B0 L xs dC dI cs h' H1 locs1 → qm_Lo mi B0 sb sa als1 ls' → qm_So st' → W p l e R s m args below meth c H1 locs1 cells slots Q (F0 m (pc + n) als1 (st'.map (qm_cv B0 sb sa)))) (k2 : ∀ (b : Nat) (st' : List qm_AV), r = .inr (.inl (b, st')) → qm_So st' → W p l e R s m args below meth c H locs cells slots Q (F0 m (qm_bpc mi b) als (st'.map (qm_cv B0 sb sa)))) : W p l e R s m args below meth c H locs cells slots Q (F0 m pc als (st.map (qm_cv B0 sb sa))) := by
  simp only [qkB, qk_var, Bool.or_eq_true, Bool.and_eq_true, decide_eq_true_eq] at hq
  obtain ⟨l1, s1, h1, e⟩ := qa_bin_inl _ ha
  subst e
  obtain ⟨hn, hx⟩ := hq
  subst hn; rw [hx] at hd
  exact so_imul X hw hl ho hd ha (k1 _ _ _ rfl)
theorem on_13 (X : qm_Cx p R s m args c cells slots d mi B0 sb sa sv L xs dC dI cs) (hw : qm_Wd s B0 L xs dC dI cs h H locs) (hl : qm_Lo mi B0 sb sa als ls) (ho : qm_So st) {r : qm_Act} {a : List Nat} {v : Int} (hd : decode (mC mi) pc = .ok (x, n)) (hq : qkB mi pc (13, a, v) x n = true) (hne : 13 ≠ 64 ∧ 13 ≠ 70 ∧ 13 ≠ 71 ∧ 13 ≠ 72 ∧ 13 ≠ 80 ∧ 13 ≠ 73) (ha : qm_act (13, a, v) ls st h = some r) (k1 : ∀ (ls' st' : List qm_AV) (h' : qm_Hp), r = .inl (ls', st', h') → ∀ (H1 : Heap) (locs1 : List Loc) (als1 : Array Slot), qm_Wd s B0 L xs dC dI cs h' H1 locs1 → qm_Lo mi B0 sb sa als1 ls' → qm_So st' → W p l e R s m args below meth c H1 locs1 cells slots Q (F0 m (pc + n) als1 (st'.map (qm_cv B0 sb sa)))) (k2 : ∀ (b : Nat) (st' : List qm_AV), r = .inr (.inl (b, st')) → qm_So st' → W p l e R s m args below meth c H locs cells slots Q (F0 m (qm_bpc mi b) als (st'.map (qm_cv B0 sb sa)))) : W p l e R s m args below meth c H locs cells slots Q (F0 m pc als (st.map (qm_cv B0 sb sa))) := by
  simp only [qkB, qk_var, Bool.or_eq_true, Bool.and_eq_true, decide_eq_true_eq] at hq
  obtain ⟨l1, s1, h1, e⟩ := qa_div_inl _ ha
  subst e
  obtain ⟨hn, hx⟩ := hq
  subst hn; rw [hx] at hd
  exact so_idiv X hw hl ho hd ha (k1 _ _ _ rfl)
theorem on_14 (X : qm_Cx p R s m args c cells slots d mi B0 sb sa sv L xs dC dI cs) (hw : qm_Wd s B0 L xs dC dI cs h H locs) (hl : qm_Lo mi B0 sb sa als ls) (ho : qm_So st) {r : qm_Act} {a : List Nat} {v : Int} (hd : decode (mC mi) pc = .ok (x, n)) (hq : qkB mi pc (14, a, v) x n = true) (hne : 14 ≠ 64 ∧ 14 ≠ 70 ∧ 14 ≠ 71 ∧ 14 ≠ 72 ∧ 14 ≠ 80 ∧ 14 ≠ 73) (ha : qm_act (14, a, v) ls st h = some r) (k1 : ∀ (ls' st' : List qm_AV) (h' : qm_Hp), r = .inl (ls', st', h') → ∀ (H1 : Heap) (locs1 : List Loc) (als1 : Array Slot), qm_Wd s B0 L xs dC dI cs h' H1 locs1 → qm_Lo mi B0 sb sa als1 ls' → qm_So st' → W p l e R s m args below meth c H1 locs1 cells slots Q (F0 m (pc + n) als1 (st'.map (qm_cv B0 sb sa)))) (k2 : ∀ (b : Nat) (st' : List qm_AV), r = .inr (.inl (b, st')) → qm_So st' → W p l e R s m args below meth c H locs cells slots Q (F0 m (qm_bpc mi b) als (st'.map (qm_cv B0 sb sa)))) : W p l e R s m args below meth c H locs cells slots Q (F0 m pc als (st.map (qm_cv B0 sb sa))) := by
  simp only [qkB, qk_var, Bool.or_eq_true, Bool.and_eq_true, decide_eq_true_eq] at hq
  obtain ⟨l1, s1, h1, e⟩ := qa_div_inl _ ha
  subst e
  obtain ⟨hn, hx⟩ := hq
  subst hn; rw [hx] at hd
  exact so_irem X hw hl ho hd ha (k1 _ _ _ rfl)
theorem on_15 (X : qm_Cx p R s m args c cells slots d mi B0 sb sa sv L xs dC dI cs) (hw : qm_Wd s B0 L xs dC dI cs h H locs) (hl : qm_Lo mi B0 sb sa als ls) (ho : qm_So st) {r : qm_Act} {a : List Nat} {v : Int} (hd : decode (mC mi) pc = .ok (x, n)) (hq : qkB mi pc (15, a, v) x n = true) (hne : 15 ≠ 64 ∧ 15 ≠ 70 ∧ 15 ≠ 71 ∧ 15 ≠ 72 ∧ 15 ≠ 80 ∧ 15 ≠ 73) (ha : qm_act (15, a, v) ls st h = some r) (k1 : ∀ (ls' st' : List qm_AV) (h' : qm_Hp), r = .inl (ls', st', h') → ∀ (H1 : Heap) (locs1 : List Loc) (als1 : Array Slot), qm_Wd s B0 L xs dC dI cs h' H1 locs1 → qm_Lo mi B0 sb sa als1 ls' → qm_So st' → W p l e R s m args below meth c H1 locs1 cells slots Q (F0 m (pc + n) als1 (st'.map (qm_cv B0 sb sa)))) (k2 : ∀ (b : Nat) (st' : List qm_AV), r = .inr (.inl (b, st')) → qm_So st' → W p l e R s m args below meth c H locs cells slots Q (F0 m (qm_bpc mi b) als (st'.map (qm_cv B0 sb sa)))) : W p l e R s m args below meth c H locs cells slots Q (F0 m pc als (st.map (qm_cv B0 sb sa))) := by
  simp only [qkB, qk_var, Bool.or_eq_true, Bool.and_eq_true, decide_eq_true_eq] at hq
  obtain ⟨l1, s1, h1, e⟩ := qa_neg_inl ha
  subst e
  obtain ⟨hn, hx⟩ := hq
  subst hn; rw [hx] at hd
  exact so_ineg X hw hl ho hd ha (k1 _ _ _ rfl)
theorem on_16 (X : qm_Cx p R s m args c cells slots d mi B0 sb sa sv L xs dC dI cs) (hw : qm_Wd s B0 L xs dC dI cs h H locs) (hl : qm_Lo mi B0 sb sa als ls) (ho : qm_So st) {r : qm_Act} {a : List Nat} {v : Int} (hd : decode (mC mi) pc = .ok (x, n)) (hq : qkB mi pc (16, a, v) x n = true) (hne : 16 ≠ 64 ∧ 16 ≠ 70 ∧ 16 ≠ 71 ∧ 16 ≠ 72 ∧ 16 ≠ 80 ∧ 16 ≠ 73) (ha : qm_act (16, a, v) ls st h = some r) (k1 : ∀ (ls' st' : List qm_AV) (h' : qm_Hp), r = .inl (ls', st', h') → ∀ (H1 : Heap) (locs1 : List Loc) (als1 : Array Slot), qm_Wd s B0 L xs dC dI cs h' H1 locs1 → qm_Lo mi B0 sb sa als1 ls' → qm_So st' → W p l e R s m args below meth c H1 locs1 cells slots Q (F0 m (pc + n) als1 (st'.map (qm_cv B0 sb sa)))) (k2 : ∀ (b : Nat) (st' : List qm_AV), r = .inr (.inl (b, st')) → qm_So st' → W p l e R s m args below meth c H locs cells slots Q (F0 m (qm_bpc mi b) als (st'.map (qm_cv B0 sb sa)))) : W p l e R s m args below meth c H locs cells slots Q (F0 m pc als (st.map (qm_cv B0 sb sa))) := by
  simp only [qkB, qk_var, Bool.or_eq_true, Bool.and_eq_true, decide_eq_true_eq] at hq
  obtain ⟨l1, s1, h1, e⟩ := qa_bin_inl _ ha
  subst e
  obtain ⟨hn, hx⟩ := hq
  subst hn; rw [hx] at hd
  exact so_iand X hw hl ho hd ha (k1 _ _ _ rfl)
theorem on_17 (X : qm_Cx p R s m args c cells slots d mi B0 sb sa sv L xs dC dI cs) (hw : qm_Wd s B0 L xs dC dI cs h H locs) (hl : qm_Lo mi B0 sb sa als ls) (ho : qm_So st) {r : qm_Act} {a : List Nat} {v : Int} (hd : decode (mC mi) pc = .ok (x, n)) (hq : qkB mi pc (17, a, v) x n = true) (hne : 17 ≠ 64 ∧ 17 ≠ 70 ∧ 17 ≠ 71 ∧ 17 ≠ 72 ∧ 17 ≠ 80 ∧ 17 ≠ 73) (ha : qm_act (17, a, v) ls st h = some r) (k1 : ∀ (ls' st' : List qm_AV) (h' : qm_Hp), r = .inl (ls', st', h') → ∀ (H1 : Heap) (locs1 : List Loc) (als1 : Array Slot), qm_Wd s B0 L xs dC dI cs h' H1 locs1 → qm_Lo mi B0 sb sa als1 ls' → qm_So st' → W p l e R s m args below meth c H1 locs1 cells slots Q (F0 m (pc + n) als1 (st'.map (qm_cv B0 sb sa)))) (k2 : ∀ (b : Nat) (st' : List qm_AV), r = .inr (.inl (b, st')) → qm_So st' → W p l e R s m args below meth c H locs cells slots Q (F0 m (qm_bpc mi b) als (st'.map (qm_cv B0 sb sa)))) : W p l e R s m args below meth c H locs cells slots Q (F0 m pc als (st.map (qm_cv B0 sb sa))) := by
  simp only [qkB, qk_var, Bool.or_eq_true, Bool.and_eq_true, decide_eq_true_eq] at hq
  obtain ⟨l1, s1, h1, e⟩ := qa_bin_inl _ ha
  subst e
  obtain ⟨hn, hx⟩ := hq
  subst hn; rw [hx] at hd
  exact so_ior X hw hl ho hd ha (k1 _ _ _ rfl)
theorem on_18 (X : qm_Cx p R s m args c cells slots d mi B0 sb sa sv L xs dC dI cs) (hw : qm_Wd s B0 L xs dC dI cs h H locs) (hl : qm_Lo mi B0 sb sa als ls) (ho : qm_So st) {r : qm_Act} {a : List Nat} {v : Int} (hd : decode (mC mi) pc = .ok (x, n)) (hq : qkB mi pc (18, a, v) x n = true) (hne : 18 ≠ 64 ∧ 18 ≠ 70 ∧ 18 ≠ 71 ∧ 18 ≠ 72 ∧ 18 ≠ 80 ∧ 18 ≠ 73) (ha : qm_act (18, a, v) ls st h = some r) (k1 : ∀ (ls' st' : List qm_AV) (h' : qm_Hp), r = .inl (ls', st', h') → ∀ (H1 : Heap) (locs1 : List Loc) (als1 : Array Slot), qm_Wd s B0 L xs dC dI cs h' H1 locs1 → qm_Lo mi B0 sb sa als1 ls' → qm_So st' → W p l e R s m args below meth c H1 locs1 cells slots Q (F0 m (pc + n) als1 (st'.map (qm_cv B0 sb sa)))) (k2 : ∀ (b : Nat) (st' : List qm_AV), r = .inr (.inl (b, st')) → qm_So st' → W p l e R s m args below meth c H locs cells slots Q (F0 m (qm_bpc mi b) als (st'.map (qm_cv B0 sb sa)))) : W p l e R s m args below meth c H locs cells slots Q (F0 m pc als (st.map (qm_cv B0 sb sa))) := by
  simp only [qkB, qk_var, Bool.or_eq_true, Bool.and_eq_true, decide_eq_true_eq] at hq
  obtain ⟨l1, s1, h1, e⟩ := qa_bin_inl _ ha
  subst e
  obtain ⟨hn, hx⟩ := hq
  subst hn; rw [hx] at hd
  exact so_ishl X hw hl ho hd ha (k1 _ _ _ rfl)
theorem on_19 (X : qm_Cx p R s m args c cells slots d mi B0 sb sa sv L xs dC dI cs) (hw : qm_Wd s B0 L xs dC dI cs h H locs) (hl : qm_Lo mi B0 sb sa als ls) (ho : qm_So st) {r : qm_Act} {a : List Nat} {v : Int} (hd : decode (mC mi) pc = .ok (x, n)) (hq : qkB mi pc (19, a, v) x n = true) (hne : 19 ≠ 64 ∧ 19 ≠ 70 ∧ 19 ≠ 71 ∧ 19 ≠ 72 ∧ 19 ≠ 80 ∧ 19 ≠ 73) (ha : qm_act (19, a, v) ls st h = some r) (k1 : ∀ (ls' st' : List qm_AV) (h' : qm_Hp), r = .inl (ls', st', h') → ∀ (H1 : Heap) (locs1 : List Loc) (als1 : Array Slot), qm_Wd s B0 L xs dC dI cs h' H1 locs1 → qm_Lo mi B0 sb sa als1 ls' → qm_So st' → W p l e R s m args below meth c H1 locs1 cells slots Q (F0 m (pc + n) als1 (st'.map (qm_cv B0 sb sa)))) (k2 : ∀ (b : Nat) (st' : List qm_AV), r = .inr (.inl (b, st')) → qm_So st' → W p l e R s m args below meth c H locs cells slots Q (F0 m (qm_bpc mi b) als (st'.map (qm_cv B0 sb sa)))) : W p l e R s m args below meth c H locs cells slots Q (F0 m pc als (st.map (qm_cv B0 sb sa))) := by
  simp only [qkB, qk_var, Bool.or_eq_true, Bool.and_eq_true, decide_eq_true_eq] at hq
  obtain ⟨l1, s1, h1, e⟩ := qa_bin_inl _ ha
  subst e
  obtain ⟨hn, hx⟩ := hq
  subst hn; rw [hx] at hd
  exact so_ishr X hw hl ho hd ha (k1 _ _ _ rfl)
theorem on_20 (X : qm_Cx p R s m args c cells slots d mi B0 sb sa sv L xs dC dI cs) (hw : qm_Wd s B0 L xs dC dI cs h H locs) (hl : qm_Lo mi B0 sb sa als ls) (ho : qm_So st) {r : qm_Act} {a : List Nat} {v : Int} (hd : decode (mC mi) pc = .ok (x, n)) (hq : qkB mi pc (20, a, v) x n = true) (hne : 20 ≠ 64 ∧ 20 ≠ 70 ∧ 20 ≠ 71 ∧ 20 ≠ 72 ∧ 20 ≠ 80 ∧ 20 ≠ 73) (ha : qm_act (20, a, v) ls st h = some r) (k1 : ∀ (ls' st' : List qm_AV) (h' : qm_Hp), r = .inl (ls', st', h') → ∀ (H1 : Heap) (locs1 : List Loc) (als1 : Array Slot), qm_Wd s B0 L xs dC dI cs h' H1 locs1 → qm_Lo mi B0 sb sa als1 ls' → qm_So st' → W p l e R s m args below meth c H1 locs1 cells slots Q (F0 m (pc + n) als1 (st'.map (qm_cv B0 sb sa)))) (k2 : ∀ (b : Nat) (st' : List qm_AV), r = .inr (.inl (b, st')) → qm_So st' → W p l e R s m args below meth c H locs cells slots Q (F0 m (qm_bpc mi b) als (st'.map (qm_cv B0 sb sa)))) : W p l e R s m args below meth c H locs cells slots Q (F0 m pc als (st.map (qm_cv B0 sb sa))) := by
  simp only [qkB, qk_var, Bool.or_eq_true, Bool.and_eq_true, decide_eq_true_eq] at hq
  obtain ⟨l1, s1, h1, e⟩ := qa_bin_inl _ ha
  subst e
  obtain ⟨hn, hx⟩ := hq
  subst hn; rw [hx] at hd
  exact so_iushr X hw hl ho hd ha (k1 _ _ _ rfl)
theorem on_21 (X : qm_Cx p R s m args c cells slots d mi B0 sb sa sv L xs dC dI cs) (hw : qm_Wd s B0 L xs dC dI cs h H locs) (hl : qm_Lo mi B0 sb sa als ls) (ho : qm_So st) {r : qm_Act} {a : List Nat} {v : Int} (hd : decode (mC mi) pc = .ok (x, n)) (hq : qkB mi pc (21, a, v) x n = true) (hne : 21 ≠ 64 ∧ 21 ≠ 70 ∧ 21 ≠ 71 ∧ 21 ≠ 72 ∧ 21 ≠ 80 ∧ 21 ≠ 73) (ha : qm_act (21, a, v) ls st h = some r) (k1 : ∀ (ls' st' : List qm_AV) (h' : qm_Hp), r = .inl (ls', st', h') → ∀ (H1 : Heap) (locs1 : List Loc) (als1 : Array Slot), qm_Wd s B0 L xs dC dI cs h' H1 locs1 → qm_Lo mi B0 sb sa als1 ls' → qm_So st' → W p l e R s m args below meth c H1 locs1 cells slots Q (F0 m (pc + n) als1 (st'.map (qm_cv B0 sb sa)))) (k2 : ∀ (b : Nat) (st' : List qm_AV), r = .inr (.inl (b, st')) → qm_So st' → W p l e R s m args below meth c H locs cells slots Q (F0 m (qm_bpc mi b) als (st'.map (qm_cv B0 sb sa)))) : W p l e R s m args below meth c H locs cells slots Q (F0 m pc als (st.map (qm_cv B0 sb sa))) := by
  simp only [qkB, qk_var, Bool.or_eq_true, Bool.and_eq_true, decide_eq_true_eq] at hq
  obtain ⟨l1, s1, h1, e⟩ := qa_lbin_inl _ ha
  subst e
  obtain ⟨hn, hx⟩ := hq
  subst hn; rw [hx] at hd
  exact so_ladd X hw hl ho hd ha (k1 _ _ _ rfl)
theorem on_22 (X : qm_Cx p R s m args c cells slots d mi B0 sb sa sv L xs dC dI cs) (hw : qm_Wd s B0 L xs dC dI cs h H locs) (hl : qm_Lo mi B0 sb sa als ls) (ho : qm_So st) {r : qm_Act} {a : List Nat} {v : Int} (hd : decode (mC mi) pc = .ok (x, n)) (hq : qkB mi pc (22, a, v) x n = true) (hne : 22 ≠ 64 ∧ 22 ≠ 70 ∧ 22 ≠ 71 ∧ 22 ≠ 72 ∧ 22 ≠ 80 ∧ 22 ≠ 73) (ha : qm_act (22, a, v) ls st h = some r) (k1 : ∀ (ls' st' : List qm_AV) (h' : qm_Hp), r = .inl (ls', st', h') → ∀ (H1 : Heap) (locs1 : List Loc) (als1 : Array Slot), qm_Wd s B0 L xs dC dI cs h' H1 locs1 → qm_Lo mi B0 sb sa als1 ls' → qm_So st' → W p l e R s m args below meth c H1 locs1 cells slots Q (F0 m (pc + n) als1 (st'.map (qm_cv B0 sb sa)))) (k2 : ∀ (b : Nat) (st' : List qm_AV), r = .inr (.inl (b, st')) → qm_So st' → W p l e R s m args below meth c H locs cells slots Q (F0 m (qm_bpc mi b) als (st'.map (qm_cv B0 sb sa)))) : W p l e R s m args below meth c H locs cells slots Q (F0 m pc als (st.map (qm_cv B0 sb sa))) := by
  simp only [qkB, qk_var, Bool.or_eq_true, Bool.and_eq_true, decide_eq_true_eq] at hq
  obtain ⟨l1, s1, h1, e⟩ := qa_lbin_inl _ ha
  subst e
  obtain ⟨hn, hx⟩ := hq
  subst hn; rw [hx] at hd
  exact so_lsub X hw hl ho hd ha (k1 _ _ _ rfl)
theorem on_23 (X : qm_Cx p R s m args c cells slots d mi B0 sb sa sv L xs dC dI cs) (hw : qm_Wd s B0 L xs dC dI cs h H locs) (hl : qm_Lo mi B0 sb sa als ls) (ho : qm_So st) {r : qm_Act} {a : List Nat} {v : Int} (hd : decode (mC mi) pc = .ok (x, n)) (hq : qkB mi pc (23, a, v) x n = true) (hne : 23 ≠ 64 ∧ 23 ≠ 70 ∧ 23 ≠ 71 ∧ 23 ≠ 72 ∧ 23 ≠ 80 ∧ 23 ≠ 73) (ha : qm_act (23, a, v) ls st h = some r) (k1 : ∀ (ls' st' : List qm_AV) (h' : qm_Hp), r = .inl (ls', st', h') → ∀ (H1 : Heap) (locs1 : List Loc) (als1 : Array Slot), qm_Wd s B0 L xs dC dI cs h' H1 locs1 → qm_Lo mi B0 sb sa als1 ls' → qm_So st' → W p l e R s m args below meth c H1 locs1 cells slots Q (F0 m (pc + n) als1 (st'.map (qm_cv B0 sb sa)))) (k2 : ∀ (b : Nat) (st' : List qm_AV), r = .inr (.inl (b, st')) → qm_So st' → W p l e R s m args below meth c H locs cells slots Q (F0 m (qm_bpc mi b) als (st'.map (qm_cv B0 sb sa)))) : W p l e R s m args below meth c H locs cells slots Q (F0 m pc als (st.map (qm_cv B0 sb sa))) := by
  simp only [qkB, qk_var, Bool.or_eq_true, Bool.and_eq_true, decide_eq_true_eq] at hq
  obtain ⟨l1, s1, h1, e⟩ := qa_lbin_inl _ ha
  subst e
  obtain ⟨hn, hx⟩ := hq
  subst hn; rw [hx] at hd
  exact so_lmul X hw hl ho hd ha (k1 _ _ _ rfl)
theorem on_24 (X : qm_Cx p R s m args c cells slots d mi B0 sb sa sv L xs dC dI cs) (hw : qm_Wd s B0 L xs dC dI cs h H locs) (hl : qm_Lo mi B0 sb sa als ls) (ho : qm_So st) {r : qm_Act} {a : List Nat} {v : Int} (hd : decode (mC mi) pc = .ok (x, n)) (hq : qkB mi pc (24, a, v) x n = true) (hne : 24 ≠ 64 ∧ 24 ≠ 70 ∧ 24 ≠ 71 ∧ 24 ≠ 72 ∧ 24 ≠ 80 ∧ 24 ≠ 73) (ha : qm_act (24, a, v) ls st h = some r) (k1 : ∀ (ls' st' : List qm_AV) (h' : qm_Hp), r = .inl (ls', st', h') → ∀ (H1 : Heap) (locs1 : List Loc) (als1 : Array Slot), qm_Wd s B0 L xs dC dI cs h' H1 locs1 → qm_Lo mi B0 sb sa als1 ls' → qm_So st' → W p l e R s m args below meth c H1 locs1 cells slots Q (F0 m (pc + n) als1 (st'.map (qm_cv B0 sb sa)))) (k2 : ∀ (b : Nat) (st' : List qm_AV), r = .inr (.inl (b, st')) → qm_So st' → W p l e R s m args below meth c H locs cells slots Q (F0 m (qm_bpc mi b) als (st'.map (qm_cv B0 sb sa)))) : W p l e R s m args below meth c H locs cells slots Q (F0 m pc als (st.map (qm_cv B0 sb sa))) := by
  simp only [qkB, qk_var, Bool.or_eq_true, Bool.and_eq_true, decide_eq_true_eq] at hq
  obtain ⟨l1, s1, h1, e⟩ := qa_ldiv_inl ha
  subst e
  obtain ⟨hn, hx⟩ := hq
  subst hn; rw [hx] at hd
  exact so_ldiv X hw hl ho hd ha (k1 _ _ _ rfl)
theorem on_25 (X : qm_Cx p R s m args c cells slots d mi B0 sb sa sv L xs dC dI cs) (hw : qm_Wd s B0 L xs dC dI cs h H locs) (hl : qm_Lo mi B0 sb sa als ls) (ho : qm_So st) {r : qm_Act} {a : List Nat} {v : Int} (hd : decode (mC mi) pc = .ok (x, n)) (hq : qkB mi pc (25, a, v) x n = true) (hne : 25 ≠ 64 ∧ 25 ≠ 70 ∧ 25 ≠ 71 ∧ 25 ≠ 72 ∧ 25 ≠ 80 ∧ 25 ≠ 73) (ha : qm_act (25, a, v) ls st h = some r) (k1 : ∀ (ls' st' : List qm_AV) (h' : qm_Hp), r = .inl (ls', st', h') → ∀ (H1 : Heap) (locs1 : List Loc) (als1 : Array Slot), qm_Wd s B0 L xs dC dI cs h' H1 locs1 → qm_Lo mi B0 sb sa als1 ls' → qm_So st' → W p l e R s m args below meth c H1 locs1 cells slots Q (F0 m (pc + n) als1 (st'.map (qm_cv B0 sb sa)))) (k2 : ∀ (b : Nat) (st' : List qm_AV), r = .inr (.inl (b, st')) → qm_So st' → W p l e R s m args below meth c H locs cells slots Q (F0 m (qm_bpc mi b) als (st'.map (qm_cv B0 sb sa)))) : W p l e R s m args below meth c H locs cells slots Q (F0 m pc als (st.map (qm_cv B0 sb sa))) := by
  simp only [qkB, qk_var, Bool.or_eq_true, Bool.and_eq_true, decide_eq_true_eq] at hq
  obtain ⟨l1, s1, h1, e⟩ := qa_lneg_inl ha
  subst e
  obtain ⟨hn, hx⟩ := hq
  subst hn; rw [hx] at hd
  exact so_lneg X hw hl ho hd ha (k1 _ _ _ rfl)
theorem on_26 (X : qm_Cx p R s m args c cells slots d mi B0 sb sa sv L xs dC dI cs) (hw : qm_Wd s B0 L xs dC dI cs h H locs) (hl : qm_Lo mi B0 sb sa als ls) (ho : qm_So st) {r : qm_Act} {a : List Nat} {v : Int} (hd : decode (mC mi) pc = .ok (x, n)) (hq : qkB mi pc (26, a, v) x n = true) (hne : 26 ≠ 64 ∧ 26 ≠ 70 ∧ 26 ≠ 71 ∧ 26 ≠ 72 ∧ 26 ≠ 80 ∧ 26 ≠ 73) (ha : qm_act (26, a, v) ls st h = some r) (k1 : ∀ (ls' st' : List qm_AV) (h' : qm_Hp), r = .inl (ls', st', h') → ∀ (H1 : Heap) (locs1 : List Loc) (als1 : Array Slot), qm_Wd s B0 L xs dC dI cs h' H1 locs1 → qm_Lo mi B0 sb sa als1 ls' → qm_So st' → W p l e R s m args below meth c H1 locs1 cells slots Q (F0 m (pc + n) als1 (st'.map (qm_cv B0 sb sa)))) (k2 : ∀ (b : Nat) (st' : List qm_AV), r = .inr (.inl (b, st')) → qm_So st' → W p l e R s m args below meth c H locs cells slots Q (F0 m (qm_bpc mi b) als (st'.map (qm_cv B0 sb sa)))) : W p l e R s m args below meth c H locs cells slots Q (F0 m pc als (st.map (qm_cv B0 sb sa))) := by
  simp only [qkB, qk_var, Bool.or_eq_true, Bool.and_eq_true, decide_eq_true_eq] at hq
  obtain ⟨l1, s1, h1, e⟩ := qa_lbin_inl _ ha
  subst e
  obtain ⟨hn, hx⟩ := hq
  subst hn; rw [hx] at hd
  exact so_land X hw hl ho hd ha (k1 _ _ _ rfl)
theorem on_27 (X : qm_Cx p R s m args c cells slots d mi B0 sb sa sv L xs dC dI cs) (hw : qm_Wd s B0 L xs dC dI cs h H locs) (hl : qm_Lo mi B0 sb sa als ls) (ho : qm_So st) {r : qm_Act} {a : List Nat} {v : Int} (hd : decode (mC mi) pc = .ok (x, n)) (hq : qkB mi pc (27, a, v) x n = true) (hne : 27 ≠ 64 ∧ 27 ≠ 70 ∧ 27 ≠ 71 ∧ 27 ≠ 72 ∧ 27 ≠ 80 ∧ 27 ≠ 73) (ha : qm_act (27, a, v) ls st h = some r) (k1 : ∀ (ls' st' : List qm_AV) (h' : qm_Hp), r = .inl (ls', st', h') → ∀ (H1 : Heap) (locs1 : List Loc) (als1 : Array Slot), qm_Wd s B0 L xs dC dI cs h' H1 locs1 → qm_Lo mi B0 sb sa als1 ls' → qm_So st' → W p l e R s m args below meth c H1 locs1 cells slots Q (F0 m (pc + n) als1 (st'.map (qm_cv B0 sb sa)))) (k2 : ∀ (b : Nat) (st' : List qm_AV), r = .inr (.inl (b, st')) → qm_So st' → W p l e R s m args below meth c H locs cells slots Q (F0 m (qm_bpc mi b) als (st'.map (qm_cv B0 sb sa)))) : W p l e R s m args below meth c H locs cells slots Q (F0 m pc als (st.map (qm_cv B0 sb sa))) := by
  simp only [qkB, qk_var, Bool.or_eq_true, Bool.and_eq_true, decide_eq_true_eq] at hq
  obtain ⟨l1, s1, h1, e⟩ := qa_lbin_inl _ ha
  subst e
  obtain ⟨hn, hx⟩ := hq
  subst hn; rw [hx] at hd
  exact so_lor X hw hl ho hd ha (k1 _ _ _ rfl)
theorem on_28 (X : qm_Cx p R s m args c cells slots d mi B0 sb sa sv L xs dC dI cs) (hw : qm_Wd s B0 L xs dC dI cs h H locs) (hl : qm_Lo mi B0 sb sa als ls) (ho : qm_So st) {r : qm_Act} {a : List Nat} {v : Int} (hd : decode (mC mi) pc = .ok (x, n)) (hq : qkB mi pc (28, a, v) x n = true) (hne : 28 ≠ 64 ∧ 28 ≠ 70 ∧ 28 ≠ 71 ∧ 28 ≠ 72 ∧ 28 ≠ 80 ∧ 28 ≠ 73) (ha : qm_act (28, a, v) ls st h = some r) (k1 : ∀ (ls' st' : List qm_AV) (h' : qm_Hp), r = .inl (ls', st', h') → ∀ (H1 : Heap) (locs1 : List Loc) (als1 : Array Slot), qm_Wd s B0 L xs dC dI cs h' H1 locs1 → qm_Lo mi B0 sb sa als1 ls' → qm_So st' → W p l e R s m args below meth c H1 locs1 cells slots Q (F0 m (pc + n) als1 (st'.map (qm_cv B0 sb sa)))) (k2 : ∀ (b : Nat) (st' : List qm_AV), r = .inr (.inl (b, st')) → qm_So st' → W p l e R s m args below meth c H locs cells slots Q (F0 m (qm_bpc mi b) als (st'.map (qm_cv B0 sb sa)))) : W p l e R s m args below meth c H locs cells slots Q (F0 m pc als (st.map (qm_cv B0 sb sa))) := by
  simp only [qkB, qk_var, Bool.or_eq_true, Bool.and_eq_true, decide_eq_true_eq] at hq
  obtain ⟨l1, s1, h1, e⟩ := qa_lshl_inl ha
  subst e
  obtain ⟨hn, hx⟩ := hq
  subst hn; rw [hx] at hd
  exact so_lshl X hw hl ho hd ha (k1 _ _ _ rfl)
theorem on_29 (X : qm_Cx p R s m args c cells slots d mi B0 sb sa sv L xs dC dI cs) (hw : qm_Wd s B0 L xs dC dI cs h H locs) (hl : qm_Lo mi B0 sb sa als ls) (ho : qm_So st) {r : qm_Act} {a : List Nat} {v : Int} (hd : decode (mC mi) pc = .ok (x, n)) (hq : qkB mi pc (29, a, v) x n = true) (hne : 29 ≠ 64 ∧ 29 ≠ 70 ∧ 29 ≠ 71 ∧ 29 ≠ 72 ∧ 29 ≠ 80 ∧ 29 ≠ 73) (ha : qm_act (29, a, v) ls st h = some r) (k1 : ∀ (ls' st' : List qm_AV) (h' : qm_Hp), r = .inl (ls', st', h') → ∀ (H1 : Heap) (locs1 : List Loc) (als1 : Array Slot), qm_Wd s B0 L xs dC dI cs h' H1 locs1 → qm_Lo mi B0 sb sa als1 ls' → qm_So st' → W p l e R s m args below meth c H1 locs1 cells slots Q (F0 m (pc + n) als1 (st'.map (qm_cv B0 sb sa)))) (k2 : ∀ (b : Nat) (st' : List qm_AV), r = .inr (.inl (b, st')) → qm_So st' → W p l e R s m args below meth c H locs cells slots Q (F0 m (qm_bpc mi b) als (st'.map (qm_cv B0 sb sa)))) : W p l e R s m args below meth c H locs cells slots Q (F0 m pc als (st.map (qm_cv B0 sb sa))) := by
  simp only [qkB, qk_var, Bool.or_eq_true, Bool.and_eq_true, decide_eq_true_eq] at hq
  obtain ⟨l1, s1, h1, e⟩ := qa_lcmp_inl ha
  subst e
  obtain ⟨hn, hx⟩ := hq
  subst hn; rw [hx] at hd
  exact so_lcmp X hw hl ho hd ha (k1 _ _ _ rfl)
theorem on_30 (X : qm_Cx p R s m args c cells slots d mi B0 sb sa sv L xs dC dI cs) (hw : qm_Wd s B0 L xs dC dI cs h H locs) (hl : qm_Lo mi B0 sb sa als ls) (ho : qm_So st) {r : qm_Act} {a : List Nat} {v : Int} (hd : decode (mC mi) pc = .ok (x, n)) (hq : qkB mi pc (30, a, v) x n = true) (hne : 30 ≠ 64 ∧ 30 ≠ 70 ∧ 30 ≠ 71 ∧ 30 ≠ 72 ∧ 30 ≠ 80 ∧ 30 ≠ 73) (ha : qm_act (30, a, v) ls st h = some r) (k1 : ∀ (ls' st' : List qm_AV) (h' : qm_Hp), r = .inl (ls', st', h') → ∀ (H1 : Heap) (locs1 : List Loc) (als1 : Array Slot), qm_Wd s B0 L xs dC dI cs h' H1 locs1 → qm_Lo mi B0 sb sa als1 ls' → qm_So st' → W p l e R s m args below meth c H1 locs1 cells slots Q (F0 m (pc + n) als1 (st'.map (qm_cv B0 sb sa)))) (k2 : ∀ (b : Nat) (st' : List qm_AV), r = .inr (.inl (b, st')) → qm_So st' → W p l e R s m args below meth c H locs cells slots Q (F0 m (qm_bpc mi b) als (st'.map (qm_cv B0 sb sa)))) : W p l e R s m args below meth c H locs cells slots Q (F0 m pc als (st.map (qm_cv B0 sb sa))) := by
  simp only [qkB, qk_var, Bool.or_eq_true, Bool.and_eq_true, decide_eq_true_eq] at hq
  obtain ⟨l1, s1, h1, e⟩ := qa_i2l_inl ha
  subst e
  obtain ⟨hn, hx⟩ := hq
  subst hn; rw [hx] at hd
  exact so_i2l X hw hl ho hd ha (k1 _ _ _ rfl)
theorem on_31 (X : qm_Cx p R s m args c cells slots d mi B0 sb sa sv L xs dC dI cs) (hw : qm_Wd s B0 L xs dC dI cs h H locs) (hl : qm_Lo mi B0 sb sa als ls) (ho : qm_So st) {r : qm_Act} {a : List Nat} {v : Int} (hd : decode (mC mi) pc = .ok (x, n)) (hq : qkB mi pc (31, a, v) x n = true) (hne : 31 ≠ 64 ∧ 31 ≠ 70 ∧ 31 ≠ 71 ∧ 31 ≠ 72 ∧ 31 ≠ 80 ∧ 31 ≠ 73) (ha : qm_act (31, a, v) ls st h = some r) (k1 : ∀ (ls' st' : List qm_AV) (h' : qm_Hp), r = .inl (ls', st', h') → ∀ (H1 : Heap) (locs1 : List Loc) (als1 : Array Slot), qm_Wd s B0 L xs dC dI cs h' H1 locs1 → qm_Lo mi B0 sb sa als1 ls' → qm_So st' → W p l e R s m args below meth c H1 locs1 cells slots Q (F0 m (pc + n) als1 (st'.map (qm_cv B0 sb sa)))) (k2 : ∀ (b : Nat) (st' : List qm_AV), r = .inr (.inl (b, st')) → qm_So st' → W p l e R s m args below meth c H locs cells slots Q (F0 m (qm_bpc mi b) als (st'.map (qm_cv B0 sb sa)))) : W p l e R s m args below meth c H locs cells slots Q (F0 m pc als (st.map (qm_cv B0 sb sa))) := by
  simp only [qkB, qk_var, Bool.or_eq_true, Bool.and_eq_true, decide_eq_true_eq] at hq
  obtain ⟨l1, s1, h1, e⟩ := qa_l2i_inl ha
  subst e
  obtain ⟨hn, hx⟩ := hq
  subst hn; rw [hx] at hd
  exact so_l2i X hw hl ho hd ha (k1 _ _ _ rfl)
theorem on_32 (X : qm_Cx p R s m args c cells slots d mi B0 sb sa sv L xs dC dI cs) (hw : qm_Wd s B0 L xs dC dI cs h H locs) (hl : qm_Lo mi B0 sb sa als ls) (ho : qm_So st) {r : qm_Act} {a : List Nat} {v : Int} (hd : decode (mC mi) pc = .ok (x, n)) (hq : qkB mi pc (32, a, v) x n = true) (hne : 32 ≠ 64 ∧ 32 ≠ 70 ∧ 32 ≠ 71 ∧ 32 ≠ 72 ∧ 32 ≠ 80 ∧ 32 ≠ 73) (ha : qm_act (32, a, v) ls st h = some r) (k1 : ∀ (ls' st' : List qm_AV) (h' : qm_Hp), r = .inl (ls', st', h') → ∀ (H1 : Heap) (locs1 : List Loc) (als1 : Array Slot), qm_Wd s B0 L xs dC dI cs h' H1 locs1 → qm_Lo mi B0 sb sa als1 ls' → qm_So st' → W p l e R s m args below meth c H1 locs1 cells slots Q (F0 m (pc + n) als1 (st'.map (qm_cv B0 sb sa)))) (k2 : ∀ (b : Nat) (st' : List qm_AV), r = .inr (.inl (b, st')) → qm_So st' → W p l e R s m args below meth c H locs cells slots Q (F0 m (qm_bpc mi b) als (st'.map (qm_cv B0 sb sa)))) : W p l e R s m args below meth c H locs cells slots Q (F0 m pc als (st.map (qm_cv B0 sb sa))) := by
  simp only [qkB, qk_var, Bool.or_eq_true, Bool.and_eq_true, decide_eq_true_eq] at hq
  obtain ⟨l1, s1, h1, e⟩ := qa_dup_inl ha
  subst e
  obtain ⟨hn, hx⟩ := hq
  subst hn; rw [hx] at hd
  exact so_dup X hw hl ho hd ha (k1 _ _ _ rfl)
theorem on_33 (X : qm_Cx p R s m args c cells slots d mi B0 sb sa sv L xs dC dI cs) (hw : qm_Wd s B0 L xs dC dI cs h H locs) (hl : qm_Lo mi B0 sb sa als ls) (ho : qm_So st) {r : qm_Act} {a : List Nat} {v : Int} (hd : decode (mC mi) pc = .ok (x, n)) (hq : qkB mi pc (33, a, v) x n = true) (hne : 33 ≠ 64 ∧ 33 ≠ 70 ∧ 33 ≠ 71 ∧ 33 ≠ 72 ∧ 33 ≠ 80 ∧ 33 ≠ 73) (ha : qm_act (33, a, v) ls st h = some r) (k1 : ∀ (ls' st' : List qm_AV) (h' : qm_Hp), r = .inl (ls', st', h') → ∀ (H1 : Heap) (locs1 : List Loc) (als1 : Array Slot), qm_Wd s B0 L xs dC dI cs h' H1 locs1 → qm_Lo mi B0 sb sa als1 ls' → qm_So st' → W p l e R s m args below meth c H1 locs1 cells slots Q (F0 m (pc + n) als1 (st'.map (qm_cv B0 sb sa)))) (k2 : ∀ (b : Nat) (st' : List qm_AV), r = .inr (.inl (b, st')) → qm_So st' → W p l e R s m args below meth c H locs cells slots Q (F0 m (qm_bpc mi b) als (st'.map (qm_cv B0 sb sa)))) : W p l e R s m args below meth c H locs cells slots Q (F0 m pc als (st.map (qm_cv B0 sb sa))) := by
  simp only [qkB, qk_var, Bool.or_eq_true, Bool.and_eq_true, decide_eq_true_eq] at hq
  obtain ⟨l1, s1, h1, e⟩ := qa_dup2_inl ha
  subst e
  obtain ⟨hn, hx⟩ := hq
  subst hn; rw [hx] at hd
  exact so_dup2 X hw hl ho hd ha (k1 _ _ _ rfl)
theorem on_34 (X : qm_Cx p R s m args c cells slots d mi B0 sb sa sv L xs dC dI cs) (hw : qm_Wd s B0 L xs dC dI cs h H locs) (hl : qm_Lo mi B0 sb sa als ls) (ho : qm_So st) {r : qm_Act} {a : List Nat} {v : Int} (hd : decode (mC mi) pc = .ok (x, n)) (hq : qkB mi pc (34, a, v) x n = true) (hne : 34 ≠ 64 ∧ 34 ≠ 70 ∧ 34 ≠ 71 ∧ 34 ≠ 72 ∧ 34 ≠ 80 ∧ 34 ≠ 73) (ha : qm_act (34, a, v) ls st h = some r) (k1 : ∀ (ls' st' : List qm_AV) (h' : qm_Hp), r = .inl (ls', st', h') → ∀ (H1 : Heap) (locs1 : List Loc) (als1 : Array Slot), qm_Wd s B0 L xs dC dI cs h' H1 locs1 → qm_Lo mi B0 sb sa als1 ls' → qm_So st' → W p l e R s m args below meth c H1 locs1 cells slots Q (F0 m (pc + n) als1 (st'.map (qm_cv B0 sb sa)))) (k2 : ∀ (b : Nat) (st' : List qm_AV), r = .inr (.inl (b, st')) → qm_So st' → W p l e R s m args below meth c H locs cells slots Q (F0 m (qm_bpc mi b) als (st'.map (qm_cv B0 sb sa)))) : W p l e R s m args below meth c H locs cells slots Q (F0 m pc als (st.map (qm_cv B0 sb sa))) := by
  simp only [qkB, qk_var, Bool.or_eq_true, Bool.and_eq_true, decide_eq_true_eq] at hq
  obtain ⟨l1, s1, h1, e⟩ := qa_pop_inl ha
  subst e
  obtain ⟨hn, hx⟩ := hq
  subst hn; rw [hx] at hd
  exact so_pop X hw hl ho hd ha (k1 _ _ _ rfl)
theorem on_40 (X : qm_Cx p R s m args c cells slots d mi B0 sb sa sv L xs dC dI cs) (hw : qm_Wd s B0 L xs dC dI cs h H locs) (hl : qm_Lo mi B0 sb sa als ls) (ho : qm_So st) {r : qm_Act} {a : List Nat} {v : Int} (hd : decode (mC mi) pc = .ok (x, n)) (hq : qkB mi pc (40, a, v) x n = true) (hne : 40 ≠ 64 ∧ 40 ≠ 70 ∧ 40 ≠ 71 ∧ 40 ≠ 72 ∧ 40 ≠ 80 ∧ 40 ≠ 73) (ha : qm_act (40, a, v) ls st h = some r) (k1 : ∀ (ls' st' : List qm_AV) (h' : qm_Hp), r = .inl (ls', st', h') → ∀ (H1 : Heap) (locs1 : List Loc) (als1 : Array Slot), qm_Wd s B0 L xs dC dI cs h' H1 locs1 → qm_Lo mi B0 sb sa als1 ls' → qm_So st' → W p l e R s m args below meth c H1 locs1 cells slots Q (F0 m (pc + n) als1 (st'.map (qm_cv B0 sb sa)))) (k2 : ∀ (b : Nat) (st' : List qm_AV), r = .inr (.inl (b, st')) → qm_So st' → W p l e R s m args below meth c H locs cells slots Q (F0 m (qm_bpc mi b) als (st'.map (qm_cv B0 sb sa)))) : W p l e R s m args below meth c H locs cells slots Q (F0 m pc als (st.map (qm_cv B0 sb sa))) := by
  rcases a with _ | ⟨k, _ | ⟨f, _ | ⟨k9, a9⟩⟩⟩
  · cases hq
  · cases hq
  · simp only [qkB, qk_var, Bool.or_eq_true, Bool.and_eq_true, decide_eq_true_eq] at hq
    obtain ⟨l1, s1, h1, e⟩ := qa_getI_inl _ ha
    subst e
    obtain ⟨⟨⟨hn, hx⟩, hm⟩, hk⟩ := hq
    subst hn; rw [hx] at hd
    exact so_getI X hw hl ho hk hm hd ha (k1 _ _ _ rfl)
  · cases hq
theorem on_41 (X : qm_Cx p R s m args c cells slots d mi B0 sb sa sv L xs dC dI cs) (hw : qm_Wd s B0 L xs dC dI cs h H locs) (hl : qm_Lo mi B0 sb sa als ls) (ho : qm_So st) {r : qm_Act} {a : List Nat} {v : Int} (hd : decode (mC mi) pc = .ok (x, n)) (hq : qkB mi pc (41, a, v) x n = true) (hne : 41 ≠ 64 ∧ 41 ≠ 70 ∧ 41 ≠ 71 ∧ 41 ≠ 72 ∧ 41 ≠ 80 ∧ 41 ≠ 73) (ha : qm_act (41, a, v) ls st h = some r) (k1 : ∀ (ls' st' : List qm_AV) (h' : qm_Hp), r = .inl (ls', st', h') → ∀ (H1 : Heap) (locs1 : List Loc) (als1 : Array Slot), qm_Wd s B0 L xs dC dI cs h' H1 locs1 → qm_Lo mi B0 sb sa als1 ls' → qm_So st' → W p l e R s m args below meth c H1 locs1 cells slots Q (F0 m (pc + n) als1 (st'.map (qm_cv B0 sb sa)))) (k2 : ∀ (b : Nat) (st' : List qm_AV), r = .inr (.inl (b, st')) → qm_So st' → W p l e R s m args below meth c H locs cells slots Q (F0 m (qm_bpc mi b) als (st'.map (qm_cv B0 sb sa)))) : W p l e R s m args below meth c H locs cells slots Q (F0 m pc als (st.map (qm_cv B0 sb sa))) := by
  rcases a with _ | ⟨k, _ | ⟨f, _ | ⟨k9, a9⟩⟩⟩
  · cases hq
  · cases hq
  · simp only [qkB, qk_var, Bool.or_eq_true, Bool.and_eq_true, decide_eq_true_eq] at hq
    obtain ⟨l1, s1, h1, e⟩ := qa_getL_inl _ ha
    subst e
    obtain ⟨⟨⟨hn, hx⟩, hm⟩, hk⟩ := hq
    subst hn; rw [hx] at hd
    exact so_getL X hw hl ho hk hm hd ha (k1 _ _ _ rfl)
  · cases hq
theorem on_42 (X : qm_Cx p R s m args c cells slots d mi B0 sb sa sv L xs dC dI cs) (hw : qm_Wd s B0 L xs dC dI cs h H locs) (hl : qm_Lo mi B0 sb sa als ls) (ho : qm_So st) {r : qm_Act} {a : List Nat} {v : Int} (hd : decode (mC mi) pc = .ok (x, n)) (hq : qkB mi pc (42, a, v) x n = true) (hne : 42 ≠ 64 ∧ 42 ≠ 70 ∧ 42 ≠ 71 ∧ 42 ≠ 72 ∧ 42 ≠ 80 ∧ 42 ≠ 73) (ha : qm_act (42, a, v) ls st h = some r) (k1 : ∀ (ls' st' : List qm_AV) (h' : qm_Hp), r = .inl (ls', st', h') → ∀ (H1 : Heap) (locs1 : List Loc) (als1 : Array Slot), qm_Wd s B0 L xs dC dI cs h' H1 locs1 → qm_Lo mi B0 sb sa als1 ls' → qm_So st' → W p l e R s m args below meth c H1 locs1 cells slots Q (F0 m (pc + n) als1 (st'.map (qm_cv B0 sb sa)))) (k2 : ∀ (b : Nat) (st' : List qm_AV), r = .inr (.inl (b, st')) → qm_So st' → W p l e R s m args below meth c H locs cells slots Q (F0 m (qm_bpc mi b) als (st'.map (qm_cv B0 sb sa)))) : W p l e R s m args below meth c H locs cells slots Q (F0 m pc als (st.map (qm_cv B0 sb sa))) := by
  rcases a with _ | ⟨k, _ | ⟨f, _ | ⟨t, _ | ⟨mu, _ | ⟨ad, _ | ⟨k9, a9⟩⟩⟩⟩⟩⟩
  · cases hq
  · cases hq
  · cases hq
  · cases hq
  · cases hq
  · simp only [qkB, qk_var, Bool.or_eq_true, Bool.and_eq_true, decide_eq_true_eq] at hq
    obtain ⟨l1, s1, h1, e⟩ := qa_getP_inl _ ha
    subst e
    obtain ⟨⟨⟨⟨hn, hx⟩, hm⟩, hk⟩, ht⟩ := hq
    subst hn; rw [hx] at hd
    exact so_getP X hw hl ho hk ht hm hd ha (k1 _ _ _ rfl)
  · cases hq
theorem on_43 (X : qm_Cx p R s m args c cells slots d mi B0 sb sa sv L xs dC dI cs) (hw : qm_Wd s B0 L xs dC dI cs h H locs) (hl : qm_Lo mi B0 sb sa als ls) (ho : qm_So st) {r : qm_Act} {a : List Nat} {v : Int} (hd : decode (mC mi) pc = .ok (x, n)) (hq : qkB mi pc (43, a, v) x n = true) (hne : 43 ≠ 64 ∧ 43 ≠ 70 ∧ 43 ≠ 71 ∧ 43 ≠ 72 ∧ 43 ≠ 80 ∧ 43 ≠ 73) (ha : qm_act (43, a, v) ls st h = some r) (k1 : ∀ (ls' st' : List qm_AV) (h' : qm_Hp), r = .inl (ls', st', h') → ∀ (H1 : Heap) (locs1 : List Loc) (als1 : Array Slot), qm_Wd s B0 L xs dC dI cs h' H1 locs1 → qm_Lo mi B0 sb sa als1 ls' → qm_So st' → W p l e R s m args below meth c H1 locs1 cells slots Q (F0 m (pc + n) als1 (st'.map (qm_cv B0 sb sa)))) (k2 : ∀ (b : Nat) (st' : List qm_AV), r = .inr (.inl (b, st')) → qm_So st' → W p l e R s m args below meth c H locs cells slots Q (F0 m (qm_bpc mi b) als (st'.map (qm_cv B0 sb sa)))) : W p l e R s m args below meth c H locs cells slots Q (F0 m pc als (st.map (qm_cv B0 sb sa))) := by
  rcases a with _ | ⟨k, _ | ⟨f, _ | ⟨k9, a9⟩⟩⟩
  · cases hq
  · cases hq
  · simp only [qkB, qk_var, Bool.or_eq_true, Bool.and_eq_true, decide_eq_true_eq] at hq
    obtain ⟨l1, s1, h1, e⟩ := qa_getM_inl _ ha
    subst e
    obtain ⟨⟨⟨hn, hx⟩, hm⟩, hk⟩ := hq
    subst hn; rw [hx] at hd
    exact so_getM X hw hl ho hk hm hd ha (k1 _ _ _ rfl)
  · cases hq
theorem on_44 (X : qm_Cx p R s m args c cells slots d mi B0 sb sa sv L xs dC dI cs) (hw : qm_Wd s B0 L xs dC dI cs h H locs) (hl : qm_Lo mi B0 sb sa als ls) (ho : qm_So st) {r : qm_Act} {a : List Nat} {v : Int} (hd : decode (mC mi) pc = .ok (x, n)) (hq : qkB mi pc (44, a, v) x n = true) (hne : 44 ≠ 64 ∧ 44 ≠ 70 ∧ 44 ≠ 71 ∧ 44 ≠ 72 ∧ 44 ≠ 80 ∧ 44 ≠ 73) (ha : qm_act (44, a, v) ls st h = some r) (k1 : ∀ (ls' st' : List qm_AV) (h' : qm_Hp), r = .inl (ls', st', h') → ∀ (H1 : Heap) (locs1 : List Loc) (als1 : Array Slot), qm_Wd s B0 L xs dC dI cs h' H1 locs1 → qm_Lo mi B0 sb sa als1 ls' → qm_So st' → W p l e R s m args below meth c H1 locs1 cells slots Q (F0 m (pc + n) als1 (st'.map (qm_cv B0 sb sa)))) (k2 : ∀ (b : Nat) (st' : List qm_AV), r = .inr (.inl (b, st')) → qm_So st' → W p l e R s m args below meth c H locs cells slots Q (F0 m (qm_bpc mi b) als (st'.map (qm_cv B0 sb sa)))) : W p l e R s m args below meth c H locs cells slots Q (F0 m pc als (st.map (qm_cv B0 sb sa))) := by
  rcases a with _ | ⟨k, _ | ⟨f, _ | ⟨k9, a9⟩⟩⟩
  · cases hq
  · cases hq
  · simp only [qkB, qk_var, Bool.or_eq_true, Bool.and_eq_true, decide_eq_true_eq] at hq
    obtain ⟨l1, s1, h1, e⟩ := qa_putI_inl _ ha
    subst e
    obtain ⟨⟨⟨⟨hn, hx⟩, hm⟩, hk⟩, hfin⟩ := hq
    subst hn; rw [hx] at hd
    exact so_putI X hw hl ho hk hfin hm hd ha (k1 _ _ _ rfl)
  · cases hq
theorem on_45 (X : qm_Cx p R s m args c cells slots d mi B0 sb sa sv L xs dC dI cs) (hw : qm_Wd s B0 L xs dC dI cs h H locs) (hl : qm_Lo mi B0 sb sa als ls) (ho : qm_So st) {r : qm_Act} {a : List Nat} {v : Int} (hd : decode (mC mi) pc = .ok (x, n)) (hq : qkB mi pc (45, a, v) x n = true) (hne : 45 ≠ 64 ∧ 45 ≠ 70 ∧ 45 ≠ 71 ∧ 45 ≠ 72 ∧ 45 ≠ 80 ∧ 45 ≠ 73) (ha : qm_act (45, a, v) ls st h = some r) (k1 : ∀ (ls' st' : List qm_AV) (h' : qm_Hp), r = .inl (ls', st', h') → ∀ (H1 : Heap) (locs1 : List Loc) (als1 : Array Slot), qm_Wd s B0 L xs dC dI cs h' H1 locs1 → qm_Lo mi B0 sb sa als1 ls' → qm_So st' → W p l e R s m args below meth c H1 locs1 cells slots Q (F0 m (pc + n) als1 (st'.map (qm_cv B0 sb sa)))) (k2 : ∀ (b : Nat) (st' : List qm_AV), r = .inr (.inl (b, st')) → qm_So st' → W p l e R s m args below meth c H locs cells slots Q (F0 m (qm_bpc mi b) als (st'.map (qm_cv B0 sb sa)))) : W p l e R s m args below meth c H locs cells slots Q (F0 m pc als (st.map (qm_cv B0 sb sa))) := by
  rcases a with _ | ⟨k, _ | ⟨f, _ | ⟨k9, a9⟩⟩⟩
  · cases hq
  · cases hq
  · simp only [qkB, qk_var, Bool.or_eq_true, Bool.and_eq_true, decide_eq_true_eq] at hq
    obtain ⟨l1, s1, h1, e⟩ := qa_putL_inl _ ha
    subst e
    obtain ⟨⟨⟨⟨hn, hx⟩, hm⟩, hk⟩, hfin⟩ := hq
    subst hn; rw [hx] at hd
    exact so_putL X hw hl ho hk hfin hm hd ha (k1 _ _ _ rfl)
  · cases hq
theorem on_46 (X : qm_Cx p R s m args c cells slots d mi B0 sb sa sv L xs dC dI cs) (hw : qm_Wd s B0 L xs dC dI cs h H locs) (hl : qm_Lo mi B0 sb sa als ls) (ho : qm_So st) {r : qm_Act} {a : List Nat} {v : Int} (hd : decode (mC mi) pc = .ok (x, n)) (hq : qkB mi pc (46, a, v) x n = true) (hne : 46 ≠ 64 ∧ 46 ≠ 70 ∧ 46 ≠ 71 ∧ 46 ≠ 72 ∧ 46 ≠ 80 ∧ 46 ≠ 73) (ha : qm_act (46, a, v) ls st h = some r) (k1 : ∀ (ls' st' : List qm_AV) (h' : qm_Hp), r = .inl (ls', st', h') → ∀ (H1 : Heap) (locs1 : List Loc) (als1 : Array Slot), qm_Wd s B0 L xs dC dI cs h' H1 locs1 → qm_Lo mi B0 sb sa als1 ls' → qm_So st' → W p l e R s m args below meth c H1 locs1 cells slots Q (F0 m (pc + n) als1 (st'.map (qm_cv B0 sb sa)))) (k2 : ∀ (b : Nat) (st' : List qm_AV), r = .inr (.inl (b, st')) → qm_So st' → W p l e R s m args below meth c H locs cells slots Q (F0 m (qm_bpc mi b) als (st'.map (qm_cv B0 sb sa)))) : W p l e R s m args below meth c H locs cells slots Q (F0 m pc als (st.map (qm_cv B0 sb sa))) := by
  rcases a with _ | ⟨k, _ | ⟨f, _ | ⟨t, _ | ⟨k9, a9⟩⟩⟩⟩
  · cases hq
  · cases hq
  · cases hq
  · simp only [qkB, qk_var, Bool.or_eq_true, Bool.and_eq_true, decide_eq_true_eq] at hq
    obtain ⟨l1, s1, h1, e⟩ := qa_putM_inl _ ha
    subst e
    obtain ⟨⟨⟨⟨⟨hn, hx⟩, hm⟩, hk⟩, hfin⟩, ht⟩ := hq
    subst hn; rw [hx] at hd
    exact so_putM X hw hl ho hk hfin hm hd ht ha (k1 _ _ _ rfl)
  · cases hq
theorem on_47 (X : qm_Cx p R s m args c cells slots d mi B0 sb sa sv L xs dC dI cs) (hw : qm_Wd s B0 L xs dC dI cs h H locs) (hl : qm_Lo mi B0 sb sa als ls) (ho : qm_So st) {r : qm_Act} {a : List Nat} {v : Int} (hd : decode (mC mi) pc = .ok (x, n)) (hq : qkB mi pc (47, a, v) x n = true) (hne : 47 ≠ 64 ∧ 47 ≠ 70 ∧ 47 ≠ 71 ∧ 47 ≠ 72 ∧ 47 ≠ 80 ∧ 47 ≠ 73) (ha : qm_act (47, a, v) ls st h = some r) (k1 : ∀ (ls' st' : List qm_AV) (h' : qm_Hp), r = .inl (ls', st', h') → ∀ (H1 : Heap) (locs1 : List Loc) (als1 : Array Slot), qm_Wd s B0 L xs dC dI cs h' H1 locs1 → qm_Lo mi B0 sb sa als1 ls' → qm_So st' → W p l e R s m args below meth c H1 locs1 cells slots Q (F0 m (pc + n) als1 (st'.map (qm_cv B0 sb sa)))) (k2 : ∀ (b : Nat) (st' : List qm_AV), r = .inr (.inl (b, st')) → qm_So st' → W p l e R s m args below meth c H locs cells slots Q (F0 m (qm_bpc mi b) als (st'.map (qm_cv B0 sb sa)))) : W p l e R s m args below meth c H locs cells slots Q (F0 m pc als (st.map (qm_cv B0 sb sa))) := by
  rcases a with _ | ⟨k, _ | ⟨f, _ | ⟨k9, a9⟩⟩⟩
  · cases hq
  · cases hq
  · simp only [qkB, qk_var, Bool.or_eq_true, Bool.and_eq_true, decide_eq_true_eq] at hq
    obtain ⟨l1, s1, h1, e⟩ := qa_putZ_inl _ ha
    subst e
    obtain ⟨⟨⟨⟨hn, hx⟩, hm⟩, hk⟩, hfin⟩ := hq
    subst hn; rw [hx] at hd
    exact so_putZ X hw hl ho hk hfin hm hd ha (k1 _ _ _ rfl)
  · cases hq
theorem on_50 (X : qm_Cx p R s m args c cells slots d mi B0 sb sa sv L xs dC dI cs) (hw : qm_Wd s B0 L xs dC dI cs h H locs) (hl : qm_Lo mi B0 sb sa als ls) (ho : qm_So st) {r : qm_Act} {a : List Nat} {v : Int} (hd : decode (mC mi) pc = .ok (x, n)) (hq : qkB mi pc (50, a, v) x n = true) (hne : 50 ≠ 64 ∧ 50 ≠ 70 ∧ 50 ≠ 71 ∧ 50 ≠ 72 ∧ 50 ≠ 80 ∧ 50 ≠ 73) (ha : qm_act (50, a, v) ls st h = some r) (k1 : ∀ (ls' st' : List qm_AV) (h' : qm_Hp), r = .inl (ls', st', h') → ∀ (H1 : Heap) (locs1 : List Loc) (als1 : Array Slot), qm_Wd s B0 L xs dC dI cs h' H1 locs1 → qm_Lo mi B0 sb sa als1 ls' → qm_So st' → W p l e R s m args below meth c H1 locs1 cells slots Q (F0 m (pc + n) als1 (st'.map (qm_cv B0 sb sa)))) (k2 : ∀ (b : Nat) (st' : List qm_AV), r = .inr (.inl (b, st')) → qm_So st' → W p l e R s m args below meth c H locs cells slots Q (F0 m (qm_bpc mi b) als (st'.map (qm_cv B0 sb sa)))) : W p l e R s m args below meth c H locs cells slots Q (F0 m pc als (st.map (qm_cv B0 sb sa))) := by
  simp only [qkB, qk_var, Bool.or_eq_true, Bool.and_eq_true, decide_eq_true_eq] at hq
  obtain ⟨l1, s1, h1, e⟩ := qa_iald_inl ha
  subst e
  obtain ⟨hn, hx⟩ := hq
  subst hn; rw [hx] at hd
  exact so_iald X hw hl ho hd ha (k1 _ _ _ rfl)
theorem on_51 (X : qm_Cx p R s m args c cells slots d mi B0 sb sa sv L xs dC dI cs) (hw : qm_Wd s B0 L xs dC dI cs h H locs) (hl : qm_Lo mi B0 sb sa als ls) (ho : qm_So st) {r : qm_Act} {a : List Nat} {v : Int} (hd : decode (mC mi) pc = .ok (x, n)) (hq : qkB mi pc (51, a, v) x n = true) (hne : 51 ≠ 64 ∧ 51 ≠ 70 ∧ 51 ≠ 71 ∧ 51 ≠ 72 ∧ 51 ≠ 80 ∧ 51 ≠ 73) (ha : qm_act (51, a, v) ls st h = some r) (k1 : ∀ (ls' st' : List qm_AV) (h' : qm_Hp), r = .inl (ls', st', h') → ∀ (H1 : Heap) (locs1 : List Loc) (als1 : Array Slot), qm_Wd s B0 L xs dC dI cs h' H1 locs1 → qm_Lo mi B0 sb sa als1 ls' → qm_So st' → W p l e R s m args below meth c H1 locs1 cells slots Q (F0 m (pc + n) als1 (st'.map (qm_cv B0 sb sa)))) (k2 : ∀ (b : Nat) (st' : List qm_AV), r = .inr (.inl (b, st')) → qm_So st' → W p l e R s m args below meth c H locs cells slots Q (F0 m (qm_bpc mi b) als (st'.map (qm_cv B0 sb sa)))) : W p l e R s m args below meth c H locs cells slots Q (F0 m pc als (st.map (qm_cv B0 sb sa))) := by
  simp only [qkB, qk_var, Bool.or_eq_true, Bool.and_eq_true, decide_eq_true_eq] at hq
  obtain ⟨l1, s1, h1, e⟩ := qa_iast_inl ha
  subst e
  obtain ⟨hn, hx⟩ := hq
  subst hn; rw [hx] at hd
  exact so_iast X hw hl ho hd ha (k1 _ _ _ rfl)
theorem on_52 (X : qm_Cx p R s m args c cells slots d mi B0 sb sa sv L xs dC dI cs) (hw : qm_Wd s B0 L xs dC dI cs h H locs) (hl : qm_Lo mi B0 sb sa als ls) (ho : qm_So st) {r : qm_Act} {a : List Nat} {v : Int} (hd : decode (mC mi) pc = .ok (x, n)) (hq : qkB mi pc (52, a, v) x n = true) (hne : 52 ≠ 64 ∧ 52 ≠ 70 ∧ 52 ≠ 71 ∧ 52 ≠ 72 ∧ 52 ≠ 80 ∧ 52 ≠ 73) (ha : qm_act (52, a, v) ls st h = some r) (k1 : ∀ (ls' st' : List qm_AV) (h' : qm_Hp), r = .inl (ls', st', h') → ∀ (H1 : Heap) (locs1 : List Loc) (als1 : Array Slot), qm_Wd s B0 L xs dC dI cs h' H1 locs1 → qm_Lo mi B0 sb sa als1 ls' → qm_So st' → W p l e R s m args below meth c H1 locs1 cells slots Q (F0 m (pc + n) als1 (st'.map (qm_cv B0 sb sa)))) (k2 : ∀ (b : Nat) (st' : List qm_AV), r = .inr (.inl (b, st')) → qm_So st' → W p l e R s m args below meth c H locs cells slots Q (F0 m (qm_bpc mi b) als (st'.map (qm_cv B0 sb sa)))) : W p l e R s m args below meth c H locs cells slots Q (F0 m pc als (st.map (qm_cv B0 sb sa))) := by
  simp only [qkB, qk_var, Bool.or_eq_true, Bool.and_eq_true, decide_eq_true_eq] at hq
  obtain ⟨l1, s1, h1, e⟩ := qa_lald_inl ha
  subst e
  obtain ⟨hn, hx⟩ := hq
  subst hn; rw [hx] at hd
  exact so_lald X hw hl ho hd ha (k1 _ _ _ rfl)
theorem on_53 (X : qm_Cx p R s m args c cells slots d mi B0 sb sa sv L xs dC dI cs) (hw : qm_Wd s B0 L xs dC dI cs h H locs) (hl : qm_Lo mi B0 sb sa als ls) (ho : qm_So st) {r : qm_Act} {a : List Nat} {v : Int} (hd : decode (mC mi) pc = .ok (x, n)) (hq : qkB mi pc (53, a, v) x n = true) (hne : 53 ≠ 64 ∧ 53 ≠ 70 ∧ 53 ≠ 71 ∧ 53 ≠ 72 ∧ 53 ≠ 80 ∧ 53 ≠ 73) (ha : qm_act (53, a, v) ls st h = some r) (k1 : ∀ (ls' st' : List qm_AV) (h' : qm_Hp), r = .inl (ls', st', h') → ∀ (H1 : Heap) (locs1 : List Loc) (als1 : Array Slot), qm_Wd s B0 L xs dC dI cs h' H1 locs1 → qm_Lo mi B0 sb sa als1 ls' → qm_So st' → W p l e R s m args below meth c H1 locs1 cells slots Q (F0 m (pc + n) als1 (st'.map (qm_cv B0 sb sa)))) (k2 : ∀ (b : Nat) (st' : List qm_AV), r = .inr (.inl (b, st')) → qm_So st' → W p l e R s m args below meth c H locs cells slots Q (F0 m (qm_bpc mi b) als (st'.map (qm_cv B0 sb sa)))) : W p l e R s m args below meth c H locs cells slots Q (F0 m pc als (st.map (qm_cv B0 sb sa))) := by
  simp only [qkB, qk_var, Bool.or_eq_true, Bool.and_eq_true, decide_eq_true_eq] at hq
  obtain ⟨l1, s1, h1, e⟩ := qa_last_inl ha
  subst e
  obtain ⟨hn, hx⟩ := hq
  subst hn; rw [hx] at hd
  exact so_last X hw hl ho hd ha (k1 _ _ _ rfl)
theorem on_54 (X : qm_Cx p R s m args c cells slots d mi B0 sb sa sv L xs dC dI cs) (hw : qm_Wd s B0 L xs dC dI cs h H locs) (hl : qm_Lo mi B0 sb sa als ls) (ho : qm_So st) {r : qm_Act} {a : List Nat} {v : Int} (hd : decode (mC mi) pc = .ok (x, n)) (hq : qkB mi pc (54, a, v) x n = true) (hne : 54 ≠ 64 ∧ 54 ≠ 70 ∧ 54 ≠ 71 ∧ 54 ≠ 72 ∧ 54 ≠ 80 ∧ 54 ≠ 73) (ha : qm_act (54, a, v) ls st h = some r) (k1 : ∀ (ls' st' : List qm_AV) (h' : qm_Hp), r = .inl (ls', st', h') → ∀ (H1 : Heap) (locs1 : List Loc) (als1 : Array Slot), qm_Wd s B0 L xs dC dI cs h' H1 locs1 → qm_Lo mi B0 sb sa als1 ls' → qm_So st' → W p l e R s m args below meth c H1 locs1 cells slots Q (F0 m (pc + n) als1 (st'.map (qm_cv B0 sb sa)))) (k2 : ∀ (b : Nat) (st' : List qm_AV), r = .inr (.inl (b, st')) → qm_So st' → W p l e R s m args below meth c H locs cells slots Q (F0 m (qm_bpc mi b) als (st'.map (qm_cv B0 sb sa)))) : W p l e R s m args below meth c H locs cells slots Q (F0 m pc als (st.map (qm_cv B0 sb sa))) := by
  simp only [qkB, qk_var, Bool.or_eq_true, Bool.and_eq_true, decide_eq_true_eq] at hq
  obtain ⟨l1, s1, h1, e⟩ := qa_bald_inl ha
  subst e
  obtain ⟨hn, hx⟩ := hq
  subst hn; rw [hx] at hd
  exact so_bald X hw hl ho hd ha (k1 _ _ _ rfl)
theorem on_55 (X : qm_Cx p R s m args c cells slots d mi B0 sb sa sv L xs dC dI cs) (hw : qm_Wd s B0 L xs dC dI cs h H locs) (hl : qm_Lo mi B0 sb sa als ls) (ho : qm_So st) {r : qm_Act} {a : List Nat} {v : Int} (hd : decode (mC mi) pc = .ok (x, n)) (hq : qkB mi pc (55, a, v) x n = true) (hne : 55 ≠ 64 ∧ 55 ≠ 70 ∧ 55 ≠ 71 ∧ 55 ≠ 72 ∧ 55 ≠ 80 ∧ 55 ≠ 73) (ha : qm_act (55, a, v) ls st h = some r) (k1 : ∀ (ls' st' : List qm_AV) (h' : qm_Hp), r = .inl (ls', st', h') → ∀ (H1 : Heap) (locs1 : List Loc) (als1 : Array Slot), qm_Wd s B0 L xs dC dI cs h' H1 locs1 → qm_Lo mi B0 sb sa als1 ls' → qm_So st' → W p l e R s m args below meth c H1 locs1 cells slots Q (F0 m (pc + n) als1 (st'.map (qm_cv B0 sb sa)))) (k2 : ∀ (b : Nat) (st' : List qm_AV), r = .inr (.inl (b, st')) → qm_So st' → W p l e R s m args below meth c H locs cells slots Q (F0 m (qm_bpc mi b) als (st'.map (qm_cv B0 sb sa)))) : W p l e R s m args below meth c H locs cells slots Q (F0 m pc als (st.map (qm_cv B0 sb sa))) := by
  simp only [qkB, qk_var, Bool.or_eq_true, Bool.and_eq_true, decide_eq_true_eq] at hq
  obtain ⟨l1, s1, h1, e⟩ := qa_bast_inl ha
  subst e
  obtain ⟨hn, hx⟩ := hq
  subst hn; rw [hx] at hd
  exact so_bast X hw hl ho hd ha (k1 _ _ _ rfl)
theorem on_56 (X : qm_Cx p R s m args c cells slots d mi B0 sb sa sv L xs dC dI cs) (hw : qm_Wd s B0 L xs dC dI cs h H locs) (hl : qm_Lo mi B0 sb sa als ls) (ho : qm_So st) {r : qm_Act} {a : List Nat} {v : Int} (hd : decode (mC mi) pc = .ok (x, n)) (hq : qkB mi pc (56, a, v) x n = true) (hne : 56 ≠ 64 ∧ 56 ≠ 70 ∧ 56 ≠ 71 ∧ 56 ≠ 72 ∧ 56 ≠ 80 ∧ 56 ≠ 73) (ha : qm_act (56, a, v) ls st h = some r) (k1 : ∀ (ls' st' : List qm_AV) (h' : qm_Hp), r = .inl (ls', st', h') → ∀ (H1 : Heap) (locs1 : List Loc) (als1 : Array Slot), qm_Wd s B0 L xs dC dI cs h' H1 locs1 → qm_Lo mi B0 sb sa als1 ls' → qm_So st' → W p l e R s m args below meth c H1 locs1 cells slots Q (F0 m (pc + n) als1 (st'.map (qm_cv B0 sb sa)))) (k2 : ∀ (b : Nat) (st' : List qm_AV), r = .inr (.inl (b, st')) → qm_So st' → W p l e R s m args below meth c H locs cells slots Q (F0 m (qm_bpc mi b) als (st'.map (qm_cv B0 sb sa)))) : W p l e R s m args below meth c H locs cells slots Q (F0 m pc als (st.map (qm_cv B0 sb sa))) := by
  simp only [qkB, qk_var, Bool.or_eq_true, Bool.and_eq_true, decide_eq_true_eq] at hq
  obtain ⟨l1, s1, h1, e⟩ := qa_aald_inl ha
  subst e
  obtain ⟨hn, hx⟩ := hq
  subst hn; rw [hx] at hd
  exact so_aald X hw hl ho hd ha (k1 _ _ _ rfl)
theorem on_57 (X : qm_Cx p R s m args c cells slots d mi B0 sb sa sv L xs dC dI cs) (hw : qm_Wd s B0 L xs dC dI cs h H locs) (hl : qm_Lo mi B0 sb sa als ls) (ho : qm_So st) {r : qm_Act} {a : List Nat} {v : Int} (hd : decode (mC mi) pc = .ok (x, n)) (hq : qkB mi pc (57, a, v) x n = true) (hne : 57 ≠ 64 ∧ 57 ≠ 70 ∧ 57 ≠ 71 ∧ 57 ≠ 72 ∧ 57 ≠ 80 ∧ 57 ≠ 73) (ha : qm_act (57, a, v) ls st h = some r) (k1 : ∀ (ls' st' : List qm_AV) (h' : qm_Hp), r = .inl (ls', st', h') → ∀ (H1 : Heap) (locs1 : List Loc) (als1 : Array Slot), qm_Wd s B0 L xs dC dI cs h' H1 locs1 → qm_Lo mi B0 sb sa als1 ls' → qm_So st' → W p l e R s m args below meth c H1 locs1 cells slots Q (F0 m (pc + n) als1 (st'.map (qm_cv B0 sb sa)))) (k2 : ∀ (b : Nat) (st' : List qm_AV), r = .inr (.inl (b, st')) → qm_So st' → W p l e R s m args below meth c H locs cells slots Q (F0 m (qm_bpc mi b) als (st'.map (qm_cv B0 sb sa)))) : W p l e R s m args below meth c H locs cells slots Q (F0 m pc als (st.map (qm_cv B0 sb sa))) := by
  simp only [qkB, qk_var, Bool.or_eq_true, Bool.and_eq_true, decide_eq_true_eq] at hq
  obtain ⟨l1, s1, h1, e⟩ := qa_alen_inl ha
  subst e
  obtain ⟨hn, hx⟩ := hq
  subst hn; rw [hx] at hd
  exact so_alen X hw hl ho hd ha (k1 _ _ _ rfl)
theorem on_58 (X : qm_Cx p R s m args c cells slots d mi B0 sb sa sv L xs dC dI cs) (hw : qm_Wd s B0 L xs dC dI cs h H locs) (hl : qm_Lo mi B0 sb sa als ls) (ho : qm_So st) {r : qm_Act} {a : List Nat} {v : Int} (hd : decode (mC mi) pc = .ok (x, n)) (hq : qkB mi pc (58, a, v) x n = true) (hne : 58 ≠ 64 ∧ 58 ≠ 70 ∧ 58 ≠ 71 ∧ 58 ≠ 72 ∧ 58 ≠ 80 ∧ 58 ≠ 73) (ha : qm_act (58, a, v) ls st h = some r) (k1 : ∀ (ls' st' : List qm_AV) (h' : qm_Hp), r = .inl (ls', st', h') → ∀ (H1 : Heap) (locs1 : List Loc) (als1 : Array Slot), qm_Wd s B0 L xs dC dI cs h' H1 locs1 → qm_Lo mi B0 sb sa als1 ls' → qm_So st' → W p l e R s m args below meth c H1 locs1 cells slots Q (F0 m (pc + n) als1 (st'.map (qm_cv B0 sb sa)))) (k2 : ∀ (b : Nat) (st' : List qm_AV), r = .inr (.inl (b, st')) → qm_So st' → W p l e R s m args below meth c H locs cells slots Q (F0 m (qm_bpc mi b) als (st'.map (qm_cv B0 sb sa)))) : W p l e R s m args below meth c H locs cells slots Q (F0 m pc als (st.map (qm_cv B0 sb sa))) := by
  have e := Option.some.inj ha
  simp only [qkB, qk_var, Bool.or_eq_true, Bool.and_eq_true, decide_eq_true_eq] at hq
  obtain ⟨⟨hn, hx⟩, hm⟩ := hq
  subst hn; rw [hx] at hd
  have hown := X.2.2.2.1
  rw [hm] at hown
  exact va_ldcS X.1 X.2.1 hown X.2.2.2.2.2.1.2.2.2.2.2.2.1 hd (k1 _ _ _ e.symm H locs als hw hl (ho.cons (Or.inr (by decide))))
theorem on_60 (X : qm_Cx p R s m args c cells slots d mi B0 sb sa sv L xs dC dI cs) (hw : qm_Wd s B0 L xs dC dI cs h H locs) (hl : qm_Lo mi B0 sb sa als ls) (ho : qm_So st) {r : qm_Act} {a : List Nat} {v : Int} (hd : decode (mC mi) pc = .ok (x, n)) (hq : qkB mi pc (60, a, v) x n = true) (hne : 60 ≠ 64 ∧ 60 ≠ 70 ∧ 60 ≠ 71 ∧ 60 ≠ 72 ∧ 60 ≠ 80 ∧ 60 ≠ 73) (ha : qm_act (60, a, v) ls st h = some r) (k1 : ∀ (ls' st' : List qm_AV) (h' : qm_Hp), r = .inl (ls', st', h') → ∀ (H1 : Heap) (locs1 : List Loc) (als1 : Array Slot), qm_Wd s B0 L xs dC dI cs h' H1 locs1 → qm_Lo mi B0 sb sa als1 ls' → qm_So st' → W p l e R s m args below meth c H1 locs1 cells slots Q (F0 m (pc + n) als1 (st'.map (qm_cv B0 sb sa)))) (k2 : ∀ (b : Nat) (st' : List qm_AV), r = .inr (.inl (b, st')) → qm_So st' → W p l e R s m args below meth c H locs cells slots Q (F0 m (qm_bpc mi b) als (st'.map (qm_cv B0 sb sa)))) : W p l e R s m args below meth c H locs cells slots Q (F0 m pc als (st.map (qm_cv B0 sb sa))) := by
  rcases a with _ | ⟨k, _ | ⟨f, _ | ⟨k9, a9⟩⟩⟩
  · cases hq
  · cases hq
  · simp only [qkB, qk_var, Bool.or_eq_true, Bool.and_eq_true, decide_eq_true_eq] at hq
    obtain ⟨⟨hn, hx⟩, ht⟩ := hq
    rw [hx] at hd
    exact so_icmp X hw hl ho hd hn ht ha k1 k2
  · cases hq
theorem on_61 (X : qm_Cx p R s m args c cells slots d mi B0 sb sa sv L xs dC dI cs) (hw : qm_Wd s B0 L xs dC dI cs h H locs) (hl : qm_Lo mi B0 sb sa als ls) (ho : qm_So st) {r : qm_Act} {a : List Nat} {v : Int} (hd : decode (mC mi) pc = .ok (x, n)) (hq : qkB mi pc (61, a, v) x n = true) (hne : 61 ≠ 64 ∧ 61 ≠ 70 ∧ 61 ≠ 71 ∧ 61 ≠ 72 ∧ 61 ≠ 80 ∧ 61 ≠ 73) (ha : qm_act (61, a, v) ls st h = some r) (k1 : ∀ (ls' st' : List qm_AV) (h' : qm_Hp), r = .inl (ls', st', h') → ∀ (H1 : Heap) (locs1 : List Loc) (als1 : Array Slot), qm_Wd s B0 L xs dC dI cs h' H1 locs1 → qm_Lo mi B0 sb sa als1 ls' → qm_So st' → W p l e R s m args below meth c H1 locs1 cells slots Q (F0 m (pc + n) als1 (st'.map (qm_cv B0 sb sa)))) (k2 : ∀ (b : Nat) (st' : List qm_AV), r = .inr (.inl (b, st')) → qm_So st' → W p l e R s m args below meth c H locs cells slots Q (F0 m (qm_bpc mi b) als (st'.map (qm_cv B0 sb sa)))) : W p l e R s m args below meth c H locs cells slots Q (F0 m pc als (st.map (qm_cv B0 sb sa))) := by
  rcases a with _ | ⟨k, _ | ⟨f, _ | ⟨k9, a9⟩⟩⟩
  · cases hq
  · cases hq
  · simp only [qkB, qk_var, Bool.or_eq_true, Bool.and_eq_true, decide_eq_true_eq] at hq
    obtain ⟨⟨hn, hx⟩, ht⟩ := hq
    rw [hx] at hd
    exact so_if X hw hl ho hd hn ht ha k1 k2
  · cases hq
theorem on_62 (X : qm_Cx p R s m args c cells slots d mi B0 sb sa sv L xs dC dI cs) (hw : qm_Wd s B0 L xs dC dI cs h H locs) (hl : qm_Lo mi B0 sb sa als ls) (ho : qm_So st) {r : qm_Act} {a : List Nat} {v : Int} (hd : decode (mC mi) pc = .ok (x, n)) (hq : qkB mi pc (62, a, v) x n = true) (hne : 62 ≠ 64 ∧ 62 ≠ 70 ∧ 62 ≠ 71 ∧ 62 ≠ 72 ∧ 62 ≠ 80 ∧ 62 ≠ 73) (ha : qm_act (62, a, v) ls st h = some r) (k1 : ∀ (ls' st' : List qm_AV) (h' : qm_Hp), r = .inl (ls', st', h') → ∀ (H1 : Heap) (locs1 : List Loc) (als1 : Array Slot), qm_Wd s B0 L xs dC dI cs h' H1 locs1 → qm_Lo mi B0 sb sa als1 ls' → qm_So st' → W p l e R s m args below meth c H1 locs1 cells slots Q (F0 m (pc + n) als1 (st'.map (qm_cv B0 sb sa)))) (k2 : ∀ (b : Nat) (st' : List qm_AV), r = .inr (.inl (b, st')) → qm_So st' → W p l e R s m args below meth c H locs cells slots Q (F0 m (qm_bpc mi b) als (st'.map (qm_cv B0 sb sa)))) : W p l e R s m args below meth c H locs cells slots Q (F0 m pc als (st.map (qm_cv B0 sb sa))) := by
  rcases a with _ | ⟨k, _ | ⟨k9, a9⟩⟩
  · cases hq
  · simp only [qkB, qk_var, Bool.or_eq_true, Bool.and_eq_true, decide_eq_true_eq] at hq
    obtain ⟨l1, s1, h1, e⟩ := qa_null_inl _ ha
    subst e
    obtain ⟨⟨hn, hx⟩, ht⟩ := hq
    subst hn; rw [hx] at hd
    exact so_null X hw hl ho hd ha (k1 _ _ _ rfl)
  · cases hq
theorem on_63 (X : qm_Cx p R s m args c cells slots d mi B0 sb sa sv L xs dC dI cs) (hw : qm_Wd s B0 L xs dC dI cs h H locs) (hl : qm_Lo mi B0 sb sa als ls) (ho : qm_So st) {r : qm_Act} {a : List Nat} {v : Int} (hd : decode (mC mi) pc = .ok (x, n)) (hq : qkB mi pc (63, a, v) x n = true) (hne : 63 ≠ 64 ∧ 63 ≠ 70 ∧ 63 ≠ 71 ∧ 63 ≠ 72 ∧ 63 ≠ 80 ∧ 63 ≠ 73) (ha : qm_act (63, a, v) ls st h = some r) (k1 : ∀ (ls' st' : List qm_AV) (h' : qm_Hp), r = .inl (ls', st', h') → ∀ (H1 : Heap) (locs1 : List Loc) (als1 : Array Slot), qm_Wd s B0 L xs dC dI cs h' H1 locs1 → qm_Lo mi B0 sb sa als1 ls' → qm_So st' → W p l e R s m args below meth c H1 locs1 cells slots Q (F0 m (pc + n) als1 (st'.map (qm_cv B0 sb sa)))) (k2 : ∀ (b : Nat) (st' : List qm_AV), r = .inr (.inl (b, st')) → qm_So st' → W p l e R s m args below meth c H locs cells slots Q (F0 m (qm_bpc mi b) als (st'.map (qm_cv B0 sb sa)))) : W p l e R s m args below meth c H locs cells slots Q (F0 m pc als (st.map (qm_cv B0 sb sa))) := by
  rcases a with _ | ⟨k, _ | ⟨k9, a9⟩⟩
  · cases hq
  · simp only [qkB, qk_var, Bool.or_eq_true, Bool.and_eq_true, decide_eq_true_eq] at hq
    obtain ⟨⟨hn, hx⟩, ht⟩ := hq
    subst hn; rw [hx] at hd
    exact lv_goto X.1 X.2.1 hd ht (k2 k st (Option.some.inj ha).symm ho)
  · cases hq
theorem on_64 (X : qm_Cx p R s m args c cells slots d mi B0 sb sa sv L xs dC dI cs) (hw : qm_Wd s B0 L xs dC dI cs h H locs) (hl : qm_Lo mi B0 sb sa als ls) (ho : qm_So st) {r : qm_Act} {a : List Nat} {v : Int} (hd : decode (mC mi) pc = .ok (x, n)) (hq : qkB mi pc (64, a, v) x n = true) (hne : 64 ≠ 64 ∧ 64 ≠ 70 ∧ 64 ≠ 71 ∧ 64 ≠ 72 ∧ 64 ≠ 80 ∧ 64 ≠ 73) (ha : qm_act (64, a, v) ls st h = some r) (k1 : ∀ (ls' st' : List qm_AV) (h' : qm_Hp), r = .inl (ls', st', h') → ∀ (H1 : Heap) (locs1 : List Loc) (als1 : Array Slot), qm_Wd s B0 L xs dC dI cs h' H1 locs1 → qm_Lo mi B0 sb sa als1 ls' → qm_So st' → W p l e R s m args below meth c H1 locs1 cells slots Q (F0 m (pc + n) als1 (st'.map (qm_cv B0 sb sa)))) (k2 : ∀ (b : Nat) (st' : List qm_AV), r = .inr (.inl (b, st')) → qm_So st' → W p l e R s m args below meth c H locs cells slots Q (F0 m (qm_bpc mi b) als (st'.map (qm_cv B0 sb sa)))) : W p l e R s m args below meth c H locs cells slots Q (F0 m pc als (st.map (qm_cv B0 sb sa))) := by
  exact absurd rfl hne.1
theorem on_65 (X : qm_Cx p R s m args c cells slots d mi B0 sb sa sv L xs dC dI cs) (hw : qm_Wd s B0 L xs dC dI cs h H locs) (hl : qm_Lo mi B0 sb sa als ls) (ho : qm_So st) {r : qm_Act} {a : List Nat} {v : Int} (hd : decode (mC mi) pc = .ok (x, n)) (hq : qkB mi pc (65, a, v) x n = true) (hne : 65 ≠ 64 ∧ 65 ≠ 70 ∧ 65 ≠ 71 ∧ 65 ≠ 72 ∧ 65 ≠ 80 ∧ 65 ≠ 73) (ha : qm_act (65, a, v) ls st h = some r) (k1 : ∀ (ls' st' : List qm_AV) (h' : qm_Hp), r = .inl (ls', st', h') → ∀ (H1 : Heap) (locs1 : List Loc) (als1 : Array Slot), qm_Wd s B0 L xs dC dI cs h' H1 locs1 → qm_Lo mi B0 sb sa als1 ls' → qm_So st' → W p l e R s m args below meth c H1 locs1 cells slots Q (F0 m (pc + n) als1 (st'.map (qm_cv B0 sb sa)))) (k2 : ∀ (b : Nat) (st' : List qm_AV), r = .inr (.inl (b, st')) → qm_So st' → W p l e R s m args below meth c H locs cells slots Q (F0 m (qm_bpc mi b) als (st'.map (qm_cv B0 sb sa)))) : W p l e R s m args below meth c H locs cells slots Q (F0 m pc als (st.map (qm_cv B0 sb sa))) := by
  rcases a with _ | ⟨df, bs⟩
  · cases hq
  · simp only [qkB, qk_var, Bool.or_eq_true, Bool.and_eq_true, decide_eq_true_eq] at hq
    obtain ⟨⟨⟨⟨⟨⟨⟨hx, g1⟩, g2⟩, g3⟩, g4⟩, g5⟩, g6⟩, g7⟩ := hq
    rw [hx] at hd
    exact so_tsw X hw hl ho hd g1 g2 g3 g4 g5 g6 g7 ha k2
theorem on_66 (X : qm_Cx p R s m args c cells slots d mi B0 sb sa sv L xs dC dI cs) (hw : qm_Wd s B0 L xs dC dI cs h H locs) (hl : qm_Lo mi B0 sb sa als ls) (ho : qm_So st) {r : qm_Act} {a : List Nat} {v : Int} (hd : decode (mC mi) pc = .ok (x, n)) (hq : qkB mi pc (66, a, v) x n = true) (hne : 66 ≠ 64 ∧ 66 ≠ 70 ∧ 66 ≠ 71 ∧ 66 ≠ 72 ∧ 66 ≠ 80 ∧ 66 ≠ 73) (ha : qm_act (66, a, v) ls st h = some r) (k1 : ∀ (ls' st' : List qm_AV) (h' : qm_Hp), r = .inl (ls', st', h') → ∀ (H1 : Heap) (locs1 : List Loc) (als1 : Array Slot), qm_Wd s B0 L xs dC dI cs h' H1 locs1 → qm_Lo mi B0 sb sa als1 ls' → qm_So st' → W p l e R s m args below meth c H1 locs1 cells slots Q (F0 m (pc + n) als1 (st'.map (qm_cv B0 sb sa)))) (k2 : ∀ (b : Nat) (st' : List qm_AV), r = .inr (.inl (b, st')) → qm_So st' → W p l e R s m args below meth c H locs cells slots Q (F0 m (qm_bpc mi b) als (st'.map (qm_cv B0 sb sa)))) : W p l e R s m args below meth c H locs cells slots Q (F0 m pc als (st.map (qm_cv B0 sb sa))) := by
  rcases a with _ | ⟨df, bs⟩
  · cases hq
  · simp only [qkB, qk_var, Bool.or_eq_true, Bool.and_eq_true, decide_eq_true_eq] at hq
    obtain ⟨⟨⟨⟨⟨hx, g1⟩, g2⟩, g3⟩, g4⟩, g5⟩ := hq
    rw [hx] at hd
    exact so_lsw X hw hl ho hd g1 g2 g3 g4 g5 ha k2
theorem on_70 (X : qm_Cx p R s m args c cells slots d mi B0 sb sa sv L xs dC dI cs) (hw : qm_Wd s B0 L xs dC dI cs h H locs) (hl : qm_Lo mi B0 sb sa als ls) (ho : qm_So st) {r : qm_Act} {a : List Nat} {v : Int} (hd : decode (mC mi) pc = .ok (x, n)) (hq : qkB mi pc (70, a, v) x n = true) (hne : 70 ≠ 64 ∧ 70 ≠ 70 ∧ 70 ≠ 71 ∧ 70 ≠ 72 ∧ 70 ≠ 80 ∧ 70 ≠ 73) (ha : qm_act (70, a, v) ls st h = some r) (k1 : ∀ (ls' st' : List qm_AV) (h' : qm_Hp), r = .inl (ls', st', h') → ∀ (H1 : Heap) (locs1 : List Loc) (als1 : Array Slot), qm_Wd s B0 L xs dC dI cs h' H1 locs1 → qm_Lo mi B0 sb sa als1 ls' → qm_So st' → W p l e R s m args below meth c H1 locs1 cells slots Q (F0 m (pc + n) als1 (st'.map (qm_cv B0 sb sa)))) (k2 : ∀ (b : Nat) (st' : List qm_AV), r = .inr (.inl (b, st')) → qm_So st' → W p l e R s m args below meth c H locs cells slots Q (F0 m (qm_bpc mi b) als (st'.map (qm_cv B0 sb sa)))) : W p l e R s m args below meth c H locs cells slots Q (F0 m pc als (st.map (qm_cv B0 sb sa))) := by
  exact absurd rfl hne.2.1
theorem on_71 (X : qm_Cx p R s m args c cells slots d mi B0 sb sa sv L xs dC dI cs) (hw : qm_Wd s B0 L xs dC dI cs h H locs) (hl : qm_Lo mi B0 sb sa als ls) (ho : qm_So st) {r : qm_Act} {a : List Nat} {v : Int} (hd : decode (mC mi) pc = .ok (x, n)) (hq : qkB mi pc (71, a, v) x n = true) (hne : 71 ≠ 64 ∧ 71 ≠ 70 ∧ 71 ≠ 71 ∧ 71 ≠ 72 ∧ 71 ≠ 80 ∧ 71 ≠ 73) (ha : qm_act (71, a, v) ls st h = some r) (k1 : ∀ (ls' st' : List qm_AV) (h' : qm_Hp), r = .inl (ls', st', h') → ∀ (H1 : Heap) (locs1 : List Loc) (als1 : Array Slot), qm_Wd s B0 L xs dC dI cs h' H1 locs1 → qm_Lo mi B0 sb sa als1 ls' → qm_So st' → W p l e R s m args below meth c H1 locs1 cells slots Q (F0 m (pc + n) als1 (st'.map (qm_cv B0 sb sa)))) (k2 : ∀ (b : Nat) (st' : List qm_AV), r = .inr (.inl (b, st')) → qm_So st' → W p l e R s m args below meth c H locs cells slots Q (F0 m (qm_bpc mi b) als (st'.map (qm_cv B0 sb sa)))) : W p l e R s m args below meth c H locs cells slots Q (F0 m pc als (st.map (qm_cv B0 sb sa))) := by
  exact absurd rfl hne.2.2.1
theorem on_72 (X : qm_Cx p R s m args c cells slots d mi B0 sb sa sv L xs dC dI cs) (hw : qm_Wd s B0 L xs dC dI cs h H locs) (hl : qm_Lo mi B0 sb sa als ls) (ho : qm_So st) {r : qm_Act} {a : List Nat} {v : Int} (hd : decode (mC mi) pc = .ok (x, n)) (hq : qkB mi pc (72, a, v) x n = true) (hne : 72 ≠ 64 ∧ 72 ≠ 70 ∧ 72 ≠ 71 ∧ 72 ≠ 72 ∧ 72 ≠ 80 ∧ 72 ≠ 73) (ha : qm_act (72, a, v) ls st h = some r) (k1 : ∀ (ls' st' : List qm_AV) (h' : qm_Hp), r = .inl (ls', st', h') → ∀ (H1 : Heap) (locs1 : List Loc) (als1 : Array Slot), qm_Wd s B0 L xs dC dI cs h' H1 locs1 → qm_Lo mi B0 sb sa als1 ls' → qm_So st' → W p l e R s m args below meth c H1 locs1 cells slots Q (F0 m (pc + n) als1 (st'.map (qm_cv B0 sb sa)))) (k2 : ∀ (b : Nat) (st' : List qm_AV), r = .inr (.inl (b, st')) → qm_So st' → W p l e R s m args below meth c H locs cells slots Q (F0 m (qm_bpc mi b) als (st'.map (qm_cv B0 sb sa)))) : W p l e R s m args below meth c H locs cells slots Q (F0 m pc als (st.map (qm_cv B0 sb sa))) := by
  exact absurd rfl hne.2.2.2.1
theorem on_73 (X : qm_Cx p R s m args c cells slots d mi B0 sb sa sv L xs dC dI cs) (hw : qm_Wd s B0 L xs dC dI cs h H locs) (hl : qm_Lo mi B0 sb sa als ls) (ho : qm_So st) {r : qm_Act} {a : List Nat} {v : Int} (hd : decode (mC mi) pc = .ok (x, n)) (hq : qkB mi pc (73, a, v) x n = true) (hne : 73 ≠ 64 ∧ 73 ≠ 70 ∧ 73 ≠ 71 ∧ 73 ≠ 72 ∧ 73 ≠ 80 ∧ 73 ≠ 73) (ha : qm_act (73, a, v) ls st h = some r) (k1 : ∀ (ls' st' : List qm_AV) (h' : qm_Hp), r = .inl (ls', st', h') → ∀ (H1 : Heap) (locs1 : List Loc) (als1 : Array Slot), qm_Wd s B0 L xs dC dI cs h' H1 locs1 → qm_Lo mi B0 sb sa als1 ls' → qm_So st' → W p l e R s m args below meth c H1 locs1 cells slots Q (F0 m (pc + n) als1 (st'.map (qm_cv B0 sb sa)))) (k2 : ∀ (b : Nat) (st' : List qm_AV), r = .inr (.inl (b, st')) → qm_So st' → W p l e R s m args below meth c H locs cells slots Q (F0 m (qm_bpc mi b) als (st'.map (qm_cv B0 sb sa)))) : W p l e R s m args below meth c H locs cells slots Q (F0 m pc als (st.map (qm_cv B0 sb sa))) := by
  exact absurd rfl hne.2.2.2.2.2
theorem on_80 (X : qm_Cx p R s m args c cells slots d mi B0 sb sa sv L xs dC dI cs) (hw : qm_Wd s B0 L xs dC dI cs h H locs) (hl : qm_Lo mi B0 sb sa als ls) (ho : qm_So st) {r : qm_Act} {a : List Nat} {v : Int} (hd : decode (mC mi) pc = .ok (x, n)) (hq : qkB mi pc (80, a, v) x n = true) (hne : 80 ≠ 64 ∧ 80 ≠ 70 ∧ 80 ≠ 71 ∧ 80 ≠ 72 ∧ 80 ≠ 80 ∧ 80 ≠ 73) (ha : qm_act (80, a, v) ls st h = some r) (k1 : ∀ (ls' st' : List qm_AV) (h' : qm_Hp), r = .inl (ls', st', h') → ∀ (H1 : Heap) (locs1 : List Loc) (als1 : Array Slot), qm_Wd s B0 L xs dC dI cs h' H1 locs1 → qm_Lo mi B0 sb sa als1 ls' → qm_So st' → W p l e R s m args below meth c H1 locs1 cells slots Q (F0 m (pc + n) als1 (st'.map (qm_cv B0 sb sa)))) (k2 : ∀ (b : Nat) (st' : List qm_AV), r = .inr (.inl (b, st')) → qm_So st' → W p l e R s m args below meth c H locs cells slots Q (F0 m (qm_bpc mi b) als (st'.map (qm_cv B0 sb sa)))) : W p l e R s m args below meth c H locs cells slots Q (F0 m pc als (st.map (qm_cv B0 sb sa))) := by
  exact absurd rfl hne.2.2.2.2.1
theorem on_81 (X : qm_Cx p R s m args c cells slots d mi B0 sb sa sv L xs dC dI cs) (hw : qm_Wd s B0 L xs dC dI cs h H locs) (hl : qm_Lo mi B0 sb sa als ls) (ho : qm_So st) {r : qm_Act} {a : List Nat} {v : Int} (hd : decode (mC mi) pc = .ok (x, n)) (hq : qkB mi pc (81, a, v) x n = true) (hne : 81 ≠ 64 ∧ 81 ≠ 70 ∧ 81 ≠ 71 ∧ 81 ≠ 72 ∧ 81 ≠ 80 ∧ 81 ≠ 73) (ha : qm_act (81, a, v) ls st h = some r) (k1 : ∀ (ls' st' : List qm_AV) (h' : qm_Hp), r = .inl (ls', st', h') → ∀ (H1 : Heap) (locs1 : List Loc) (als1 : Array Slot), qm_Wd s B0 L xs dC dI cs h' H1 locs1 → qm_Lo mi B0 sb sa als1 ls' → qm_So st' → W p l e R s m args below meth c H1 locs1 cells slots Q (F0 m (pc + n) als1 (st'.map (qm_cv B0 sb sa)))) (k2 : ∀ (b : Nat) (st' : List qm_AV), r = .inr (.inl (b, st')) → qm_So st' → W p l e R s m args below meth c H locs cells slots Q (F0 m (qm_bpc mi b) als (st'.map (qm_cv B0 sb sa)))) : W p l e R s m args below meth c H locs cells slots Q (F0 m pc als (st.map (qm_cv B0 sb sa))) := by
  simp only [qkB, qk_var, Bool.or_eq_true, Bool.and_eq_true, decide_eq_true_eq] at hq
  obtain ⟨l1, s1, h1, e⟩ := qa_m2_inl _ ha
  subst e
  obtain ⟨⟨hn, hx⟩, hm⟩ := hq
  subst hn; rw [hx] at hd
  exact so_max X hw hl ho hm hd ha (k1 _ _ _ rfl)
theorem on_82 (X : qm_Cx p R s m args c cells slots d mi B0 sb sa sv L xs dC dI cs) (hw : qm_Wd s B0 L xs dC dI cs h H locs) (hl : qm_Lo mi B0 sb sa als ls) (ho : qm_So st) {r : qm_Act} {a : List Nat} {v : Int} (hd : decode (mC mi) pc = .ok (x, n)) (hq : qkB mi pc (82, a, v) x n = true) (hne : 82 ≠ 64 ∧ 82 ≠ 70 ∧ 82 ≠ 71 ∧ 82 ≠ 72 ∧ 82 ≠ 80 ∧ 82 ≠ 73) (ha : qm_act (82, a, v) ls st h = some r) (k1 : ∀ (ls' st' : List qm_AV) (h' : qm_Hp), r = .inl (ls', st', h') → ∀ (H1 : Heap) (locs1 : List Loc) (als1 : Array Slot), qm_Wd s B0 L xs dC dI cs h' H1 locs1 → qm_Lo mi B0 sb sa als1 ls' → qm_So st' → W p l e R s m args below meth c H1 locs1 cells slots Q (F0 m (pc + n) als1 (st'.map (qm_cv B0 sb sa)))) (k2 : ∀ (b : Nat) (st' : List qm_AV), r = .inr (.inl (b, st')) → qm_So st' → W p l e R s m args below meth c H locs cells slots Q (F0 m (qm_bpc mi b) als (st'.map (qm_cv B0 sb sa)))) : W p l e R s m args below meth c H locs cells slots Q (F0 m pc als (st.map (qm_cv B0 sb sa))) := by
  simp only [qkB, qk_var, Bool.or_eq_true, Bool.and_eq_true, decide_eq_true_eq] at hq
  obtain ⟨l1, s1, h1, e⟩ := qa_m2_inl _ ha
  subst e
  obtain ⟨⟨hn, hx⟩, hm⟩ := hq
  subst hn; rw [hx] at hd
  exact so_min X hw hl ho hm hd ha (k1 _ _ _ rfl)
theorem on_83 (X : qm_Cx p R s m args c cells slots d mi B0 sb sa sv L xs dC dI cs) (hw : qm_Wd s B0 L xs dC dI cs h H locs) (hl : qm_Lo mi B0 sb sa als ls) (ho : qm_So st) {r : qm_Act} {a : List Nat} {v : Int} (hd : decode (mC mi) pc = .ok (x, n)) (hq : qkB mi pc (83, a, v) x n = true) (hne : 83 ≠ 64 ∧ 83 ≠ 70 ∧ 83 ≠ 71 ∧ 83 ≠ 72 ∧ 83 ≠ 80 ∧ 83 ≠ 73) (ha : qm_act (83, a, v) ls st h = some r) (k1 : ∀ (ls' st' : List qm_AV) (h' : qm_Hp), r = .inl (ls', st', h') → ∀ (H1 : Heap) (locs1 : List Loc) (als1 : Array Slot), qm_Wd s B0 L xs dC dI cs h' H1 locs1 → qm_Lo mi B0 sb sa als1 ls' → qm_So st' → W p l e R s m args below meth c H1 locs1 cells slots Q (F0 m (pc + n) als1 (st'.map (qm_cv B0 sb sa)))) (k2 : ∀ (b : Nat) (st' : List qm_AV), r = .inr (.inl (b, st')) → qm_So st' → W p l e R s m args below meth c H locs cells slots Q (F0 m (qm_bpc mi b) als (st'.map (qm_cv B0 sb sa)))) : W p l e R s m args below meth c H locs cells slots Q (F0 m pc als (st.map (qm_cv B0 sb sa))) := by
  simp only [qkB, qk_var, Bool.or_eq_true, Bool.and_eq_true, decide_eq_true_eq] at hq
  obtain ⟨l1, s1, h1, e⟩ := qa_abs_inl ha
  subst e
  obtain ⟨⟨hn, hx⟩, hm⟩ := hq
  subst hn; rw [hx] at hd
  exact so_abs X hw hl ho hm hd ha (k1 _ _ _ rfl)
theorem on_84 (X : qm_Cx p R s m args c cells slots d mi B0 sb sa sv L xs dC dI cs) (hw : qm_Wd s B0 L xs dC dI cs h H locs) (hl : qm_Lo mi B0 sb sa als ls) (ho : qm_So st) {r : qm_Act} {a : List Nat} {v : Int} (hd : decode (mC mi) pc = .ok (x, n)) (hq : qkB mi pc (84, a, v) x n = true) (hne : 84 ≠ 64 ∧ 84 ≠ 70 ∧ 84 ≠ 71 ∧ 84 ≠ 72 ∧ 84 ≠ 80 ∧ 84 ≠ 73) (ha : qm_act (84, a, v) ls st h = some r) (k1 : ∀ (ls' st' : List qm_AV) (h' : qm_Hp), r = .inl (ls', st', h') → ∀ (H1 : Heap) (locs1 : List Loc) (als1 : Array Slot), qm_Wd s B0 L xs dC dI cs h' H1 locs1 → qm_Lo mi B0 sb sa als1 ls' → qm_So st' → W p l e R s m args below meth c H1 locs1 cells slots Q (F0 m (pc + n) als1 (st'.map (qm_cv B0 sb sa)))) (k2 : ∀ (b : Nat) (st' : List qm_AV), r = .inr (.inl (b, st')) → qm_So st' → W p l e R s m args below meth c H locs cells slots Q (F0 m (qm_bpc mi b) als (st'.map (qm_cv B0 sb sa)))) : W p l e R s m args below meth c H locs cells slots Q (F0 m pc als (st.map (qm_cv B0 sb sa))) := by
  simp only [qkB, qk_var, Bool.or_eq_true, Bool.and_eq_true, decide_eq_true_eq] at hq
  obtain ⟨l1, s1, h1, e⟩ := qa_lm2_inl _ ha
  subst e
  obtain ⟨⟨hn, hx⟩, hm⟩ := hq
  subst hn; rw [hx] at hd
  exact so_maxl X hw hl ho hm hd ha (k1 _ _ _ rfl)
theorem on_85 (X : qm_Cx p R s m args c cells slots d mi B0 sb sa sv L xs dC dI cs) (hw : qm_Wd s B0 L xs dC dI cs h H locs) (hl : qm_Lo mi B0 sb sa als ls) (ho : qm_So st) {r : qm_Act} {a : List Nat} {v : Int} (hd : decode (mC mi) pc = .ok (x, n)) (hq : qkB mi pc (85, a, v) x n = true) (hne : 85 ≠ 64 ∧ 85 ≠ 70 ∧ 85 ≠ 71 ∧ 85 ≠ 72 ∧ 85 ≠ 80 ∧ 85 ≠ 73) (ha : qm_act (85, a, v) ls st h = some r) (k1 : ∀ (ls' st' : List qm_AV) (h' : qm_Hp), r = .inl (ls', st', h') → ∀ (H1 : Heap) (locs1 : List Loc) (als1 : Array Slot), qm_Wd s B0 L xs dC dI cs h' H1 locs1 → qm_Lo mi B0 sb sa als1 ls' → qm_So st' → W p l e R s m args below meth c H1 locs1 cells slots Q (F0 m (pc + n) als1 (st'.map (qm_cv B0 sb sa)))) (k2 : ∀ (b : Nat) (st' : List qm_AV), r = .inr (.inl (b, st')) → qm_So st' → W p l e R s m args below meth c H locs cells slots Q (F0 m (qm_bpc mi b) als (st'.map (qm_cv B0 sb sa)))) : W p l e R s m args below meth c H locs cells slots Q (F0 m pc als (st.map (qm_cv B0 sb sa))) := by
  simp only [qkB, qk_var, Bool.or_eq_true, Bool.and_eq_true, decide_eq_true_eq] at hq
  obtain ⟨l1, s1, h1, e⟩ := qa_lm2_inl _ ha
  subst e
  obtain ⟨⟨hn, hx⟩, hm⟩ := hq
  subst hn; rw [hx] at hd
  exact so_minl X hw hl ho hm hd ha (k1 _ _ _ rfl)
theorem on_86 (X : qm_Cx p R s m args c cells slots d mi B0 sb sa sv L xs dC dI cs) (hw : qm_Wd s B0 L xs dC dI cs h H locs) (hl : qm_Lo mi B0 sb sa als ls) (ho : qm_So st) {r : qm_Act} {a : List Nat} {v : Int} (hd : decode (mC mi) pc = .ok (x, n)) (hq : qkB mi pc (86, a, v) x n = true) (hne : 86 ≠ 64 ∧ 86 ≠ 70 ∧ 86 ≠ 71 ∧ 86 ≠ 72 ∧ 86 ≠ 80 ∧ 86 ≠ 73) (ha : qm_act (86, a, v) ls st h = some r) (k1 : ∀ (ls' st' : List qm_AV) (h' : qm_Hp), r = .inl (ls', st', h') → ∀ (H1 : Heap) (locs1 : List Loc) (als1 : Array Slot), qm_Wd s B0 L xs dC dI cs h' H1 locs1 → qm_Lo mi B0 sb sa als1 ls' → qm_So st' → W p l e R s m args below meth c H1 locs1 cells slots Q (F0 m (pc + n) als1 (st'.map (qm_cv B0 sb sa)))) (k2 : ∀ (b : Nat) (st' : List qm_AV), r = .inr (.inl (b, st')) → qm_So st' → W p l e R s m args below meth c H locs cells slots Q (F0 m (qm_bpc mi b) als (st'.map (qm_cv B0 sb sa)))) : W p l e R s m args below meth c H locs cells slots Q (F0 m pc als (st.map (qm_cv B0 sb sa))) := by
  simp only [qkB, qk_var, Bool.or_eq_true, Bool.and_eq_true, decide_eq_true_eq] at hq
  obtain ⟨l1, s1, h1, e⟩ := qa_copy_inl ha
  subst e
  obtain ⟨⟨hn, hx⟩, hm⟩ := hq
  subst hn; rw [hx] at hd
  exact so_copy X hw hl ho hm hd ha (k1 _ _ _ rfl)
theorem on_87 (X : qm_Cx p R s m args c cells slots d mi B0 sb sa sv L xs dC dI cs) (hw : qm_Wd s B0 L xs dC dI cs h H locs) (hl : qm_Lo mi B0 sb sa als ls) (ho : qm_So st) {r : qm_Act} {a : List Nat} {v : Int} (hd : decode (mC mi) pc = .ok (x, n)) (hq : qkB mi pc (87, a, v) x n = true) (hne : 87 ≠ 64 ∧ 87 ≠ 70 ∧ 87 ≠ 71 ∧ 87 ≠ 72 ∧ 87 ≠ 80 ∧ 87 ≠ 73) (ha : qm_act (87, a, v) ls st h = some r) (k1 : ∀ (ls' st' : List qm_AV) (h' : qm_Hp), r = .inl (ls', st', h') → ∀ (H1 : Heap) (locs1 : List Loc) (als1 : Array Slot), qm_Wd s B0 L xs dC dI cs h' H1 locs1 → qm_Lo mi B0 sb sa als1 ls' → qm_So st' → W p l e R s m args below meth c H1 locs1 cells slots Q (F0 m (pc + n) als1 (st'.map (qm_cv B0 sb sa)))) (k2 : ∀ (b : Nat) (st' : List qm_AV), r = .inr (.inl (b, st')) → qm_So st' → W p l e R s m args below meth c H locs cells slots Q (F0 m (qm_bpc mi b) als (st'.map (qm_cv B0 sb sa)))) : W p l e R s m args below meth c H locs cells slots Q (F0 m pc als (st.map (qm_cv B0 sb sa))) := by
  simp only [qkB, qk_var, Bool.or_eq_true, Bool.and_eq_true, decide_eq_true_eq] at hq
  obtain ⟨l1, s1, h1, e⟩ := qa_slen_inl ha
  subst e
  obtain ⟨⟨hn, hx⟩, hm⟩ := hq
  subst hn; rw [hx] at hd
  exact so_slen X hw hl ho hm hd ha (k1 _ _ _ rfl)
theorem on_88 (X : qm_Cx p R s m args c cells slots d mi B0 sb sa sv L xs dC dI cs) (hw : qm_Wd s B0 L xs dC dI cs h H locs) (hl : qm_Lo mi B0 sb sa als ls) (ho : qm_So st) {r : qm_Act} {a : List Nat} {v : Int} (hd : decode (mC mi) pc = .ok (x, n)) (hq : qkB mi pc (88, a, v) x n = true) (hne : 88 ≠ 64 ∧ 88 ≠ 70 ∧ 88 ≠ 71 ∧ 88 ≠ 72 ∧ 88 ≠ 80 ∧ 88 ≠ 73) (ha : qm_act (88, a, v) ls st h = some r) (k1 : ∀ (ls' st' : List qm_AV) (h' : qm_Hp), r = .inl (ls', st', h') → ∀ (H1 : Heap) (locs1 : List Loc) (als1 : Array Slot), qm_Wd s B0 L xs dC dI cs h' H1 locs1 → qm_Lo mi B0 sb sa als1 ls' → qm_So st' → W p l e R s m args below meth c H1 locs1 cells slots Q (F0 m (pc + n) als1 (st'.map (qm_cv B0 sb sa)))) (k2 : ∀ (b : Nat) (st' : List qm_AV), r = .inr (.inl (b, st')) → qm_So st' → W p l e R s m args below meth c H locs cells slots Q (F0 m (qm_bpc mi b) als (st'.map (qm_cv B0 sb sa)))) : W p l e R s m args below meth c H locs cells slots Q (F0 m pc als (st.map (qm_cv B0 sb sa))) := by
  simp only [qkB, qk_var, Bool.or_eq_true, Bool.and_eq_true, decide_eq_true_eq] at hq
  obtain ⟨l1, s1, h1, e⟩ := qa_char_inl ha
  subst e
  obtain ⟨⟨hn, hx⟩, hm⟩ := hq
  subst hn; rw [hx] at hd
  exact so_char X hw hl ho hm hd ha (k1 _ _ _ rfl)
theorem qm_one (X : qm_Cx p R s m args c cells slots d mi B0 sb sa sv L xs dC dI cs) (hw : qm_Wd s B0 L xs dC dI cs h H locs) (hl : qm_Lo mi B0 sb sa als ls) (ho : qm_So st) {r : qm_Act} {i : qm_Ins} (hd : decode (mC mi) pc = .ok (x, n)) (hq : qkB mi pc i x n = true) (hne : i.1 ≠ 64 ∧ i.1 ≠ 70 ∧ i.1 ≠ 71 ∧ i.1 ≠ 72 ∧ i.1 ≠ 80 ∧ i.1 ≠ 73) (ha : qm_act i ls st h = some r) (k1 : ∀ (ls' st' : List qm_AV) (h' : qm_Hp), r = .inl (ls', st', h') → ∀ (H1 : Heap) (locs1 : List Loc) (als1 : Array Slot), qm_Wd s B0 L xs dC dI cs h' H1 locs1 → qm_Lo mi B0 sb sa als1 ls' → qm_So st' → W p l e R s m args below meth c H1 locs1 cells slots Q (F0 m (pc + n) als1 (st'.map (qm_cv B0 sb sa)))) (k2 : ∀ (b : Nat) (st' : List qm_AV), r = .inr (.inl (b, st')) → qm_So st' → W p l e R s m args below meth c H locs cells slots Q (F0 m (qm_bpc mi b) als (st'.map (qm_cv B0 sb sa)))) : W p l e R s m args below meth c H locs cells slots Q (F0 m pc als (st.map (qm_cv B0 sb sa))) := by
  obtain ⟨op, a, v⟩ := i
  have ha' := ha
  unfold qm_act at ha'
  dsimp only at ha' hne
  split at ha'
  · exact on_0 X hw hl ho hd hq hne ha k1 k2
  · exact on_1 X hw hl ho hd hq hne ha k1 k2
  · exact on_2 X hw hl ho hd hq hne ha k1 k2
  · exact on_3 X hw hl ho hd hq hne ha k1 k2
  · exact on_4 X hw hl ho hd hq hne ha k1 k2
  · exact on_5 X hw hl ho hd hq hne ha k1 k2
  · exact on_6 X hw hl ho hd hq hne ha k1 k2
  · exact on_7 X hw hl ho hd hq hne ha k1 k2
  · exact on_8 X hw hl ho hd hq hne ha k1 k2
  · exact on_10 X hw hl ho hd hq hne ha k1 k2
  · exact on_11 X hw hl ho hd hq hne ha k1 k2
  · exact on_12 X hw hl ho hd hq hne ha k1 k2
  · exact on_13 X hw hl ho hd hq hne ha k1 k2
  · exact on_14 X hw hl ho hd hq hne ha k1 k2
  · exact on_15 X hw hl ho hd hq hne ha k1 k2
  · exact on_16 X hw hl ho hd hq hne ha k1 k2
  · exact on_17 X hw hl ho hd hq hne ha k1 k2
  · exact on_18 X hw hl ho hd hq hne ha k1 k2
  · exact on_19 X hw hl ho hd hq hne ha k1 k2
  · exact on_20 X hw hl ho hd hq hne ha k1 k2
  · exact on_21 X hw hl ho hd hq hne ha k1 k2
  · exact on_22 X hw hl ho hd hq hne ha k1 k2
  · exact on_23 X hw hl ho hd hq hne ha k1 k2
  · exact on_24 X hw hl ho hd hq hne ha k1 k2
  · exact on_25 X hw hl ho hd hq hne ha k1 k2
  · exact on_26 X hw hl ho hd hq hne ha k1 k2
  · exact on_27 X hw hl ho hd hq hne ha k1 k2
  · exact on_28 X hw hl ho hd hq hne ha k1 k2
  · exact on_29 X hw hl ho hd hq hne ha k1 k2
  · exact on_30 X hw hl ho hd hq hne ha k1 k2
  · exact on_31 X hw hl ho hd hq hne ha k1 k2
  · exact on_32 X hw hl ho hd hq hne ha k1 k2
  · exact on_33 X hw hl ho hd hq hne ha k1 k2
  · exact on_34 X hw hl ho hd hq hne ha k1 k2
  · exact on_40 X hw hl ho hd hq hne ha k1 k2
  · exact on_41 X hw hl ho hd hq hne ha k1 k2
  · exact on_42 X hw hl ho hd hq hne ha k1 k2
  · exact on_43 X hw hl ho hd hq hne ha k1 k2
  · exact on_44 X hw hl ho hd hq hne ha k1 k2
  · exact on_45 X hw hl ho hd hq hne ha k1 k2
  · exact on_46 X hw hl ho hd hq hne ha k1 k2
  · exact on_47 X hw hl ho hd hq hne ha k1 k2
  · exact on_50 X hw hl ho hd hq hne ha k1 k2
  · exact on_51 X hw hl ho hd hq hne ha k1 k2
  · exact on_52 X hw hl ho hd hq hne ha k1 k2
  · exact on_53 X hw hl ho hd hq hne ha k1 k2
  · exact on_54 X hw hl ho hd hq hne ha k1 k2
  · exact on_55 X hw hl ho hd hq hne ha k1 k2
  · exact on_56 X hw hl ho hd hq hne ha k1 k2
  · exact on_57 X hw hl ho hd hq hne ha k1 k2
  · exact on_58 X hw hl ho hd hq hne ha k1 k2
  · exact on_60 X hw hl ho hd hq hne ha k1 k2
  · exact on_61 X hw hl ho hd hq hne ha k1 k2
  · exact on_62 X hw hl ho hd hq hne ha k1 k2
  · exact on_63 X hw hl ho hd hq hne ha k1 k2
  · exact on_64 X hw hl ho hd hq hne ha k1 k2
  · exact on_65 X hw hl ho hd hq hne ha k1 k2
  · exact on_66 X hw hl ho hd hq hne ha k1 k2
  · exact on_70 X hw hl ho hd hq hne ha k1 k2
  · exact on_71 X hw hl ho hd hq hne ha k1 k2
  · exact on_72 X hw hl ho hd hq hne ha k1 k2
  · exact on_73 X hw hl ho hd hq hne ha k1 k2
  · exact on_80 X hw hl ho hd hq hne ha k1 k2
  · exact on_81 X hw hl ho hd hq hne ha k1 k2
  · exact on_82 X hw hl ho hd hq hne ha k1 k2
  · exact on_83 X hw hl ho hd hq hne ha k1 k2
  · exact on_84 X hw hl ho hd hq hne ha k1 k2
  · exact on_85 X hw hl ho hd hq hne ha k1 k2
  · exact on_86 X hw hl ho hd hq hne ha k1 k2
  · exact on_87 X hw hl ho hd hq hne ha k1 k2
  · exact on_88 X hw hl ho hd hq hne ha k1 k2
  · cases ha'
end QDI
end
section
/-! what a state says stays over calls; a callee's locals; the whole run -/
theorem qm_ent_lv {B0 sb sa : Nat} : ∀ (as : List qm_AV) (j n : Nat) (q : Nat × Value), q ∈ qm_lv B0 sb sa j (qm_lay as ++ List.replicate n qU) → q ∈ lv_args j (as.map (qm_cv B0 sb sa))
  | [], j, n, q, h => by
    exfalso
    obtain ⟨k, v, h1, h2, -⟩ := qm_lv_mem.mp h
    have := List.eq_of_mem_replicate (show v ∈ List.replicate n qU by simpa [qm_lay] using List.mem_of_getElem? h1)
    exact h2 0 this
  | v :: r, j, n, q, h => by
    have ih := fun k => qm_ent_lv (B0 := B0) (sb := sb) (sa := sa) r k n q
    rcases v with x | x | ⟨k, i⟩
    · simp only [qm_lay, List.cons_append, qm_lv, List.mem_cons] at h
      simp only [List.map_cons, lv_args, List.mem_cons]
      rcases h with h | h
      · exact Or.inl h
      · exact Or.inr (ih _ h)
    · simp only [qm_lay, List.cons_append, qm_lv, List.mem_cons, if_pos] at h
      simp only [List.map_cons, lv_args, List.mem_cons]
      rcases h with h | h
      · exact Or.inl h
      · exact Or.inr (ih _ h)
    · simp only [qm_lay, List.cons_append, qm_lv] at h
      have hc : ¬ (qm_cv B0 sb sa (.inr (.inr (k, i)))).category = 2 := by rw [qm_cv_cat]; simp [qm_isL]
      simp only [List.map_cons, lv_args, List.mem_cons, if_neg hc]
      by_cases hk : k = 99
      · rw [if_pos hk] at h
        exact Or.inr (ih _ h)
      · rw [if_neg hk] at h
        rcases List.mem_cons.mp h with h | h
        · exact Or.inl h
        · exact Or.inr (ih _ h)
theorem qm_sl_cons (v : Value) (vs : List Value) : lg_sl (v :: vs) = (if v.category = 2 then [.val v, .second] else [.val v]) ++ lg_sl vs := by simp only [lg_sl, List.flatMap_cons]
theorem qm_lay_len {B0 sb sa : Nat} : ∀ (as : List qm_AV), (lg_sl (as.map (qm_cv B0 sb sa))).length = (qm_lay as).length
  | [] => rfl
  | v :: r => by
    have ih := qm_lay_len (B0 := B0) (sb := sb) (sa := sa) r
    rw [List.map_cons, qm_sl_cons, List.length_append, ih]
    rcases v with x | x | ⟨k, i⟩
    · rw [if_neg (by rw [qm_cv_cat]; simp [qm_isL])]
      simp only [qm_lay, List.length_cons, List.length_nil]
      omega
    · rw [if_pos (by rw [qm_cv_cat]; simp [qm_isL])]
      simp only [qm_lay, List.length_cons, List.length_nil]
      omega
    · rw [if_neg (by rw [qm_cv_cat]; simp [qm_isL])]
      simp only [qm_lay, List.length_cons, List.length_nil]
      omega
theorem qm_lay_all {P : qm_AV → Prop} (hU : P qU) : ∀ (as : List qm_AV), (∀ v ∈ as, P v) → ∀ v ∈ qm_lay as, P v
  | [], _, v, hv => by cases hv
  | w :: r, h, v, hv => by
    have ih := qm_lay_all hU r (fun u hu => h u (List.mem_cons_of_mem _ hu)) v
    have hw := h w List.mem_cons_self
    rcases w with x | x | ⟨k, i⟩
    · simp only [qm_lay, List.mem_cons] at hv
      rcases hv with rfl | hv
      · exact hw
      · exact ih hv
    · simp only [qm_lay, List.mem_cons] at hv
      rcases hv with rfl | rfl | hv
      · exact hw
      · exact hU
      · exact ih hv
    · simp only [qm_lay, List.mem_cons] at hv
      rcases hv with rfl | hv
      · exact hw
      · exact ih hv
theorem qm_Lo_entry {f B0 sb sa : Nat} {as : List qm_AV} (hlen : (qm_lay as).length ≤ qm_maxL f) (ho : qm_So as) : qm_Lo f B0 sb sa ((lg_sl (as.map (qm_cv B0 sb sa)) ++ List.replicate (qm_maxL f - (lg_sl (as.map (qm_cv B0 sb sa))).length) Slot.unset).toArray) (qm_ent (qm_maxL f) as) := by
  have h0 := lv_entry (as.map (qm_cv B0 sb sa)) (n := qm_maxL f) (by rw [qm_lay_len]; exact hlen)
  refine ⟨⟨h0.1, h0.2.1, fun q hq => h0.2.2 q (qm_ent_lv as 0 _ q hq)⟩, ?_, ?_⟩
  · simp [qm_ent]; omega
  · intro v hv
    rcases List.mem_append.mp hv with h | h
    · exact qm_lay_all (P := fun v => v = qU ∨ qm_okV v) (Or.inl rfl) as (fun w hw => Or.inr (ho w hw)) v h
    · exact Or.inl (List.eq_of_mem_replicate h)
/-- where a method returns: which instruction stands there -/
def qm_RetAt (mi pc : Nat) (rv : Option qm_AV) : Prop := match rv with
  | none => decode (mC mi) pc = .ok (.return_, 1) ∧ mR mi = none
  | some (.inl v) => decode (mC mi) pc = .ok (.ireturn, 1) ∧ (mR mi = some .int ∨ (mR mi = some .boolean ∧ (v = 0 ∨ v = 1)))
  | some (.inr (.inl _)) => decode (mC mi) pc = .ok (.lreturn, 1) ∧ mR mi = some .long
  | _ => False
def qm_rst (rv : Option qm_AV) : List Value := match rv with
  | some (.inl v) => [.int v]
  | some (.inr (.inl v)) => [.long v]
  | _ => []
/-- the machine's runs of n steps are the real machine's -/
def qm_SA (n : Nat) : Prop := ∀ (d mi : Nat) (c0 : List qm_Ins) (ls st : List qm_AV) (h : qm_Hp) (rv : Option qm_AV) (h' : qm_Hp), qm_run n d mi c0 ls st h = some (rv, h') →
  ∀ (p : Program) (l : Launch) (e : Env) (R : Room) (s : State) (m : MethodId) (args : Array Value) (below : List Frame) (meth : Method) (c : Code) (cells slots : Nat) (Q : State → Prop) (H : Heap) (locs : List Loc) (B0 sb sa sv L : Nat) (xs : Nat → Int32) (dC : Nat → ClassId) (dI : Nat → Nat → Nat) (cs : Nat × Nat × Nat × Nat × Nat) (pc : Nat) (als : Array Slot),
  qm_Cx p R s m args c cells slots d mi B0 sb sa sv L xs dC dI cs → qk_blk mi pc c0 = true → qm_Wd s B0 L xs dC dI cs h H locs → qm_Lo mi B0 sb sa als ls → qm_So st →
  (∀ (H1 : Heap) (locs1 : List Loc) (als1 : Array Slot) (pc1 : Nat), qm_Wd s B0 L xs dC dI cs h' H1 locs1 → qm_RetAt mi pc1 rv → W p l e R s m args below meth c H1 locs1 cells slots Q (F0 m pc1 als1 (qm_rst rv))) →
  W p l e R s m args below meth c H locs cells slots Q (F0 m pc als (st.map (qm_cv B0 sb sa)))
def qm_rm (d : Nat) : Room := { frames := d + 4, cells := 0, slots := 0, locals := 64 * d + 256 }
def qm_wsm (f : Nat) : List Cond := Cond.code (mY f) (mC f) (qm_maxL f) (mR f) :: qm_tb
/-- a callee's start -/
def qm_Pc (B0 sb sa sv L : Nat) (xs : Nat → Int32) (dC : Nat → ClassId) (dI : Nat → Nat → Nat) (cs : Nat × Nat × Nat × Nat × Nat) (as : List qm_AV) (h : qm_Hp) : Array Value → State → Prop :=
  va_Pc (as.map (qm_cv B0 sb sa)) (fun U => qm_Env B0 sb sa sv L xs dC dI cs U ∧ va_P (dC, dI) qm_clss (qm_W B0 cs h) U.heap ∧ va_D (fun q => B0 ≤ q) (qm_W B0 cs h) ∧ qm_okH h ∧ (∀ j, j < L → zI h 80 0 j = xs j) ∧ zI h 82 0 0 = nI L)
/-- a callee's end -/
def qm_End (B0 L : Nat) (xs : Nat → Int32) (dC : Nat → ClassId) (dI : Nat → Nat → Nat) (cs : Nat × Nat × Nat × Nat × Nat) (h' : qm_Hp) : Unit → State → Prop := fun _ t => va_P (dC, dI) qm_clss (qm_W B0 cs h') t.heap ∧ va_D (fun q => B0 ≤ q) (qm_W B0 cs h') ∧ qm_okH h' ∧ (∀ j, j < L → zI h' 80 0 j = xs j) ∧ zI h' 82 0 0 = nI L
def qm_Qc (B0 L : Nat) (xs : Nat → Int32) (dC : Nat → ClassId) (dI : Nat → Nat → Nat) (cs : Nat × Nat × Nat × Nat × Nat) (rv : Option qm_AV) (h' : qm_Hp) : Array Value → State → Outcome → State → Prop := match rv with
  | some (.inl v) => va_Qi (fun r (_ : Unit) => r = v) (qm_End B0 L xs dC dI cs h') (fun q => B0 ≤ q)
  | some (.inr (.inl v)) => va_Ql (fun r (_ : Unit) => r = v) (qm_End B0 L xs dC dI cs h') (fun q => B0 ≤ q)
  | _ => va_Qv (fun (_ : Unit) => True) (qm_End B0 L xs dC dI cs h') (fun q => B0 ≤ q)
theorem qm_cls_ok : ∀ f, f < 242 → qm_cls (mN f) = (mY f).cls := by decide +kernel
theorem qm_cp_lt : ∀ e ∈ qm_cp, e.1 < 241 := by decide +kernel
theorem qm_Pc_blind {B0 sb sa sv L : Nat} {xs : Nat → Int32} {dC : Nat → ClassId} {dI : Nat → Nat → Nat} {cs : Nat × Nat × Nat × Nat × Nat} {as : List qm_AV} {h : qm_Hp} : FrameBlind (qm_Pc B0 sb sa sv L xs dC dI cs as h) := fun a U g mk q => ⟨q.1, qm_Env.to (U := U) rfl rfl q.2.1, q.2.2⟩
theorem qm_met {n : Nat} (hk : ∀ m b, qm_blk m b = [] ∨ qk_blk m (qm_bpc m b) (qm_blk m b) = true) (hb0 : ∀ m, qm_bpc m 0 = 0 ∨ m = 241) (IH : qm_SA n) (l : Launch) {d f np : Nat} {as : List qm_AV} {h h' : qm_Hp} {rv : Option qm_AV} (hf : (f, np) ∈ qm_cp) (hlen : (qm_lay as).length ≤ qm_maxL f) (hso : qm_So as) (hrun : qm_run n d f (qm_blk f 0) (qm_ent (qm_maxL f) as) [] h = some (rv, h'))
    {B0 sb sa sv L : Nat} {xs : Nat → Int32} {dC : Nat → ClassId} {dI : Nat → Nat → Nat} {cs : Nat × Nat × Nat × Nat × Nat} : Met l (mY f) (qm_wsm f) (qm_rm d) (qm_Pc B0 sb sa sv L xs dC dI cs as h) (qm_Qc B0 L xs dC dI cs rv h') 0 0 (fun q => B0 ≤ q) := by
  have hcw := qm_cp_ok _ hf
  have hf241 : f < 241 := qm_cp_lt _ hf
  refine Met.ofW (cc := mC f) (maxL := qm_maxL f) (ret := mR f) hcw.2.2.2.1 rfl ?_
  intro p e s m args below meth c s₁ B hml hv
  obtain ⟨rfl, hE, hP, hD, hO, hX, hL⟩ := hv
  have hlocks := B.notSynchronized
  have hr := B.returns
  have hts := atoms_spec (ws := qm_wsm f) B.pre
  have hown : s.vm.findClass (mY f).cls = some m.cls := findClass_of_methodNamed B.named
  rw [← qm_cls_ok f (by omega)] at hown
  have hCx : qm_Cx p (headSpec (qm_wsm f) (qm_rm d)).room s m (as.map (qm_cv B0 sb sa)).toArray c 0 0 d f B0 sb sa sv L xs dC dI cs := ⟨B.exec, B.bytes, hml, hown, fun w hw => hts w (List.mem_cons_of_mem _ hw), hE, Nat.le_refl _, Nat.le_refl _, Nat.le_refl _, Nat.le_refl _⟩
  have hbl : qk_blk f 0 (qm_blk f 0) = true := by
    rcases hk f 0 with h0 | h0
    · rw [h0]; rfl
    · rcases hb0 f with h1 | h1
      · rw [h1] at h0; exact h0
      · omega
  rw [lg_entry_eq]
  refine IH d f _ _ _ _ _ _ hrun p l e _ s m _ below meth c 0 0 _ s.heap [] B0 sb sa sv L xs dC dI cs 0 _ hCx hbl ⟨hP, hD, va_S.rf, hO, hX, hL⟩ (qm_Lo_entry hlen hso) (fun v hv => by cases hv) ?_
  intro H1 locs1 als1 pc1 hw hret
  have hfree : ∀ q ∈ locs1, B0 ≤ q.base := hw.2.2.1.2.2
  match rv, hret with
  | none, ⟨hd, hR⟩ => exact W.vret B.exec B.bytes (by rw [hr]; exact hR) (fun t ht _ => ⟨⟨(), rfl, trivial, by rw [← ht] at hw; exact ⟨hw.1, hw.2.1, hw.2.2.2⟩⟩, hw.2.2.1.F ht⟩) hfree hd
  | some (.inl v), ⟨hd, hR⟩ =>
    rcases hR with hR | ⟨hR, hv⟩
    · exact W.iret B.exec B.bytes (by rw [hr]; exact hR) (fun t ht _ => ⟨⟨v, (), rfl, rfl, by rw [← ht] at hw; exact ⟨hw.1, hw.2.1, hw.2.2.2⟩⟩, hw.2.2.1.F ht⟩) hfree hd
    · exact W.zret B.exec B.bytes (by rw [hr]; exact hR) (by rcases hv with rfl | rfl <;> rfl) (fun t ht _ => ⟨⟨v, (), rfl, rfl, by rw [← ht] at hw; exact ⟨hw.1, hw.2.1, hw.2.2.2⟩⟩, hw.2.2.1.F ht⟩) hfree hd
  | some (.inr (.inl v)), ⟨hd, hR⟩ => exact W.lret B.exec B.bytes (by rw [hr]; exact hR) (fun t ht _ => ⟨⟨v, (), rfl, rfl, by rw [← ht] at hw; exact ⟨hw.1, hw.2.1, hw.2.2.2⟩⟩, hw.2.2.1.F ht⟩) hfree hd
  | some (.inr (.inr _)), hF => exact absurd hF (fun z => z)
end
section
/-! the whole run -/
theorem qm_rm_ok0 {d F Lc M : Nat} (h1 : d + 1 + 4 ≤ F) (h2 : 64 * (d + 1) + 256 ≤ Lc) (h3 : M ≤ 30) : d + 4 + 1 ≤ F ∧ 8 + (M + 11) + (64 * d + 256) ≤ Lc := by omega
theorem qm_rm_ok {d F Lc M : Nat} (h1 : d + 1 + 4 ≤ F) (h2 : 64 * (d + 1) + 256 ≤ Lc) (h3 : M ≤ 30) : (qm_rm d).frames + 1 ≤ F ∧ 8 + (M + 11) + (qm_rm d).locals ≤ Lc := qm_rm_ok0 h1 h2 h3
theorem qm_run_nil {n d m : Nat} {ls st : List qm_AV} {s : qm_Hp} : qm_run n d m [] ls st s = none := by cases n <;> rfl
theorem qm_good {f np : Nat} (hf : (f, np) ∈ qm_cp) : GoodIn qm_tb (qm_wsm f) := by
  intro w hw
  have hcw := qm_cp_ok _ hf
  rcases List.mem_cons.mp hw with rfl | hw
  · exact ⟨hcw.1.tb, good_of_word hcw.1.2⟩
  · exact ⟨hw, good_of_word (List.mem_filter.mp hw).2⟩
theorem qa_ret_form {t : Nat} {st : List qm_AV} {r : qm_Act} (h : qa_ret t st = some r) : (∃ v, st = [.inl v] ∧ r = .inr (.inr (.inr (some (qI v)))) ∧ (t = 0 ∨ (t = 3 ∧ (v = 0 ∨ v = 1)))) ∨ (∃ v, st = [.inr (.inl v)] ∧ r = .inr (.inr (.inr (some (qL v)))) ∧ t = 1) ∨ (st = [] ∧ r = .inr (.inr (.inr none)) ∧ t = 2) := by
  unfold qa_ret at h
  split at h
  · next v => exact Or.inl ⟨v, rfl, (Option.some.inj h).symm, Or.inl rfl⟩
  · next v => exact Or.inr (Or.inl ⟨v, rfl, (Option.some.inj h).symm, rfl⟩)
  · exact Or.inr (Or.inr ⟨rfl, (Option.some.inj h).symm, rfl⟩)
  · next v =>
    split at h
    · next hv => exact Or.inl ⟨v, rfl, (Option.some.inj h).symm, Or.inr ⟨rfl, hv⟩⟩
    · cases h
  · cases h
def qm_rok (rv : Option qm_AV) : Prop := ∀ q, rv ≠ some (.inr (.inr q))
theorem qm_rst_push {B0 sb sa : Nat} {rv : Option qm_AV} (hrv : qm_rok rv) {st : List qm_AV} : qm_rst rv ++ st.map (qm_cv B0 sb sa) = (qm_push rv st).map (qm_cv B0 sb sa) := by
  match rv, hrv with
  | none, _ => rfl
  | some (.inl v), _ => rfl
  | some (.inr (.inl v)), _ => rfl
  | some (.inr (.inr q)), hrv => exact absurd rfl (hrv q)
section QSO
variable {p : Program} {l : Launch} {e : Env} {R : Room} {s : State} {m : MethodId} {args : Array Value} {below : List Frame} {meth : Method} {c : Code} {cells slots : Nat} {Q : State → Prop} {H : Heap} {locs : List Loc}
variable {d B0 sb sa sv L mi : Nat} {xs : Nat → Int32} {dC : Nat → ClassId} {dI : Nat → Nat → Nat} {cs : Nat × Nat × Nat × Nat × Nat} {pc n : Nat} {als : Array Slot} {ls st ls' st' : List qm_AV} {h h' : qm_Hp} {x : Instr}
theorem so_after {stk rest : List Value} {rv : Option qm_AV} {aa : Array Value} (hr : va_Run p l e R s m args below meth c H locs cells slots 0 0 (F0 m pc als stk) rest (qm_Qc B0 L xs dC dI cs rv h' aa) (fun q => B0 ≤ q)) (hw : qm_Wd s B0 L xs dC dI cs h H locs) (hrv : qm_rok rv)
    (kk : ∀ (H1 : Heap) (locs1 : List Loc), qm_Wd s B0 L xs dC dI cs h' H1 locs1 → W p l e R s m args below meth c H1 locs1 cells slots Q (F0 m (pc + 3) als (qm_rst rv ++ rest))) : W p l e R s m args below meth c H locs cells slots Q (F0 m pc als stk) := by
  match rv, hr, hrv, kk with
  | some (.inl v), hr, _, kk =>
    exact va_calli (a := aa) hr hw.2.2.1 (fun q _ z => z) (fun q z => z) (fun r u t H1 locs1 ht al hp hB hsz hk hS => by
      have hp : r = v := hp
      subst hp
      have hB : qm_End B0 L xs dC dI cs h' u t := hB
      rw [qm_End, ht] at hB
      exact kk H1 locs1 ⟨hB.1, hB.2.1, hS, hB.2.2⟩)
  | some (.inr (.inl v)), hr, _, kk =>
    exact va_calll (a := aa) hr hw.2.2.1 (fun q _ z => z) (fun q z => z) (fun r u t H1 locs1 ht al hp hB hsz hk hS => by
      have hp : r = v := hp
      subst hp
      have hB : qm_End B0 L xs dC dI cs h' u t := hB
      rw [qm_End, ht] at hB
      exact kk H1 locs1 ⟨hB.1, hB.2.1, hS, hB.2.2⟩)
  | none, hr, _, kk =>
    exact va_callv (a := aa) hr hw.2.2.1 (fun q _ z => z) (fun q z => z) (fun u t H1 locs1 ht al hp hB hsz hk hS => by
      have hB : qm_End B0 L xs dC dI cs h' u t := hB
      rw [qm_End, ht] at hB
      exact kk H1 locs1 ⟨hB.1, hB.2.1, hS, hB.2.2⟩)
  | some (.inr (.inr q)), _, hrv, _ => exact absurd rfl (hrv q)
theorem qm_Wd.pre (X : qm_Cx p R s m args c cells slots d mi B0 sb sa sv L xs dC dI cs) (hw : qm_Wd s B0 L xs dC dI cs h H locs) {as : List qm_AV} : ∀ U : State, U.heap = H → s.WarmedH U.vm → qm_Pc B0 sb sa sv L xs dC dI cs as h (as.map (qm_cv B0 sb sa)).toArray U := by
  intro U hU hW
  refine ⟨rfl, X.2.2.2.2.2.1.warm hW (by rw [hU]; exact hw.2.2.1.1) (fun q h1 h2 => by rw [hU]; exact hw.2.2.1.2.1 q h1 h2), ?_, hw.2.1, hw.2.2.2⟩
  rw [hU]
  exact hw.1
end QSO

theorem qm_run_rok : ∀ (n d m : Nat) (c : List qm_Ins) (ls st : List qm_AV) (s : qm_Hp) (rv : Option qm_AV) (s' : qm_Hp), qm_run n d m c ls st s = some (rv, s') → qm_rok rv := by
  intro n
  induction n with
  | zero => intro d m c ls st s rv s' h; cases h
  | succ n ih =>
    intro d m c ls st s rv s' h
    cases c with
    | nil => cases h
    | cons i c =>
      rw [qm_run] at h
      cases ha : qm_act i ls st s with
      | none => rw [ha] at h; cases h
      | some r =>
        rw [ha] at h
        match r, ha, h with
        | .inl (ls', st', s1), _, h => exact ih _ _ _ _ _ _ _ _ h
        | .inr (.inl (b, st')), _, h => exact ih _ _ _ _ _ _ _ _ h
        | .inr (.inr (.inl (f, as, st'))), _, h =>
          match d, h with
          | 0, h => cases h
          | d' + 1, h =>
            dsimp only at h
            split at h
            · cases h
            · exact ih _ _ _ _ _ _ _ _ h
        | .inr (.inr (.inr rv')), ha, h =>
          cases h
          intro q hq
          subst hq
          obtain ⟨op, a, v⟩ := i
          unfold qm_act at ha
          dsimp only at ha
          split at ha
          all_goals first
            | (cases ha; done)
            | (obtain ⟨_, _, _, e⟩ := qa_load_inl _ _ ha; cases e; done)
            | (obtain ⟨_, _, _, e⟩ := qa_store_inl _ _ ha; cases e; done)
            | (obtain ⟨_, _, _, e⟩ := qa_iinc_inl _ _ ha; cases e; done)
            | (obtain ⟨_, _, _, e⟩ := qa_bin_inl _ ha; cases e; done)
            | (obtain ⟨_, _, _, e⟩ := qa_div_inl _ ha; cases e; done)
            | (obtain ⟨_, _, _, e⟩ := qa_neg_inl ha; cases e; done)
            | (obtain ⟨_, _, _, e⟩ := qa_lbin_inl _ ha; cases e; done)
            | (obtain ⟨_, _, _, e⟩ := qa_ldiv_inl ha; cases e; done)
            | (obtain ⟨_, _, _, e⟩ := qa_lneg_inl ha; cases e; done)
            | (obtain ⟨_, _, _, e⟩ := qa_lshl_inl ha; cases e; done)
            | (obtain ⟨_, _, _, e⟩ := qa_lcmp_inl ha; cases e; done)
            | (obtain ⟨_, _, _, e⟩ := qa_i2l_inl ha; cases e; done)
            | (obtain ⟨_, _, _, e⟩ := qa_l2i_inl ha; cases e; done)
            | (obtain ⟨_, _, _, e⟩ := qa_dup_inl ha; cases e; done)
            | (obtain ⟨_, _, _, e⟩ := qa_dup2_inl ha; cases e; done)
            | (obtain ⟨_, _, _, e⟩ := qa_pop_inl ha; cases e; done)
            | (obtain ⟨_, _, _, e⟩ := qa_getI_inl _ ha; cases e; done)
            | (obtain ⟨_, _, _, e⟩ := qa_getL_inl _ ha; cases e; done)
            | (obtain ⟨_, _, _, e⟩ := qa_getP_inl _ ha; cases e; done)
            | (obtain ⟨_, _, _, e⟩ := qa_getM_inl _ ha; cases e; done)
            | (obtain ⟨_, _, _, e⟩ := qa_putI_inl _ ha; cases e; done)
            | (obtain ⟨_, _, _, e⟩ := qa_putZ_inl _ ha; cases e; done)
            | (obtain ⟨_, _, _, e⟩ := qa_putL_inl _ ha; cases e; done)
            | (obtain ⟨_, _, _, e⟩ := qa_putM_inl _ ha; cases e; done)
            | (obtain ⟨_, _, _, e⟩ := qa_null_inl _ ha; cases e; done)
            | (obtain ⟨_, _, _, e⟩ := qa_iald_inl ha; cases e; done)
            | (obtain ⟨_, _, _, e⟩ := qa_iast_inl ha; cases e; done)
            | (obtain ⟨_, _, _, e⟩ := qa_lald_inl ha; cases e; done)
            | (obtain ⟨_, _, _, e⟩ := qa_last_inl ha; cases e; done)
            | (obtain ⟨_, _, _, e⟩ := qa_bald_inl ha; cases e; done)
            | (obtain ⟨_, _, _, e⟩ := qa_bast_inl ha; cases e; done)
            | (obtain ⟨_, _, _, e⟩ := qa_aald_inl ha; cases e; done)
            | (obtain ⟨_, _, _, e⟩ := qa_alen_inl ha; cases e; done)
            | (obtain ⟨_, _, _, e⟩ := qa_abs_inl ha; cases e; done)
            | (obtain ⟨_, _, _, e⟩ := qa_copy_inl ha; cases e; done)
            | (obtain ⟨_, _, _, e⟩ := qa_slen_inl ha; cases e; done)
            | (obtain ⟨_, _, _, e⟩ := qa_char_inl ha; cases e; done)
            | (obtain ⟨_, _, _, e⟩ := qa_m2_inl _ ha; cases e; done)
            | (obtain ⟨_, _, _, e⟩ := qa_lm2_inl _ ha; cases e; done)
            | (rcases qa_ret_form ha with ⟨_, _, e, _⟩ | ⟨_, _, e, _⟩ | ⟨_, e, _⟩ <;> cases e; done)
            | (unfold qa_icmp at ha; split at ha <;> (try split at ha) <;> cases ha; done)
            | (unfold qa_if at ha; split at ha <;> (try split at ha) <;> cases ha; done)
            | (unfold qa_goto at ha; split at ha <;> cases ha; done)
            | (unfold qa_tsw at ha; split at ha <;> cases ha; done)
            | (unfold qa_lsw at ha; split at ha <;> cases ha; done)
            | (unfold qa_call at ha; split at ha <;> (try split at ha) <;> cases ha; done)
section QSP
variable {p : Program} {l : Launch} {e : Env} {R : Room} {s : State} {m : MethodId} {args : Array Value} {below : List Frame} {meth : Method} {c : Code} {cells slots : Nat} {Q : State → Prop} {H : Heap} {locs : List Loc}
variable {d B0 sb sa sv L mi : Nat} {xs : Nat → Int32} {dC : Nat → ClassId} {dI : Nat → Nat → Nat} {cs : Nat × Nat × Nat × Nat × Nat} {pc n : Nat} {als : Array Slot} {ls st ls' st' : List qm_AV} {h h' : qm_Hp} {x : Instr}
theorem so_call (hk : ∀ m b, qm_blk m b = [] ∨ qk_blk m (qm_bpc m b) (qm_blk m b) = true) (hb0 : ∀ m, qm_bpc m 0 = 0 ∨ m = 241) (hML : ∀ m, m < 241 → qm_maxL m ≤ 30) {n0 : Nat} (IH : qm_SA n0) (X : qm_Cx p R s m args c cells slots (d + 1) mi B0 sb sa sv L xs dC dI cs) (hw : qm_Wd s B0 L xs dC dI cs h H locs) (hl : qm_Lo mi B0 sb sa als ls) (ho : qm_So st) {f a k : Nat} {v : Int} {rv : Option qm_AV} (hd : decode (mC mi) pc = .ok (x, n)) (hq : qkB mi pc (80, [f, a, k], v) x n = true) (hna : a ≤ st.length) (hwid : qm_wid (st.drop a) ≤ 8) (hrk : k = 0 ∨ qm_rk (st.take a).reverse = k) (hlen : (qm_lay (st.take a).reverse).length ≤ qm_maxL f) (hrun : qm_run n0 d f (qm_blk f 0) (qm_ent (qm_maxL f) (st.take a).reverse) [] h = some (rv, h'))
    (kk : ∀ (H1 : Heap) (locs1 : List Loc), qm_Wd s B0 L xs dC dI cs h' H1 locs1 → W p l e R s m args below meth c H1 locs1 cells slots Q (F0 m (pc + 3) als ((qm_push rv (st.drop a)).map (qm_cv B0 sb sa)))) : n = 3 ∧ W p l e R s m args below meth c H locs cells slots Q (F0 m pc als (st.map (qm_cv B0 sb sa))) := by
  have hrv := qm_run_rok _ _ _ _ _ _ _ _ _ hrun
  have hso : qm_So (st.take a).reverse := fun w hw => ho w (List.mem_of_mem_take (List.mem_reverse.mp hw))
  have hstk : st.map (qm_cv B0 sb sa) = ((st.take a).reverse.map (qm_cv B0 sb sa)).reverse ++ (st.drop a).map (qm_cv B0 sb sa) := by
    rw [List.map_reverse, List.reverse_reverse, ← List.map_append, List.take_append_drop]
  have hfr := X.2.2.2.2.2.2.2.2.1
  have hlo := X.2.2.2.2.2.2.2.2.2
  have hWd : 2 * (F0 m pc als (st.map (qm_cv B0 sb sa))).monitorRoom + (((st.drop a).map (qm_cv B0 sb sa)).map fun v => v.category).sum ≤ 8 := by
    rw [qm_wid_cat]
    exact (Nat.zero_add _).symm ▸ hwid
  have hcells : cells + 0 ≤ R.cells ∧ slots + 0 ≤ R.slots := ⟨X.2.2.2.2.2.2.1, X.2.2.2.2.2.2.2.1⟩
  have hpush : qm_rst rv ++ (st.drop a).map (qm_cv B0 sb sa) = (qm_push rv (st.drop a)).map (qm_cv B0 sb sa) := qm_rst_push hrv
  have aft : ∀ {aa : Array Value}, va_Run p l e R s m args below meth c H locs cells slots 0 0 (F0 m pc als (st.map (qm_cv B0 sb sa))) ((st.drop a).map (qm_cv B0 sb sa)) (qm_Qc B0 L xs dC dI cs rv h' aa) (fun q => B0 ≤ q) → W p l e R s m args below meth c H locs cells slots Q (F0 m pc als (st.map (qm_cv B0 sb sa))) := fun hr => so_after hr hw hrv (fun H1 locs1 hw1 => by rw [hpush]; exact kk H1 locs1 hw1)
  have hsize : (F0 m pc als (st.map (qm_cv B0 sb sa))).locals.size = qm_maxL mi := hl.1.1
  simp only [qkB, Bool.or_eq_true, Bool.and_eq_true, decide_eq_true_eq] at hq
  rcases hq with ⟨⟨⟨⟨⟨⟨hn, hx⟩, hf⟩, ha1⟩, hk19⟩, hR⟩, hm⟩ | ⟨⟨⟨⟨hn, hx⟩, hf⟩, hk0⟩, hm⟩
  · subst hn
    refine ⟨rfl, ?_⟩
    rw [hx] at hd
    have hcw := qm_cp_ok _ hf
    have hfM := hML f (qm_cp_lt _ hf)
    have hRm : (qm_rm d).frames + 1 ≤ R.frames ∧ 8 + (qm_maxL f + 11) + (qm_rm d).locals ≤ R.locals := qm_rm_ok hfr hlo hfM
    have hrk : qm_rk (st.take a).reverse = k := hrk.resolve_left (by omega)
    have hlen2 : (st.take a).reverse.length = a := by rw [List.length_reverse, List.length_take]; omega
    generalize hasE : (st.take a).reverse = as at hrun hlen hso hstk hrk hlen2
    rcases as with _ | ⟨r0, as'⟩
    · simp at hlen2; omega
    · rcases r0 with r0 | r0 | ⟨k0, i0⟩
      · simp only [qm_rk] at hrk; omega
      · simp only [qm_rk] at hrk; omega
      · have hrk : k0 = k := hrk
        subst hrk
        have h0 : k0 ≠ 0 := by omega
        have h80 : k0 ≠ 80 := by omega
        have h81 : k0 ≠ 81 := by omega
        have hi := qm_okV_lt (hso.h) h0
        have he := qm_W_at (B0 := B0) (cs := cs) (h := h) hi h80 h81
        rw [qm_cell_o hk19] at he
        have hrecv := va_recv X.2.2.2.2.2.1.1 hw.1 (qm_clss_at hk19) he
        have hM := qm_met hk hb0 IH l hf hlen hso hrun (B0 := B0) (sb := sb) (sa := sa) (sv := sv) (L := L) (xs := xs) (dC := dC) (dI := dI) (cs := cs)
        have hcv : (Sum.inr (Sum.inr (k0, i0)) :: as').map (qm_cv B0 sb sa) = Value.ref (B0 + qm_ad k0 i0) :: as'.map (qm_cv B0 sb sa) := by rw [List.map_cons, qm_cv_P h0 h80 h81]
        have hpre := qm_Wd.pre X hw (as := Sum.inr (Sum.inr (k0, i0)) :: as')
        rw [hcv] at hpre hstk
        have hstk : (F0 m pc als (st.map (qm_cv B0 sb sa))).stack = (as'.map (qm_cv B0 sb sa)).reverse ++ Value.ref (B0 + qm_ad k0 i0) :: (st.drop a).map (qm_cv B0 sb sa) := by
          show st.map (qm_cv B0 sb sa) = _
          rw [hstk, List.reverse_cons, List.append_assoc]
          rfl
        have hn' : (as'.map (qm_cv B0 sb sa)).length = a - 1 := by rw [List.length_map]; simp at hlen2; omega
        rw [show (qm_R k0, qm_T k0, qm_nf k0).1 = (mY f).cls from hR] at hrecv
        rcases hm with hm | hm
        · obtain ⟨⟨m1, m2, m3⟩, m4⟩ := qm_mlk_ok _ hm
          exact aft (va_runV ⟨X.1, X.2.1, X.2.2.1, X.2.2.2.1, X.2.2.2.2.1⟩ hM ⟨callB_of (a - 1) X.2.2.2.2.1 (qm_good hf) rfl rfl rfl (X.2.2.2.2.1 _ m4.tb) (X.2.2.2.2.1 _ m1.tb) ⟨hcw.2.1, hcw.2.2.1, hcw.2.2.2.2⟩ hRm, X.2.2.2.2.1 _ m2.tb, X.2.2.2.2.1 _ m3.tb⟩ ⟨qm_Pc_blind, hrecv, hpre⟩ rfl hn' hsize hstk hWd hd hcells)
        · obtain ⟨⟨m1, m2, m3⟩, m4⟩ := qm_mlk_ok _ hm
          exact aft (va_runVN ⟨X.1, X.2.1, X.2.2.1, X.2.2.2.1, X.2.2.2.2.1⟩ hM ⟨va_cnB (a - 1) X.2.2.2.2.1 (qm_good hf) rfl rfl rfl (X.2.2.2.2.2.1.2.1 _ m1) (X.2.2.2.2.1 _ m4.tb) ⟨hcw.2.1, hcw.2.2.1, hcw.2.2.2.2⟩ hRm, X.2.2.2.2.1 _ m2.tb, X.2.2.2.2.1 _ m3.tb⟩ ⟨qm_Pc_blind, hrecv, hpre⟩ rfl hn' hsize hstk hWd hd hcells)
  · subst hn
    refine ⟨rfl, ?_⟩
    rw [hx] at hd
    have hcw := qm_cp_ok _ hf
    have hfM := hML f (qm_cp_lt _ hf)
    have hRm : (qm_rm d).frames + 1 ≤ R.frames ∧ 8 + (qm_maxL f + 11) + (qm_rm d).locals ≤ R.locals := qm_rm_ok hfr hlo hfM
    have hM := qm_met hk hb0 IH l hf hlen hso hrun (B0 := B0) (sb := sb) (sa := sa) (sv := sv) (L := L) (xs := xs) (dC := dC) (dI := dI) (cs := cs)
    have hn' : ((st.take a).reverse.map (qm_cv B0 sb sa)).length = a := by rw [List.length_map, List.length_reverse, List.length_take]; omega
    rcases hm with hm | hm
    · obtain ⟨⟨m1, m2⟩, m4⟩ := qm_mlk_ok _ hm
      exact aft (va_runS ⟨X.1, X.2.1, X.2.2.1, X.2.2.2.1, X.2.2.2.2.1⟩ hM ⟨callB_of a X.2.2.2.2.1 (qm_good hf) rfl rfl rfl (X.2.2.2.2.1 _ m4.tb) (X.2.2.2.2.1 _ m1.tb) ⟨hcw.2.1, hcw.2.2.1, hcw.2.2.2.2⟩ hRm, X.2.2.2.2.1 _ m2.tb⟩ ⟨qm_Pc_blind, qm_Wd.pre X hw⟩ rfl hn' hsize hstk hWd hd hcells)
    · obtain ⟨⟨m1, m2⟩, m4⟩ := qm_mlk_ok _ hm
      exact aft (va_runSN ⟨X.1, X.2.1, X.2.2.1, X.2.2.2.1, X.2.2.2.2.1⟩ hM ⟨va_cnB a X.2.2.2.2.1 (qm_good hf) rfl rfl rfl (X.2.2.2.2.2.1.2.1 _ m1) (X.2.2.2.2.1 _ m4.tb) ⟨hcw.2.1, hcw.2.2.1, hcw.2.2.2.2⟩ hRm, X.2.2.2.2.1 _ m2.tb, trivial⟩ ⟨qm_Pc_blind, qm_Wd.pre X hw⟩ rfl hn' hsize hstk hWd hd hcells)
end QSP
/-- SOUNDNESS: every run of the machine is a run of the real one -/
theorem qm_sound (hk : ∀ m b, qm_blk m b = [] ∨ qk_blk m (qm_bpc m b) (qm_blk m b) = true) (hb0 : ∀ m, qm_bpc m 0 = 0 ∨ m = 241) (hML : ∀ m, m < 241 → qm_maxL m ≤ 30) : ∀ n, qm_SA n := by
  intro n
  induction n with
  | zero => intro d mi c0 ls st h rv h' hrun; cases hrun
  | succ n ih =>
    intro d mi c0 ls st h rv h' hrun p l e R s m args below meth c cells slots Q H locs B0 sb sa sv L xs dC dI cs pc als X hbl hw hl ho fin
    cases c0 with
    | nil => cases hrun
    | cons i c0 =>
      rw [qm_run] at hrun
      have jump : ∀ (b : Nat) (st' : List qm_AV), qm_run n d mi (qm_blk mi b) ls st' h = some (rv, h') → qm_So st' → W p l e R s m args below meth c H locs cells slots Q (F0 m (qm_bpc mi b) als (st'.map (qm_cv B0 sb sa))) := by
        intro b st' hr ho'
        rcases hk mi b with h0 | h0
        · rw [h0, qm_run_nil] at hr; cases hr
        · exact ih d mi _ ls st' h rv h' hr p l e R s m args below meth c cells slots Q H locs B0 sb sa sv L xs dC dI cs _ als X h0 hw hl ho' fin
      by_cases h64 : i.1 = 64
      · obtain ⟨op, a, v⟩ := i
        have h64 : op = 64 := h64
        subst h64
        rw [qk_blk, if_pos rfl] at hbl
        rcases a with _ | ⟨b, _ | ⟨b2, a⟩⟩
        · cases hbl
        · have hpc : qm_bpc mi b = pc := of_decide_eq_true hbl
          rw [← hpc]
          exact jump b st hrun ho
        · cases hbl
      · rw [qk_blk, if_neg h64] at hbl
        cases hdec : decode (mC mi) pc with
        | error z => rw [hdec] at hbl; cases hbl
        | ok xn =>
          obtain ⟨x, k⟩ := xn
          rw [hdec] at hbl
          simp only [Bool.and_eq_true] at hbl
          obtain ⟨hq, hrest⟩ := hbl
          cases ha : qm_act i ls st h with
          | none => rw [ha] at hrun; cases hrun
          | some r =>
            rw [ha] at hrun
            obtain ⟨op, a, v⟩ := i
            by_cases h70 : op = 70
            · subst h70
              simp only [qkB, Bool.and_eq_true, decide_eq_true_eq] at hq
              obtain ⟨⟨hn, hx⟩, hR⟩ := hq
              subst hn; rw [hx] at hdec
              rcases qa_ret_form (t := 0) ha with ⟨y, rfl, rfl, -⟩ | ⟨_, _, _, z⟩ | ⟨_, _, z⟩
              · cases hrun
                exact fin H locs als pc hw ⟨hdec, Or.inl hR⟩
              · cases z
              · cases z
            · by_cases h71 : op = 71
              · subst h71
                simp only [qkB, Bool.and_eq_true, decide_eq_true_eq] at hq
                obtain ⟨⟨hn, hx⟩, hR⟩ := hq
                subst hn; rw [hx] at hdec
                rcases qa_ret_form (t := 1) ha with ⟨_, _, _, z⟩ | ⟨y, rfl, rfl, -⟩ | ⟨_, _, z⟩
                · rcases z with z | ⟨z, _⟩ <;> cases z
                · cases hrun
                  exact fin H locs als pc hw ⟨hdec, hR⟩
                · cases z
              · by_cases h72 : op = 72
                · subst h72
                  simp only [qkB, Bool.and_eq_true, decide_eq_true_eq] at hq
                  obtain ⟨⟨hn, hx⟩, hR⟩ := hq
                  subst hn; rw [hx] at hdec
                  rcases qa_ret_form (t := 2) ha with ⟨_, _, _, z⟩ | ⟨_, _, _, z⟩ | ⟨rfl, rfl, -⟩
                  · rcases z with z | ⟨z, _⟩ <;> cases z
                  · cases z
                  · cases hrun
                    exact fin H locs als pc hw ⟨hdec, hR⟩
                · by_cases h73 : op = 73
                  · subst h73
                    simp only [qkB, Bool.and_eq_true, decide_eq_true_eq] at hq
                    obtain ⟨⟨hn, hx⟩, hR⟩ := hq
                    subst hn; rw [hx] at hdec
                    rcases qa_ret_form (t := 3) ha with ⟨y, rfl, rfl, z⟩ | ⟨_, _, _, z⟩ | ⟨_, _, z⟩
                    · rcases z with z | ⟨-, z⟩
                      · cases z
                      · cases hrun
                        exact fin H locs als pc hw ⟨hdec, Or.inr ⟨hR, z⟩⟩
                    · cases z
                    · cases z
                  · by_cases h80 : op = 80
                    · subst h80
                      have ha2 : qa_call a st = some r := ha
                      unfold qa_call at ha2
                      split at ha2
                      · next f a0 k0 =>
                        split at ha2
                        · next hg =>
                          cases ha2
                          match d, X, hrun with
                          | 0, _, hrun => cases hrun
                          | d' + 1, X, hrun =>
                            dsimp only at hrun
                            by_cases hlen : (qm_lay (st.take a0).reverse).length ≤ qm_maxL f
                            · rw [if_pos hlen] at hrun
                              cases hcal : qm_run n d' f (qm_blk f 0) (qm_ent (qm_maxL f) (st.take a0).reverse) [] h with
                              | none => rw [hcal] at hrun; cases hrun
                              | some q =>
                                rw [hcal] at hrun
                                obtain ⟨r1, h1⟩ := q
                                have hrun : qm_run n (d' + 1) mi c0 ls (qm_push r1 (st.drop a0)) h1 = some (rv, h') := hrun
                                have hr1 := qm_run_rok _ _ _ _ _ _ _ _ _ hcal
                                have key := so_call (v := v) hk hb0 hML ih X hw hl ho hdec hq hg.1 hg.2.1 hg.2.2 hlen hcal (p := p) (l := l) (e := e) (R := R) (s := s) (m := m) (args := args) (below := below) (meth := meth) (c := c) (cells := cells) (slots := slots) (Q := Q) (fun H1 locs1 hw1 => by
                                  have hk3 : k = 3 := by
                                    simp only [qkB, Bool.or_eq_true, Bool.and_eq_true, decide_eq_true_eq] at hq
                                    rcases hq with ⟨⟨⟨⟨⟨⟨hn, _⟩, _⟩, _⟩, _⟩, _⟩, _⟩ | ⟨⟨⟨⟨hn, _⟩, _⟩, _⟩, _⟩
                                    · exact hn
                                    · exact hn
                                  subst hk3
                                  refine ih (d' + 1) mi c0 ls _ h1 rv h' hrun p l e R s m args below meth c cells slots Q H1 locs1 B0 sb sa sv L xs dC dI cs (pc + 3) als X hrest hw1 hl ?_ fin
                                  match r1, hr1 with
                                  | none, _ => exact fun w hw => ho w (List.mem_of_mem_drop hw)
                                  | some (.inl w), _ => exact qm_So.cons trivial (fun w hw => ho w (List.mem_of_mem_drop hw))
                                  | some (.inr (.inl w)), _ => exact qm_So.cons trivial (fun w hw => ho w (List.mem_of_mem_drop hw))
                                  | some (.inr (.inr q)), hr1 => exact absurd rfl (hr1 q))
                                exact key.2
                            · rw [if_neg hlen] at hrun
                              cases hrun
                        · cases ha2
                      · cases ha2
                    · refine qm_one X hw hl ho hdec hq ⟨h64, h70, h71, h72, h80, h73⟩ ha ?_ ?_
                      · intro ls' st' h1 e1 H1 locs1 als1 hw1 hl1 ho1
                        subst e1
                        exact ih d mi c0 ls' st' h1 rv h' hrun p l e R s m args below meth c cells slots Q H1 locs1 B0 sb sa sv L xs dC dI cs _ als1 X hrest hw1 hl1 ho1 fin
                      · intro b st' e1 ho1
                        subst e1
                        exact jump b st' hrun ho1
end
section
/-! constants, small facts for symbolic runs -/
theorem ic_m100000 : Int32.ofInt (-100000) = (-100000) := rfl
theorem ic_m8 : Int32.ofInt (-8) = (-8) := rfl
theorem ic_m2 : Int32.ofInt (-2) = (-2) := rfl
theorem ic_m1 : Int32.ofInt (-1) = (-1) := rfl
theorem ic_0 : Int32.ofInt 0 = 0 := rfl
theorem ic_1 : Int32.ofInt 1 = 1 := rfl
theorem ic_2 : Int32.ofInt 2 = 2 := rfl
theorem ic_3 : Int32.ofInt 3 = 3 := rfl
theorem ic_4 : Int32.ofInt 4 = 4 := rfl
theorem ic_5 : Int32.ofInt 5 = 5 := rfl
theorem ic_6 : Int32.ofInt 6 = 6 := rfl
theorem ic_7 : Int32.ofInt 7 = 7 := rfl
theorem ic_8 : Int32.ofInt 8 = 8 := rfl
theorem ic_9 : Int32.ofInt 9 = 9 := rfl
theorem ic_10 : Int32.ofInt 10 = 10 := rfl
theorem ic_11 : Int32.ofInt 11 = 11 := rfl
theorem ic_12 : Int32.ofInt 12 = 12 := rfl
theorem ic_13 : Int32.ofInt 13 = 13 := rfl
theorem ic_14 : Int32.ofInt 14 = 14 := rfl
theorem ic_15 : Int32.ofInt 15 = 15 := rfl
theorem ic_16 : Int32.ofInt 16 = 16 := rfl
theorem ic_17 : Int32.ofInt 17 = 17 := rfl
theorem ic_18 : Int32.ofInt 18 = 18 := rfl
theorem ic_19 : Int32.ofInt 19 = 19 := rfl
theorem ic_20 : Int32.ofInt 20 = 20 := rfl
theorem ic_21 : Int32.ofInt 21 = 21 := rfl
theorem ic_22 : Int32.ofInt 22 = 22 := rfl
theorem ic_23 : Int32.ofInt 23 = 23 := rfl
theorem ic_24 : Int32.ofInt 24 = 24 := rfl
theorem ic_25 : Int32.ofInt 25 = 25 := rfl
theorem ic_26 : Int32.ofInt 26 = 26 := rfl
theorem ic_29 : Int32.ofInt 29 = 29 := rfl
theorem ic_31 : Int32.ofInt 31 = 31 := rfl
theorem ic_32 : Int32.ofInt 32 = 32 := rfl
theorem ic_35 : Int32.ofInt 35 = 35 := rfl
theorem ic_39 : Int32.ofInt 39 = 39 := rfl
theorem ic_40 : Int32.ofInt 40 = 40 := rfl
theorem ic_41 : Int32.ofInt 41 = 41 := rfl
theorem ic_42 : Int32.ofInt 42 = 42 := rfl
theorem ic_43 : Int32.ofInt 43 = 43 := rfl
theorem ic_44 : Int32.ofInt 44 = 44 := rfl
theorem ic_45 : Int32.ofInt 45 = 45 := rfl
theorem ic_46 : Int32.ofInt 46 = 46 := rfl
theorem ic_47 : Int32.ofInt 47 = 47 := rfl
theorem ic_48 : Int32.ofInt 48 = 48 := rfl
theorem ic_49 : Int32.ofInt 49 = 49 := rfl
theorem ic_50 : Int32.ofInt 50 = 50 := rfl
theorem ic_51 : Int32.ofInt 51 = 51 := rfl
theorem ic_52 : Int32.ofInt 52 = 52 := rfl
theorem ic_53 : Int32.ofInt 53 = 53 := rfl
theorem ic_54 : Int32.ofInt 54 = 54 := rfl
theorem ic_55 : Int32.ofInt 55 = 55 := rfl
theorem ic_56 : Int32.ofInt 56 = 56 := rfl
theorem ic_57 : Int32.ofInt 57 = 57 := rfl
theorem ic_59 : Int32.ofInt 59 = 59 := rfl
theorem ic_60 : Int32.ofInt 60 = 60 := rfl
theorem ic_61 : Int32.ofInt 61 = 61 := rfl
theorem ic_62 : Int32.ofInt 62 = 62 := rfl
theorem ic_65 : Int32.ofInt 65 = 65 := rfl
theorem ic_70 : Int32.ofInt 70 = 70 := rfl
theorem ic_90 : Int32.ofInt 90 = 90 := rfl
theorem ic_97 : Int32.ofInt 97 = 97 := rfl
theorem ic_98 : Int32.ofInt 98 = 98 := rfl
theorem ic_99 : Int32.ofInt 99 = 99 := rfl
theorem ic_100 : Int32.ofInt 100 = 100 := rfl
theorem ic_101 : Int32.ofInt 101 = 101 := rfl
theorem ic_103 : Int32.ofInt 103 = 103 := rfl
theorem ic_104 : Int32.ofInt 104 = 104 := rfl
theorem ic_105 : Int32.ofInt 105 = 105 := rfl
theorem ic_107 : Int32.ofInt 107 = 107 := rfl
theorem ic_108 : Int32.ofInt 108 = 108 := rfl
theorem ic_109 : Int32.ofInt 109 = 109 := rfl
theorem ic_110 : Int32.ofInt 110 = 110 := rfl
theorem ic_111 : Int32.ofInt 111 = 111 := rfl
theorem ic_112 : Int32.ofInt 112 = 112 := rfl
theorem ic_114 : Int32.ofInt 114 = 114 := rfl
theorem ic_115 : Int32.ofInt 115 = 115 := rfl
theorem ic_116 : Int32.ofInt 116 = 116 := rfl
theorem ic_117 : Int32.ofInt 117 = 117 := rfl
theorem ic_119 : Int32.ofInt 119 = 119 := rfl
theorem ic_120 : Int32.ofInt 120 = 120 := rfl
theorem ic_121 : Int32.ofInt 121 = 121 := rfl
theorem ic_122 : Int32.ofInt 122 = 122 := rfl
theorem ic_130 : Int32.ofInt 130 = 130 := rfl
theorem ic_163 : Int32.ofInt 163 = 163 := rfl
theorem ic_200 : Int32.ofInt 200 = 200 := rfl
theorem ic_255 : Int32.ofInt 255 = 255 := rfl
theorem ic_280 : Int32.ofInt 280 = 280 := rfl
theorem ic_299 : Int32.ofInt 299 = 299 := rfl
theorem ic_300 : Int32.ofInt 300 = 300 := rfl
theorem ic_399 : Int32.ofInt 399 = 399 := rfl
theorem ic_420 : Int32.ofInt 420 = 420 := rfl
theorem ic_720 : Int32.ofInt 720 = 720 := rfl
theorem ic_999 : Int32.ofInt 999 = 999 := rfl
theorem ic_2000 : Int32.ofInt 2000 = 2000 := rfl
theorem ic_2500 : Int32.ofInt 2500 = 2500 := rfl
theorem ic_9999 : Int32.ofInt 9999 = 9999 := rfl
theorem ic_10000 : Int32.ofInt 10000 = 10000 := rfl
theorem ic_20000 : Int32.ofInt 20000 = 20000 := rfl
theorem ic_20026 : Int32.ofInt 20026 = 20026 := rfl
theorem ic_20057 : Int32.ofInt 20057 = 20057 := rfl
theorem ic_30097 : Int32.ofInt 30097 = 30097 := rfl
theorem ic_100000 : Int32.ofInt 100000 = 100000 := rfl
theorem ic_999999 : Int32.ofInt 999999 = 999999 := rfl
theorem lc_m1000000 : Int64.ofInt (-1000000) = (-1000000) := rfl
theorem lc_0 : Int64.ofInt 0 = 0 := rfl
theorem lc_1 : Int64.ofInt 1 = 1 := rfl
theorem lc_785 : Int64.ofInt 785 = 785 := rfl
theorem lc_1000 : Int64.ofInt 1000 = 1000 := rfl
theorem lc_28526 : Int64.ofInt 28526 = 28526 := rfl
theorem lc_28530 : Int64.ofInt 28530 = 28530 := rfl
theorem lc_1000000 : Int64.ofInt 1000000 = 1000000 := rfl
def qc := And.intro ic_m100000 <| And.intro ic_m8 <| And.intro ic_m2 <| And.intro ic_m1 <| And.intro ic_0 <| And.intro ic_1 <| And.intro ic_2 <| And.intro ic_3 <| And.intro ic_4 <| And.intro ic_5 <| And.intro ic_6 <| And.intro ic_7 <| And.intro ic_8 <| And.intro ic_9 <| And.intro ic_10 <| And.intro ic_11 <| And.intro ic_12 <| And.intro ic_13 <| And.intro ic_14 <| And.intro ic_15 <| And.intro ic_16 <| And.intro ic_17 <| And.intro ic_18 <| And.intro ic_19 <| And.intro ic_20 <| And.intro ic_21 <| And.intro ic_22 <| And.intro ic_23 <| And.intro ic_24 <| And.intro ic_25 <| And.intro ic_26 <| And.intro ic_29 <| And.intro ic_31 <| And.intro ic_32 <| And.intro ic_35 <| And.intro ic_39 <| And.intro ic_40 <| And.intro ic_41 <| And.intro ic_42 <| And.intro ic_43 <| And.intro ic_44 <| And.intro ic_45 <| And.intro ic_46 <| And.intro ic_47 <| And.intro ic_48 <| And.intro ic_49 <| And.intro ic_50 <| And.intro ic_51 <| And.intro ic_52 <| And.intro ic_53 <| And.intro ic_54 <| And.intro ic_55 <| And.intro ic_56 <| And.intro ic_57 <| And.intro ic_59 <| And.intro ic_60 <| And.intro ic_61 <| And.intro ic_62 <| And.intro ic_65 <| And.intro ic_70 <| And.intro ic_90 <| And.intro ic_97 <| And.intro ic_98 <| And.intro ic_99 <| And.intro ic_100 <| And.intro ic_101 <| And.intro ic_103 <| And.intro ic_104 <| And.intro ic_105 <| And.intro ic_107 <| And.intro ic_108 <| And.intro ic_109 <| And.intro ic_110 <| And.intro ic_111 <| And.intro ic_112 <| And.intro ic_114 <| And.intro ic_115 <| And.intro ic_116 <| And.intro ic_117 <| And.intro ic_119 <| And.intro ic_120 <| And.intro ic_121 <| And.intro ic_122 <| And.intro ic_130 <| And.intro ic_163 <| And.intro ic_200 <| And.intro ic_255 <| And.intro ic_280 <| And.intro ic_299 <| And.intro ic_300 <| And.intro ic_399 <| And.intro ic_420 <| And.intro ic_720 <| And.intro ic_999 <| And.intro ic_2000 <| And.intro ic_2500 <| And.intro ic_9999 <| And.intro ic_10000 <| And.intro ic_20000 <| And.intro ic_20026 <| And.intro ic_20057 <| And.intro ic_30097 <| And.intro ic_100000 <| And.intro ic_999999 <| And.intro lc_m1000000 <| And.intro lc_0 <| And.intro lc_1 <| And.intro lc_785 <| And.intro lc_1000 <| And.intro lc_28526 <| And.intro lc_28530 lc_1000000
theorem qz1 (c : Prop) [Decidable c] : ((if c then (1 : Int32) else 0) = 0 ∨ (if c then (1 : Int32) else 0) = 1) = True := by
  by_cases h : c <;> simp [h]
theorem qz2 (c : Prop) [Decidable c] : ((if c then (0 : Int32) else 1) = 0 ∨ (if c then (0 : Int32) else 1) = 1) = True := by
  by_cases h : c <;> simp [h]
theorem qz3 : ((0 : Int32) = 0 ∨ (0 : Int32) = 1) = True := by simp
theorem qz4 : ((1 : Int32) = 0 ∨ (1 : Int32) = 1) = True := by simp
theorem qz5 (c : Prop) [Decidable c] : ((if c then (1 : Int32) else 0) = 0) = ¬ c := by
  by_cases h : c <;> simp [h]
theorem qz6 (c : Prop) [Decidable c] : ((if c then (0 : Int32) else 1) = 0) = c := by
  by_cases h : c <;> simp [h]
/-- counting up to w -/
theorem q_up {α : Type} {w : Nat} (F : Nat → α) {R : α} (he : F w = R) (hs : ∀ k, k < w → F k = F (k + 1)) : ∀ k, k ≤ w → F k = R := by
  intro k hk
  induction hn : w - k generalizing k with
  | zero =>
    have : k = w := by omega
    rw [this]; exact he
  | succ n ih =>
    rw [hs k (by omega)]
    exact ih (k + 1) (by omega) (by omega)
end
section
theorem e_C_within (d : Nat) (s : qm_Hp) (a0 : Int32) (a1 : Int32) (a2 : Int32) : qm_evM d jC_within [qI a0, qI a1, qI a2] s = qm_evB d jC_within 0 [qI a0, qI a1, qI a2] [] s := rfl
theorem b_C_within_0 (d : Nat) (ls st : List qm_AV) (s : qm_Hp) : qm_evB d jC_within 0 ls st s = qm_ev d jC_within [(2, [0], 0), (2, [1], 0), (60, [2, 1], 0), (2, [0], 0), (2, [2], 0), (60, [4, 1], 0), (0, [], 1), (63, [2], 0)] ls st s := rfl
theorem b_C_within_1 (d : Nat) (ls st : List qm_AV) (s : qm_Hp) : qm_evB d jC_within 1 ls st s = qm_ev d jC_within [(0, [], 0), (64, [2], 0)] ls st s := rfl
theorem b_C_within_2 (d : Nat) (ls st : List qm_AV) (s : qm_Hp) : qm_evB d jC_within 2 ls st s = qm_ev d jC_within [(73, [], 0)] ls st s := rfl
theorem e_M_isIn (d : Nat) (s : qm_Hp) (a0 : Int32) (a1 : Int32) (a2 : Int32) : qm_evM d jM_isIn [qI a0, qI a1, qI a2] s = qm_evB d jM_isIn 0 [qI a0, qI a1, qI a2] [] s := rfl
theorem b_M_isIn_0 (d : Nat) (ls st : List qm_AV) (s : qm_Hp) : qm_evB d jM_isIn 0 ls st s = qm_ev d jM_isIn [(2, [0], 0), (2, [1], 0), (60, [2, 1], 0), (2, [0], 0), (2, [2], 0), (60, [4, 1], 0), (0, [], 1), (63, [2], 0)] ls st s := rfl
theorem b_M_isIn_1 (d : Nat) (ls st : List qm_AV) (s : qm_Hp) : qm_evB d jM_isIn 1 ls st s = qm_ev d jM_isIn [(0, [], 0), (64, [2], 0)] ls st s := rfl
theorem b_M_isIn_2 (d : Nat) (ls st : List qm_AV) (s : qm_Hp) : qm_evB d jM_isIn 2 ls st s = qm_ev d jM_isIn [(73, [], 0)] ls st s := rfl
theorem e_C_placeOf (d : Nat) (s : qm_Hp) (a0 : Int32) (a1 : Int32) : qm_evM d jC_placeOf [qI a0, qI a1] s = qm_evB d jC_placeOf 0 [qI a0, qI a1] [] s := rfl
theorem b_C_placeOf_0 (d : Nat) (ls st : List qm_AV) (s : qm_Hp) : qm_evB d jC_placeOf 0 ls st s = qm_ev d jC_placeOf [(2, [0], 0), (0, [], 8), (12, [], 0), (2, [1], 0), (10, [], 0), (70, [], 0)] ls st s := rfl
theorem e_P_splits (d : Nat) (s : qm_Hp) (a0 : Nat) : qm_evM d jP_splits [qP 3 a0] s = qm_evB d jP_splits 0 [qP 3 a0, qU, qU] [] s := rfl
theorem b_P_splits_0 (d : Nat) (ls st : List qm_AV) (s : qm_Hp) : qm_evB d jP_splits 0 ls st s = qm_ev d jP_splits [(0, [], 0), (5, [1], 0), (0, [], 0), (5, [2], 0), (64, [1], 0)] ls st s := rfl
theorem b_P_splits_1 (d : Nat) (ls st : List qm_AV) (s : qm_Hp) : qm_evB d jP_splits 1 ls st s = qm_ev d jP_splits [(2, [2], 0), (4, [0], 0), (40, [3, 0], 0), (60, [3, 2], 0), (2, [1], 0), (4, [0], 0), (42, [3, 7, 17, 1, 0], 0), (2, [2], 0), (50, [], 0), (10, [], 0), (5, [1], 0), (8, [2], 1), (63, [1], 0)] ls st s := rfl
theorem b_P_splits_2 (d : Nat) (ls st : List qm_AV) (s : qm_Hp) : qm_evB d jP_splits 2 ls st s = qm_ev d jP_splits [(2, [1], 0), (70, [], 0)] ls st s := rfl
end
section
theorem s_within (d : Nat) (s : qm_Hp) (a b c : Int32) : qm_evM d jC_within [qI a, qI b, qI c] s = some (some (qI (if b ≤ a ∧ a ≤ c then 1 else 0)), s) := by
  simp only [e_C_within, b_C_within_0, b_C_within_1, b_C_within_2, qx, qe, qc, qil, reduceIte, Nat.reduceEqDiff, Nat.reduceLeDiff, Bool.false_eq_true, Nat.reduceAdd, Nat.reduceLT, List.length_cons, List.length_nil, or_self, or_false, false_or, or_true, true_or, and_self, and_true, true_and, and_false, false_and, not_true_eq_false, not_false_eq_true, Nat.zero_le, qz1, qz2, qz3, qz4, qz5, qz6]
  by_cases h1 : a < b
  · simp [h1, Int32.not_le.mpr h1]
  · by_cases h2 : c < a
    · simp [h1, h2, Int32.not_le.mpr h2]
    · simp [h1, h2, Int32.not_lt.mp h1, Int32.not_lt.mp h2]
theorem s_isIn (d : Nat) (s : qm_Hp) (a b c : Int32) : qm_evM d jM_isIn [qI a, qI b, qI c] s = some (some (qI (if b ≤ a ∧ a ≤ c then 1 else 0)), s) := by
  simp only [e_M_isIn, b_M_isIn_0, b_M_isIn_1, b_M_isIn_2, qx, qe, qc, qil, reduceIte, Nat.reduceEqDiff, Nat.reduceLeDiff, Bool.false_eq_true, Nat.reduceAdd, Nat.reduceLT, List.length_cons, List.length_nil, or_self, or_false, false_or, or_true, true_or, and_self, and_true, true_and, and_false, false_and, not_true_eq_false, not_false_eq_true, Nat.zero_le, qz1, qz2, qz3, qz4, qz5, qz6]
  by_cases h1 : a < b
  · simp [h1, Int32.not_le.mpr h1]
  · by_cases h2 : c < a
    · simp [h1, h2, Int32.not_le.mpr h2]
    · simp [h1, h2, Int32.not_lt.mp h1, Int32.not_lt.mp h2]
theorem s_placeOf (d : Nat) (s : qm_Hp) (a b : Int32) : qm_evM d jC_placeOf [qI a, qI b] s = some (some (qI (a * 8 + b)), s) := by
  simp only [e_C_placeOf, b_C_placeOf_0, qx, qe, qc, qil, reduceIte, Nat.reduceEqDiff, Nat.reduceLeDiff, Bool.false_eq_true, Nat.reduceAdd, Nat.reduceLT, List.length_cons, List.length_nil, or_self, or_false, false_or, or_true, true_or, and_self, and_true, true_and, and_false, false_and, not_true_eq_false, not_false_eq_true, Nat.zero_le, qz1, qz2, qz3, qz4, qz5, qz6]
theorem s_splits (d : Nat) (s : qm_Hp) (p w : Nat) (hw : zI s 3 p 0 = nI w) (hw6 : w ≤ 6) : qm_evM d jP_splits [qP 3 p] s = some (some (qI (bx_sum (fun c => zI s 17 p c) w)), s) := by
  simp only [e_P_splits, b_P_splits_0, qx, qe, qc, qil, reduceIte, Nat.reduceEqDiff, Nat.reduceLeDiff, Bool.false_eq_true, Nat.reduceAdd, Nat.reduceLT, List.length_cons, List.length_nil, or_self, or_false, false_or, or_true, true_or, and_self, and_true, true_and, and_false, false_and, not_true_eq_false, not_false_eq_true, Nat.zero_le, qz1, qz2, qz3, qz4, qz5, qz6]
  refine q_up (w := w) (fun k => qm_evB d jP_splits 1 [qP 3 p, qI (bx_sum (fun c => zI s 17 p c) k), qI (nI k)] [] s) ?_ ?_ 0 (Nat.zero_le _)
  · simp only [b_P_splits_1, b_P_splits_2, qx, qe, qc, qil, reduceIte, Nat.reduceEqDiff, Nat.reduceLeDiff, Bool.false_eq_true, Nat.reduceAdd, Nat.reduceLT, List.length_cons, List.length_nil, or_self, or_false, false_or, or_true, true_or, and_self, and_true, true_and, and_false, false_and, not_true_eq_false, not_false_eq_true, Nat.zero_le, qz1, qz2, qz3, qz4, qz5, qz6, hw, Int32.le_refl]
  · intro k hk
    have h1 : ¬ nI w ≤ nI k := nI_ge hk (by omega)
    have h2 : vp_in (nI k) 6 := vp_in_nI (by omega) (by decide)
    have h3 : (nI k).toNatClampNeg = k := nI_clamp (by omega)
    simp only [b_P_splits_1, qx, qe, qc, qil, reduceIte, Nat.reduceEqDiff, Nat.reduceLeDiff, Bool.false_eq_true, Nat.reduceAdd, Nat.reduceLT, List.length_cons, List.length_nil, or_self, or_false, false_or, or_true, true_or, and_self, and_true, true_and, and_false, false_and, not_true_eq_false, not_false_eq_true, Nat.zero_le, qz1, qz2, qz3, qz4, qz5, qz6, hw, h1, h2, h3, nI_1]
    rfl
end
