-- ===== PART A: goes FIRST, ahead of the names: the tables' words, and 'selects' of the private methods out of them =====
/-- a private method of a class that the tables say can be made, by its rows of tables_1 -/
def lw_okq (q : MethodName × Nat) : Prop := (q.1.cls ≠ "java/lang/invoke/MethodHandle" ∧ q.1.cls ≠ "java/lang/invoke/VarHandle") ∧ Cond.instantiable q.1.cls q.2 ∈ tables_1 ∧ Cond.privateMethod q.1 ∈ tables_1 ∧ Cond.instanceMethod q.1 ∈ tables_1
theorem lw_p0 : lw_okq (⟨"WoodStack", "isWeather", "(I)Z"⟩, 15) := ⟨⟨by decide +kernel, by decide +kernel⟩, List.mem_of_getElem? (i := 17) (by decide +kernel), List.mem_of_getElem? (i := 399) (by decide +kernel), List.mem_of_getElem? (i := 400) (by decide +kernel)⟩
theorem lw_p1 : lw_okq (⟨"WoodStack", "feedFour", "(I)V"⟩, 15) := ⟨⟨by decide +kernel, by decide +kernel⟩, List.mem_of_getElem? (i := 17) (by decide +kernel), List.mem_of_getElem? (i := 411) (by decide +kernel), List.mem_of_getElem? (i := 412) (by decide +kernel)⟩
theorem lw_p2 : lw_okq (⟨"WoodStack$Tokens", "cutWord", "([III)I"⟩, 4) := ⟨⟨by decide +kernel, by decide +kernel⟩, List.mem_of_getElem? (i := 85) (by decide +kernel), List.mem_of_getElem? (i := 435) (by decide +kernel), List.mem_of_getElem? (i := 436) (by decide +kernel)⟩
theorem lw_p3 : lw_okq (⟨"WoodStack$Tokens", "add", "(III)V"⟩, 4) := ⟨⟨by decide +kernel, by decide +kernel⟩, List.mem_of_getElem? (i := 85) (by decide +kernel), List.mem_of_getElem? (i := 491) (by decide +kernel), List.mem_of_getElem? (i := 492) (by decide +kernel)⟩
theorem lw_p4 : lw_okq (⟨"WoodStack$Tokens", "cutNumber", "([III)I"⟩, 4) := ⟨⟨by decide +kernel, by decide +kernel⟩, List.mem_of_getElem? (i := 85) (by decide +kernel), List.mem_of_getElem? (i := 498) (by decide +kernel), List.mem_of_getElem? (i := 499) (by decide +kernel)⟩
theorem lw_p5 : lw_okq (⟨"WoodStack$Tokens", "cutSign", "([III)I"⟩, 4) := ⟨⟨by decide +kernel, by decide +kernel⟩, List.mem_of_getElem? (i := 85) (by decide +kernel), List.mem_of_getElem? (i := 503) (by decide +kernel), List.mem_of_getElem? (i := 504) (by decide +kernel)⟩
theorem lw_p6 : lw_okq (⟨"WoodStack$Reader", "token", "()I"⟩, 6) := ⟨⟨by decide +kernel, by decide +kernel⟩, List.mem_of_getElem? (i := 79) (by decide +kernel), List.mem_of_getElem? (i := 514) (by decide +kernel), List.mem_of_getElem? (i := 515) (by decide +kernel)⟩
theorem lw_p7 : lw_okq (⟨"WoodStack$Reader", "readClause", "(I)V"⟩, 6) := ⟨⟨by decide +kernel, by decide +kernel⟩, List.mem_of_getElem? (i := 79) (by decide +kernel), List.mem_of_getElem? (i := 518) (by decide +kernel), List.mem_of_getElem? (i := 519) (by decide +kernel)⟩
theorem lw_p8 : lw_okq (⟨"WoodStack$Reader", "fail", "(I)V"⟩, 6) := ⟨⟨by decide +kernel, by decide +kernel⟩, List.mem_of_getElem? (i := 79) (by decide +kernel), List.mem_of_getElem? (i := 523) (by decide +kernel), List.mem_of_getElem? (i := 524) (by decide +kernel)⟩
theorem lw_p9 : lw_okq (⟨"WoodStack$Reader", "step", "()V"⟩, 6) := ⟨⟨by decide +kernel, by decide +kernel⟩, List.mem_of_getElem? (i := 79) (by decide +kernel), List.mem_of_getElem? (i := 539) (by decide +kernel), List.mem_of_getElem? (i := 540) (by decide +kernel)⟩
theorem lw_p10 : lw_okq (⟨"WoodStack$Reader", "readLay", "()V"⟩, 6) := ⟨⟨by decide +kernel, by decide +kernel⟩, List.mem_of_getElem? (i := 79) (by decide +kernel), List.mem_of_getElem? (i := 543) (by decide +kernel), List.mem_of_getElem? (i := 544) (by decide +kernel)⟩
theorem lw_p11 : lw_okq (⟨"WoodStack$Reader", "readTold", "(II)V"⟩, 6) := ⟨⟨by decide +kernel, by decide +kernel⟩, List.mem_of_getElem? (i := 79) (by decide +kernel), List.mem_of_getElem? (i := 547) (by decide +kernel), List.mem_of_getElem? (i := 548) (by decide +kernel)⟩
theorem lw_p12 : lw_okq (⟨"WoodStack$Reader", "number", "()I"⟩, 6) := ⟨⟨by decide +kernel, by decide +kernel⟩, List.mem_of_getElem? (i := 79) (by decide +kernel), List.mem_of_getElem? (i := 551) (by decide +kernel), List.mem_of_getElem? (i := 552) (by decide +kernel)⟩
theorem lw_p13 : lw_okq (⟨"WoodStack$Reader", "emit", "(I)V"⟩, 6) := ⟨⟨by decide +kernel, by decide +kernel⟩, List.mem_of_getElem? (i := 79) (by decide +kernel), List.mem_of_getElem? (i := 555) (by decide +kernel), List.mem_of_getElem? (i := 556) (by decide +kernel)⟩
theorem lw_p14 : lw_okq (⟨"WoodStack$Reader", "expect", "(I)V"⟩, 6) := ⟨⟨by decide +kernel, by decide +kernel⟩, List.mem_of_getElem? (i := 79) (by decide +kernel), List.mem_of_getElem? (i := 563) (by decide +kernel), List.mem_of_getElem? (i := 564) (by decide +kernel)⟩
theorem lw_p15 : lw_okq (⟨"WoodStack$Reader", "readPart", "(II)V"⟩, 6) := ⟨⟨by decide +kernel, by decide +kernel⟩, List.mem_of_getElem? (i := 79) (by decide +kernel), List.mem_of_getElem? (i := 567) (by decide +kernel), List.mem_of_getElem? (i := 568) (by decide +kernel)⟩
def lw_privs_1 : List (MethodName × Nat) := [(⟨"WoodStack", "isWeather", "(I)Z"⟩, 15), (⟨"WoodStack", "feedFour", "(I)V"⟩, 15), (⟨"WoodStack$Tokens", "cutWord", "([III)I"⟩, 4), (⟨"WoodStack$Tokens", "add", "(III)V"⟩, 4), (⟨"WoodStack$Tokens", "cutNumber", "([III)I"⟩, 4), (⟨"WoodStack$Tokens", "cutSign", "([III)I"⟩, 4), (⟨"WoodStack$Reader", "token", "()I"⟩, 6), (⟨"WoodStack$Reader", "readClause", "(I)V"⟩, 6), (⟨"WoodStack$Reader", "fail", "(I)V"⟩, 6), (⟨"WoodStack$Reader", "step", "()V"⟩, 6), (⟨"WoodStack$Reader", "readLay", "()V"⟩, 6), (⟨"WoodStack$Reader", "readTold", "(II)V"⟩, 6), (⟨"WoodStack$Reader", "number", "()I"⟩, 6), (⟨"WoodStack$Reader", "emit", "(I)V"⟩, 6), (⟨"WoodStack$Reader", "expect", "(I)V"⟩, 6), (⟨"WoodStack$Reader", "readPart", "(II)V"⟩, 6)]
theorem lw_r1 : ∀ q ∈ lw_privs_1, lw_okq q := List.forall_mem_cons.mpr ⟨lw_p0, List.forall_mem_cons.mpr ⟨lw_p1, List.forall_mem_cons.mpr ⟨lw_p2, List.forall_mem_cons.mpr ⟨lw_p3, List.forall_mem_cons.mpr ⟨lw_p4, List.forall_mem_cons.mpr ⟨lw_p5, List.forall_mem_cons.mpr ⟨lw_p6, List.forall_mem_cons.mpr ⟨lw_p7, List.forall_mem_cons.mpr ⟨lw_p8, List.forall_mem_cons.mpr ⟨lw_p9, List.forall_mem_cons.mpr ⟨lw_p10, List.forall_mem_cons.mpr ⟨lw_p11, List.forall_mem_cons.mpr ⟨lw_p12, List.forall_mem_cons.mpr ⟨lw_p13, List.forall_mem_cons.mpr ⟨lw_p14, List.forall_mem_cons.mpr ⟨lw_p15, fun _ h => absurd h List.not_mem_nil⟩⟩⟩⟩⟩⟩⟩⟩⟩⟩⟩⟩⟩⟩⟩⟩
theorem lw_p16 : lw_okq (⟨"WoodStack$Reader", "readAsk", "(I)V"⟩, 6) := ⟨⟨by decide +kernel, by decide +kernel⟩, List.mem_of_getElem? (i := 79) (by decide +kernel), List.mem_of_getElem? (i := 571) (by decide +kernel), List.mem_of_getElem? (i := 572) (by decide +kernel)⟩
theorem lw_p17 : lw_okq (⟨"WoodStack$Reader", "opens", "(I)Z"⟩, 6) := ⟨⟨by decide +kernel, by decide +kernel⟩, List.mem_of_getElem? (i := 79) (by decide +kernel), List.mem_of_getElem? (i := 575) (by decide +kernel), List.mem_of_getElem? (i := 576) (by decide +kernel)⟩
theorem lw_p18 : lw_okq (⟨"WoodStack$Reader", "readOne", "(I)V"⟩, 6) := ⟨⟨by decide +kernel, by decide +kernel⟩, List.mem_of_getElem? (i := 79) (by decide +kernel), List.mem_of_getElem? (i := 579) (by decide +kernel), List.mem_of_getElem? (i := 580) (by decide +kernel)⟩
theorem lw_p19 : lw_okq (⟨"WoodStack$Reader", "readName", "(I)V"⟩, 6) := ⟨⟨by decide +kernel, by decide +kernel⟩, List.mem_of_getElem? (i := 79) (by decide +kernel), List.mem_of_getElem? (i := 583) (by decide +kernel), List.mem_of_getElem? (i := 584) (by decide +kernel)⟩
theorem lw_p20 : lw_okq (⟨"WoodStack$Reader", "isNameOfClause", "(I)Z"⟩, 6) := ⟨⟨by decide +kernel, by decide +kernel⟩, List.mem_of_getElem? (i := 79) (by decide +kernel), List.mem_of_getElem? (i := 587) (by decide +kernel), List.mem_of_getElem? (i := 588) (by decide +kernel)⟩
theorem lw_p21 : lw_okq (⟨"WoodStack$Reader", "readPair", "(II)V"⟩, 6) := ⟨⟨by decide +kernel, by decide +kernel⟩, List.mem_of_getElem? (i := 79) (by decide +kernel), List.mem_of_getElem? (i := 591) (by decide +kernel), List.mem_of_getElem? (i := 592) (by decide +kernel)⟩
theorem lw_p22 : lw_okq (⟨"WoodStack", "isText", "(I)Z"⟩, 15) := ⟨⟨by decide +kernel, by decide +kernel⟩, List.mem_of_getElem? (i := 17) (by decide +kernel), List.mem_of_getElem? (i := 607) (by decide +kernel), List.mem_of_getElem? (i := 608) (by decide +kernel)⟩
theorem lw_p23 : lw_okq (⟨"WoodStack", "obey", "()V"⟩, 15) := ⟨⟨by decide +kernel, by decide +kernel⟩, List.mem_of_getElem? (i := 17) (by decide +kernel), List.mem_of_getElem? (i := 611) (by decide +kernel), List.mem_of_getElem? (i := 612) (by decide +kernel)⟩
theorem lw_p24 : lw_okq (⟨"WoodStack", "layClause", "(LWoodStack$Text;I)Z"⟩, 15) := ⟨⟨by decide +kernel, by decide +kernel⟩, List.mem_of_getElem? (i := 17) (by decide +kernel), List.mem_of_getElem? (i := 623) (by decide +kernel), List.mem_of_getElem? (i := 624) (by decide +kernel)⟩
theorem lw_p25 : lw_okq (⟨"WoodStack$Laws", "look", "(LWoodStack$Pile;II)V"⟩, 3) := ⟨⟨by decide +kernel, by decide +kernel⟩, List.mem_of_getElem? (i := 62) (by decide +kernel), List.mem_of_getElem? (i := 640) (by decide +kernel), List.mem_of_getElem? (i := 641) (by decide +kernel)⟩
theorem lw_p26 : lw_okq (⟨"WoodStack$Laws", "valueOf", "(I)I"⟩, 3) := ⟨⟨by decide +kernel, by decide +kernel⟩, List.mem_of_getElem? (i := 62) (by decide +kernel), List.mem_of_getElem? (i := 659) (by decide +kernel), List.mem_of_getElem? (i := 660) (by decide +kernel)⟩
theorem lw_p27 : lw_okq (⟨"WoodStack$Laws", "nameValue", "(I)I"⟩, 3) := ⟨⟨by decide +kernel, by decide +kernel⟩, List.mem_of_getElem? (i := 62) (by decide +kernel), List.mem_of_getElem? (i := 663) (by decide +kernel), List.mem_of_getElem? (i := 664) (by decide +kernel)⟩
theorem lw_p28 : lw_okq (⟨"WoodStack$Laws", "hasBeetle", "(LWoodStack$Pile;II)Z"⟩, 3) := ⟨⟨by decide +kernel, by decide +kernel⟩, List.mem_of_getElem? (i := 62) (by decide +kernel), List.mem_of_getElem? (i := 733) (by decide +kernel), List.mem_of_getElem? (i := 734) (by decide +kernel)⟩
theorem lw_p29 : lw_okq (⟨"WoodStack$Laws", "driedBy", "(LWoodStack$Pile;II)I"⟩, 3) := ⟨⟨by decide +kernel, by decide +kernel⟩, List.mem_of_getElem? (i := 62) (by decide +kernel), List.mem_of_getElem? (i := 750) (by decide +kernel), List.mem_of_getElem? (i := 751) (by decide +kernel)⟩
theorem lw_p30 : lw_okq (⟨"WoodStack", "takeOne", "()I"⟩, 15) := ⟨⟨by decide +kernel, by decide +kernel⟩, List.mem_of_getElem? (i := 17) (by decide +kernel), List.mem_of_getElem? (i := 762) (by decide +kernel), List.mem_of_getElem? (i := 763) (by decide +kernel)⟩
theorem lw_p31 : lw_okq (⟨"WoodStack$Pile", "bringDown", "(I)V"⟩, 13) := ⟨⟨by decide +kernel, by decide +kernel⟩, List.mem_of_getElem? (i := 141) (by decide +kernel), List.mem_of_getElem? (i := 775) (by decide +kernel), List.mem_of_getElem? (i := 776) (by decide +kernel)⟩
def lw_privs_2 : List (MethodName × Nat) := [(⟨"WoodStack$Reader", "readAsk", "(I)V"⟩, 6), (⟨"WoodStack$Reader", "opens", "(I)Z"⟩, 6), (⟨"WoodStack$Reader", "readOne", "(I)V"⟩, 6), (⟨"WoodStack$Reader", "readName", "(I)V"⟩, 6), (⟨"WoodStack$Reader", "isNameOfClause", "(I)Z"⟩, 6), (⟨"WoodStack$Reader", "readPair", "(II)V"⟩, 6), (⟨"WoodStack", "isText", "(I)Z"⟩, 15), (⟨"WoodStack", "obey", "()V"⟩, 15), (⟨"WoodStack", "layClause", "(LWoodStack$Text;I)Z"⟩, 15), (⟨"WoodStack$Laws", "look", "(LWoodStack$Pile;II)V"⟩, 3), (⟨"WoodStack$Laws", "valueOf", "(I)I"⟩, 3), (⟨"WoodStack$Laws", "nameValue", "(I)I"⟩, 3), (⟨"WoodStack$Laws", "hasBeetle", "(LWoodStack$Pile;II)Z"⟩, 3), (⟨"WoodStack$Laws", "driedBy", "(LWoodStack$Pile;II)I"⟩, 3), (⟨"WoodStack", "takeOne", "()I"⟩, 15), (⟨"WoodStack$Pile", "bringDown", "(I)V"⟩, 13)]
theorem lw_r2 : ∀ q ∈ lw_privs_2, lw_okq q := List.forall_mem_cons.mpr ⟨lw_p16, List.forall_mem_cons.mpr ⟨lw_p17, List.forall_mem_cons.mpr ⟨lw_p18, List.forall_mem_cons.mpr ⟨lw_p19, List.forall_mem_cons.mpr ⟨lw_p20, List.forall_mem_cons.mpr ⟨lw_p21, List.forall_mem_cons.mpr ⟨lw_p22, List.forall_mem_cons.mpr ⟨lw_p23, List.forall_mem_cons.mpr ⟨lw_p24, List.forall_mem_cons.mpr ⟨lw_p25, List.forall_mem_cons.mpr ⟨lw_p26, List.forall_mem_cons.mpr ⟨lw_p27, List.forall_mem_cons.mpr ⟨lw_p28, List.forall_mem_cons.mpr ⟨lw_p29, List.forall_mem_cons.mpr ⟨lw_p30, List.forall_mem_cons.mpr ⟨lw_p31, fun _ h => absurd h List.not_mem_nil⟩⟩⟩⟩⟩⟩⟩⟩⟩⟩⟩⟩⟩⟩⟩⟩
theorem lw_p32 : lw_okq (⟨"WoodStack", "canPass", "(I)Z"⟩, 15) := ⟨⟨by decide +kernel, by decide +kernel⟩, List.mem_of_getElem? (i := 17) (by decide +kernel), List.mem_of_getElem? (i := 783) (by decide +kernel), List.mem_of_getElem? (i := 784) (by decide +kernel)⟩
theorem lw_p33 : lw_okq (⟨"WoodStack$Search", "tryFrom", "(IIILWoodStack$Yard;LWoodStack$Laws;)V"⟩, 5) := ⟨⟨by decide +kernel, by decide +kernel⟩, List.mem_of_getElem? (i := 272) (by decide +kernel), List.mem_of_getElem? (i := 798) (by decide +kernel), List.mem_of_getElem? (i := 799) (by decide +kernel)⟩
theorem lw_p34 : lw_okq (⟨"WoodStack$Search", "note", "(II)V"⟩, 5) := ⟨⟨by decide +kernel, by decide +kernel⟩, List.mem_of_getElem? (i := 272) (by decide +kernel), List.mem_of_getElem? (i := 802) (by decide +kernel), List.mem_of_getElem? (i := 803) (by decide +kernel)⟩
theorem lw_p35 : lw_okq (⟨"WoodStack", "tryWay", "(II)V"⟩, 15) := ⟨⟨by decide +kernel, by decide +kernel⟩, List.mem_of_getElem? (i := 17) (by decide +kernel), List.mem_of_getElem? (i := 815) (by decide +kernel), List.mem_of_getElem? (i := 816) (by decide +kernel)⟩
theorem lw_p36 : lw_okq (⟨"WoodStack", "bestInBoth", "(II)I"⟩, 15) := ⟨⟨by decide +kernel, by decide +kernel⟩, List.mem_of_getElem? (i := 17) (by decide +kernel), List.mem_of_getElem? (i := 827) (by decide +kernel), List.mem_of_getElem? (i := 828) (by decide +kernel)⟩
theorem lw_p37 : lw_okq (⟨"WoodStack", "canTry", "(I)Z"⟩, 15) := ⟨⟨by decide +kernel, by decide +kernel⟩, List.mem_of_getElem? (i := 17) (by decide +kernel), List.mem_of_getElem? (i := 835) (by decide +kernel), List.mem_of_getElem? (i := 836) (by decide +kernel)⟩
theorem lw_p38 : lw_okq (⟨"WoodStack", "trySpans", "(I)V"⟩, 15) := ⟨⟨by decide +kernel, by decide +kernel⟩, List.mem_of_getElem? (i := 17) (by decide +kernel), List.mem_of_getElem? (i := 839) (by decide +kernel), List.mem_of_getElem? (i := 840) (by decide +kernel)⟩
theorem lw_p39 : lw_okq (⟨"WoodStack", "lesser", "(I)I"⟩, 15) := ⟨⟨by decide +kernel, by decide +kernel⟩, List.mem_of_getElem? (i := 17) (by decide +kernel), List.mem_of_getElem? (i := 843) (by decide +kernel), List.mem_of_getElem? (i := 844) (by decide +kernel)⟩
theorem lw_p40 : lw_okq (⟨"WoodStack", "greater", "(I)I"⟩, 15) := ⟨⟨by decide +kernel, by decide +kernel⟩, List.mem_of_getElem? (i := 17) (by decide +kernel), List.mem_of_getElem? (i := 847) (by decide +kernel), List.mem_of_getElem? (i := 848) (by decide +kernel)⟩
theorem lw_p41 : lw_okq (⟨"WoodStack", "nextToMeasure", "()I"⟩, 15) := ⟨⟨by decide +kernel, by decide +kernel⟩, List.mem_of_getElem? (i := 17) (by decide +kernel), List.mem_of_getElem? (i := 855) (by decide +kernel), List.mem_of_getElem? (i := 856) (by decide +kernel)⟩
theorem lw_p42 : lw_okq (⟨"WoodStack", "listHeats", "()I"⟩, 15) := ⟨⟨by decide +kernel, by decide +kernel⟩, List.mem_of_getElem? (i := 17) (by decide +kernel), List.mem_of_getElem? (i := 869) (by decide +kernel), List.mem_of_getElem? (i := 870) (by decide +kernel)⟩
theorem lw_p43 : lw_okq (⟨"WoodStack", "pullGreatest", "(I)I"⟩, 15) := ⟨⟨by decide +kernel, by decide +kernel⟩, List.mem_of_getElem? (i := 17) (by decide +kernel), List.mem_of_getElem? (i := 873) (by decide +kernel), List.mem_of_getElem? (i := 874) (by decide +kernel)⟩
theorem lw_p44 : lw_okq (⟨"WoodStack", "missingOf", "(I)I"⟩, 15) := ⟨⟨by decide +kernel, by decide +kernel⟩, List.mem_of_getElem? (i := 17) (by decide +kernel), List.mem_of_getElem? (i := 886) (by decide +kernel), List.mem_of_getElem? (i := 887) (by decide +kernel)⟩
theorem lw_p45 : lw_okq (⟨"WoodStack", "fallsBy", "(II)Z"⟩, 15) := ⟨⟨by decide +kernel, by decide +kernel⟩, List.mem_of_getElem? (i := 17) (by decide +kernel), List.mem_of_getElem? (i := 894) (by decide +kernel), List.mem_of_getElem? (i := 895) (by decide +kernel)⟩
theorem lw_p46 : lw_okq (⟨"WoodStackModel", "copy", "(II)V"⟩, 37) := ⟨⟨by decide +kernel, by decide +kernel⟩, List.mem_of_getElem? (i := 919) (by decide +kernel), List.mem_of_getElem? (i := 925) (by decide +kernel), List.mem_of_getElem? (i := 926) (by decide +kernel)⟩
theorem lw_p47 : lw_okq (⟨"WoodStackModel", "isColumn", "(I)Z"⟩, 37) := ⟨⟨by decide +kernel, by decide +kernel⟩, List.mem_of_getElem? (i := 919) (by decide +kernel), List.mem_of_getElem? (i := 1045) (by decide +kernel), List.mem_of_getElem? (i := 1046) (by decide +kernel)⟩
def lw_privs_3 : List (MethodName × Nat) := [(⟨"WoodStack", "canPass", "(I)Z"⟩, 15), (⟨"WoodStack$Search", "tryFrom", "(IIILWoodStack$Yard;LWoodStack$Laws;)V"⟩, 5), (⟨"WoodStack$Search", "note", "(II)V"⟩, 5), (⟨"WoodStack", "tryWay", "(II)V"⟩, 15), (⟨"WoodStack", "bestInBoth", "(II)I"⟩, 15), (⟨"WoodStack", "canTry", "(I)Z"⟩, 15), (⟨"WoodStack", "trySpans", "(I)V"⟩, 15), (⟨"WoodStack", "lesser", "(I)I"⟩, 15), (⟨"WoodStack", "greater", "(I)I"⟩, 15), (⟨"WoodStack", "nextToMeasure", "()I"⟩, 15), (⟨"WoodStack", "listHeats", "()I"⟩, 15), (⟨"WoodStack", "pullGreatest", "(I)I"⟩, 15), (⟨"WoodStack", "missingOf", "(I)I"⟩, 15), (⟨"WoodStack", "fallsBy", "(II)Z"⟩, 15), (⟨"WoodStackModel", "copy", "(II)V"⟩, 37), (⟨"WoodStackModel", "isColumn", "(I)Z"⟩, 37)]
theorem lw_r3 : ∀ q ∈ lw_privs_3, lw_okq q := List.forall_mem_cons.mpr ⟨lw_p32, List.forall_mem_cons.mpr ⟨lw_p33, List.forall_mem_cons.mpr ⟨lw_p34, List.forall_mem_cons.mpr ⟨lw_p35, List.forall_mem_cons.mpr ⟨lw_p36, List.forall_mem_cons.mpr ⟨lw_p37, List.forall_mem_cons.mpr ⟨lw_p38, List.forall_mem_cons.mpr ⟨lw_p39, List.forall_mem_cons.mpr ⟨lw_p40, List.forall_mem_cons.mpr ⟨lw_p41, List.forall_mem_cons.mpr ⟨lw_p42, List.forall_mem_cons.mpr ⟨lw_p43, List.forall_mem_cons.mpr ⟨lw_p44, List.forall_mem_cons.mpr ⟨lw_p45, List.forall_mem_cons.mpr ⟨lw_p46, List.forall_mem_cons.mpr ⟨lw_p47, fun _ h => absurd h List.not_mem_nil⟩⟩⟩⟩⟩⟩⟩⟩⟩⟩⟩⟩⟩⟩⟩⟩
theorem lw_p48 : lw_okq (⟨"WoodStackModel", "count", "(I)I"⟩, 37) := ⟨⟨by decide +kernel, by decide +kernel⟩, List.mem_of_getElem? (i := 919) (by decide +kernel), List.mem_of_getElem? (i := 1052) (by decide +kernel), List.mem_of_getElem? (i := 1053) (by decide +kernel)⟩
theorem lw_p49 : lw_okq (⟨"WoodStackModel", "put", "(IIII)V"⟩, 37) := ⟨⟨by decide +kernel, by decide +kernel⟩, List.mem_of_getElem? (i := 919) (by decide +kernel), List.mem_of_getElem? (i := 1056) (by decide +kernel), List.mem_of_getElem? (i := 1057) (by decide +kernel)⟩
theorem lw_p50 : lw_okq (⟨"WoodStackModel", "at0", "(II)I"⟩, 37) := ⟨⟨by decide +kernel, by decide +kernel⟩, List.mem_of_getElem? (i := 919) (by decide +kernel), List.mem_of_getElem? (i := 1060) (by decide +kernel), List.mem_of_getElem? (i := 1061) (by decide +kernel)⟩
theorem lw_p51 : lw_okq (⟨"WoodStackModel", "isSplit", "(II)Z"⟩, 37) := ⟨⟨by decide +kernel, by decide +kernel⟩, List.mem_of_getElem? (i := 919) (by decide +kernel), List.mem_of_getElem? (i := 1068) (by decide +kernel), List.mem_of_getElem? (i := 1069) (by decide +kernel)⟩
theorem lw_p52 : lw_okq (⟨"WoodStackModel", "isWeather", "(I)Z"⟩, 37) := ⟨⟨by decide +kernel, by decide +kernel⟩, List.mem_of_getElem? (i := 919) (by decide +kernel), List.mem_of_getElem? (i := 1091) (by decide +kernel), List.mem_of_getElem? (i := 1092) (by decide +kernel)⟩
theorem lw_p53 : lw_okq (⟨"WoodStackModel", "four", "(I)V"⟩, 37) := ⟨⟨by decide +kernel, by decide +kernel⟩, List.mem_of_getElem? (i := 919) (by decide +kernel), List.mem_of_getElem? (i := 1103) (by decide +kernel), List.mem_of_getElem? (i := 1104) (by decide +kernel)⟩
theorem lw_p54 : lw_okq (⟨"WoodStackModel", "readText", "()I"⟩, 37) := ⟨⟨by decide +kernel, by decide +kernel⟩, List.mem_of_getElem? (i := 919) (by decide +kernel), List.mem_of_getElem? (i := 1115) (by decide +kernel), List.mem_of_getElem? (i := 1116) (by decide +kernel)⟩
theorem lw_p55 : lw_okq (⟨"WoodStackModel", "nextToken", "()V"⟩, 37) := ⟨⟨by decide +kernel, by decide +kernel⟩, List.mem_of_getElem? (i := 919) (by decide +kernel), List.mem_of_getElem? (i := 1119) (by decide +kernel), List.mem_of_getElem? (i := 1120) (by decide +kernel)⟩
theorem lw_p56 : lw_okq (⟨"WoodStackModel", "byteAt", "(I)I"⟩, 37) := ⟨⟨by decide +kernel, by decide +kernel⟩, List.mem_of_getElem? (i := 919) (by decide +kernel), List.mem_of_getElem? (i := 1123) (by decide +kernel), List.mem_of_getElem? (i := 1124) (by decide +kernel)⟩
theorem lw_p57 : lw_okq (⟨"WoodStackModel", "clause", "()I"⟩, 37) := ⟨⟨by decide +kernel, by decide +kernel⟩, List.mem_of_getElem? (i := 919) (by decide +kernel), List.mem_of_getElem? (i := 1134) (by decide +kernel), List.mem_of_getElem? (i := 1135) (by decide +kernel)⟩
theorem lw_p58 : lw_okq (⟨"WoodStackModel", "sortOf", "()I"⟩, 37) := ⟨⟨by decide +kernel, by decide +kernel⟩, List.mem_of_getElem? (i := 919) (by decide +kernel), List.mem_of_getElem? (i := 1138) (by decide +kernel), List.mem_of_getElem? (i := 1139) (by decide +kernel)⟩
theorem lw_p59 : lw_okq (⟨"WoodStackModel", "isWord", "(J)Z"⟩, 37) := ⟨⟨by decide +kernel, by decide +kernel⟩, List.mem_of_getElem? (i := 919) (by decide +kernel), List.mem_of_getElem? (i := 1145) (by decide +kernel), List.mem_of_getElem? (i := 1146) (by decide +kernel)⟩
theorem lw_p60 : lw_okq (⟨"WoodStackModel", "laidBy", "(I)I"⟩, 37) := ⟨⟨by decide +kernel, by decide +kernel⟩, List.mem_of_getElem? (i := 919) (by decide +kernel), List.mem_of_getElem? (i := 1158) (by decide +kernel), List.mem_of_getElem? (i := 1159) (by decide +kernel)⟩
theorem lw_p61 : lw_okq (⟨"WoodStackModel", "figure", "(III)I"⟩, 37) := ⟨⟨by decide +kernel, by decide +kernel⟩, List.mem_of_getElem? (i := 919) (by decide +kernel), List.mem_of_getElem? (i := 1162) (by decide +kernel), List.mem_of_getElem? (i := 1163) (by decide +kernel)⟩
theorem lw_p62 : lw_okq (⟨"WoodStackModel", "expects", "(Z)I"⟩, 37) := ⟨⟨by decide +kernel, by decide +kernel⟩, List.mem_of_getElem? (i := 919) (by decide +kernel), List.mem_of_getElem? (i := 1166) (by decide +kernel), List.mem_of_getElem? (i := 1167) (by decide +kernel)⟩
theorem lw_p63 : lw_okq (⟨"WoodStackModel", "parsed", "(Z)I"⟩, 37) := ⟨⟨by decide +kernel, by decide +kernel⟩, List.mem_of_getElem? (i := 919) (by decide +kernel), List.mem_of_getElem? (i := 1171) (by decide +kernel), List.mem_of_getElem? (i := 1172) (by decide +kernel)⟩
def lw_privs_4 : List (MethodName × Nat) := [(⟨"WoodStackModel", "count", "(I)I"⟩, 37), (⟨"WoodStackModel", "put", "(IIII)V"⟩, 37), (⟨"WoodStackModel", "at0", "(II)I"⟩, 37), (⟨"WoodStackModel", "isSplit", "(II)Z"⟩, 37), (⟨"WoodStackModel", "isWeather", "(I)Z"⟩, 37), (⟨"WoodStackModel", "four", "(I)V"⟩, 37), (⟨"WoodStackModel", "readText", "()I"⟩, 37), (⟨"WoodStackModel", "nextToken", "()V"⟩, 37), (⟨"WoodStackModel", "byteAt", "(I)I"⟩, 37), (⟨"WoodStackModel", "clause", "()I"⟩, 37), (⟨"WoodStackModel", "sortOf", "()I"⟩, 37), (⟨"WoodStackModel", "isWord", "(J)Z"⟩, 37), (⟨"WoodStackModel", "laidBy", "(I)I"⟩, 37), (⟨"WoodStackModel", "figure", "(III)I"⟩, 37), (⟨"WoodStackModel", "expects", "(Z)I"⟩, 37), (⟨"WoodStackModel", "parsed", "(Z)I"⟩, 37)]
theorem lw_r4 : ∀ q ∈ lw_privs_4, lw_okq q := List.forall_mem_cons.mpr ⟨lw_p48, List.forall_mem_cons.mpr ⟨lw_p49, List.forall_mem_cons.mpr ⟨lw_p50, List.forall_mem_cons.mpr ⟨lw_p51, List.forall_mem_cons.mpr ⟨lw_p52, List.forall_mem_cons.mpr ⟨lw_p53, List.forall_mem_cons.mpr ⟨lw_p54, List.forall_mem_cons.mpr ⟨lw_p55, List.forall_mem_cons.mpr ⟨lw_p56, List.forall_mem_cons.mpr ⟨lw_p57, List.forall_mem_cons.mpr ⟨lw_p58, List.forall_mem_cons.mpr ⟨lw_p59, List.forall_mem_cons.mpr ⟨lw_p60, List.forall_mem_cons.mpr ⟨lw_p61, List.forall_mem_cons.mpr ⟨lw_p62, List.forall_mem_cons.mpr ⟨lw_p63, fun _ h => absurd h List.not_mem_nil⟩⟩⟩⟩⟩⟩⟩⟩⟩⟩⟩⟩⟩⟩⟩⟩
theorem lw_p64 : lw_okq (⟨"WoodStackModel", "behindOne", "(Z)Z"⟩, 37) := ⟨⟨by decide +kernel, by decide +kernel⟩, List.mem_of_getElem? (i := 919) (by decide +kernel), List.mem_of_getElem? (i := 1175) (by decide +kernel), List.mem_of_getElem? (i := 1176) (by decide +kernel)⟩
theorem lw_p65 : lw_okq (⟨"WoodStackModel", "betweenOf", "(Z)I"⟩, 37) := ⟨⟨by decide +kernel, by decide +kernel⟩, List.mem_of_getElem? (i := 919) (by decide +kernel), List.mem_of_getElem? (i := 1179) (by decide +kernel), List.mem_of_getElem? (i := 1180) (by decide +kernel)⟩
theorem lw_p66 : lw_okq (⟨"WoodStackModel", "marker", "()I"⟩, 37) := ⟨⟨by decide +kernel, by decide +kernel⟩, List.mem_of_getElem? (i := 919) (by decide +kernel), List.mem_of_getElem? (i := 1183) (by decide +kernel), List.mem_of_getElem? (i := 1184) (by decide +kernel)⟩
theorem lw_p67 : lw_okq (⟨"WoodStackModel", "isCompared", "()Z"⟩, 37) := ⟨⟨by decide +kernel, by decide +kernel⟩, List.mem_of_getElem? (i := 919) (by decide +kernel), List.mem_of_getElem? (i := 1187) (by decide +kernel), List.mem_of_getElem? (i := 1188) (by decide +kernel)⟩
theorem lw_p68 : lw_okq (⟨"WoodStackModel", "compareOf", "()I"⟩, 37) := ⟨⟨by decide +kernel, by decide +kernel⟩, List.mem_of_getElem? (i := 919) (by decide +kernel), List.mem_of_getElem? (i := 1194) (by decide +kernel), List.mem_of_getElem? (i := 1195) (by decide +kernel)⟩
theorem lw_p69 : lw_okq (⟨"WoodStackModel", "settle", "(I)V"⟩, 37) := ⟨⟨by decide +kernel, by decide +kernel⟩, List.mem_of_getElem? (i := 919) (by decide +kernel), List.mem_of_getElem? (i := 1199) (by decide +kernel), List.mem_of_getElem? (i := 1200) (by decide +kernel)⟩
theorem lw_p70 : lw_okq (⟨"WoodStackModel", "emit", "(II)V"⟩, 37) := ⟨⟨by decide +kernel, by decide +kernel⟩, List.mem_of_getElem? (i := 919) (by decide +kernel), List.mem_of_getElem? (i := 1203) (by decide +kernel), List.mem_of_getElem? (i := 1204) (by decide +kernel)⟩
theorem lw_p71 : lw_okq (⟨"WoodStackModel", "push", "(I)V"⟩, 37) := ⟨⟨by decide +kernel, by decide +kernel⟩, List.mem_of_getElem? (i := 919) (by decide +kernel), List.mem_of_getElem? (i := 1207) (by decide +kernel), List.mem_of_getElem? (i := 1208) (by decide +kernel)⟩
theorem lw_p72 : lw_okq (⟨"WoodStackModel", "whole", "()V"⟩, 37) := ⟨⟨by decide +kernel, by decide +kernel⟩, List.mem_of_getElem? (i := 919) (by decide +kernel), List.mem_of_getElem? (i := 1211) (by decide +kernel), List.mem_of_getElem? (i := 1212) (by decide +kernel)⟩
theorem lw_p73 : lw_okq (⟨"WoodStackModel", "beginOne", "(Z)I"⟩, 37) := ⟨⟨by decide +kernel, by decide +kernel⟩, List.mem_of_getElem? (i := 919) (by decide +kernel), List.mem_of_getElem? (i := 1215) (by decide +kernel), List.mem_of_getElem? (i := 1216) (by decide +kernel)⟩
theorem lw_p74 : lw_okq (⟨"WoodStackModel", "nameOf", "()I"⟩, 37) := ⟨⟨by decide +kernel, by decide +kernel⟩, List.mem_of_getElem? (i := 919) (by decide +kernel), List.mem_of_getElem? (i := 1219) (by decide +kernel), List.mem_of_getElem? (i := 1220) (by decide +kernel)⟩
theorem lw_p75 : lw_okq (⟨"WoodStackModel", "farName", "()I"⟩, 37) := ⟨⟨by decide +kernel, by decide +kernel⟩, List.mem_of_getElem? (i := 919) (by decide +kernel), List.mem_of_getElem? (i := 1223) (by decide +kernel), List.mem_of_getElem? (i := 1224) (by decide +kernel)⟩
theorem lw_p76 : lw_okq (⟨"WoodStackModel", "isOf", "(I)Z"⟩, 37) := ⟨⟨by decide +kernel, by decide +kernel⟩, List.mem_of_getElem? (i := 919) (by decide +kernel), List.mem_of_getElem? (i := 1230) (by decide +kernel), List.mem_of_getElem? (i := 1231) (by decide +kernel)⟩
theorem lw_p77 : lw_okq (⟨"WoodStackModel", "opensBy", "(I)I"⟩, 37) := ⟨⟨by decide +kernel, by decide +kernel⟩, List.mem_of_getElem? (i := 919) (by decide +kernel), List.mem_of_getElem? (i := 1234) (by decide +kernel), List.mem_of_getElem? (i := 1235) (by decide +kernel)⟩
theorem lw_p78 : lw_okq (⟨"WoodStackModel", "isAskAhead", "(Z)Z"⟩, 37) := ⟨⟨by decide +kernel, by decide +kernel⟩, List.mem_of_getElem? (i := 919) (by decide +kernel), List.mem_of_getElem? (i := 1238) (by decide +kernel), List.mem_of_getElem? (i := 1239) (by decide +kernel)⟩
theorem lw_p79 : lw_okq (⟨"WoodStackModel", "thickOf", "(II)I"⟩, 37) := ⟨⟨by decide +kernel, by decide +kernel⟩, List.mem_of_getElem? (i := 919) (by decide +kernel), List.mem_of_getElem? (i := 1259) (by decide +kernel), List.mem_of_getElem? (i := 1260) (by decide +kernel)⟩
def lw_privs_5 : List (MethodName × Nat) := [(⟨"WoodStackModel", "behindOne", "(Z)Z"⟩, 37), (⟨"WoodStackModel", "betweenOf", "(Z)I"⟩, 37), (⟨"WoodStackModel", "marker", "()I"⟩, 37), (⟨"WoodStackModel", "isCompared", "()Z"⟩, 37), (⟨"WoodStackModel", "compareOf", "()I"⟩, 37), (⟨"WoodStackModel", "settle", "(I)V"⟩, 37), (⟨"WoodStackModel", "emit", "(II)V"⟩, 37), (⟨"WoodStackModel", "push", "(I)V"⟩, 37), (⟨"WoodStackModel", "whole", "()V"⟩, 37), (⟨"WoodStackModel", "beginOne", "(Z)I"⟩, 37), (⟨"WoodStackModel", "nameOf", "()I"⟩, 37), (⟨"WoodStackModel", "farName", "()I"⟩, 37), (⟨"WoodStackModel", "isOf", "(I)Z"⟩, 37), (⟨"WoodStackModel", "opensBy", "(I)I"⟩, 37), (⟨"WoodStackModel", "isAskAhead", "(Z)Z"⟩, 37), (⟨"WoodStackModel", "thickOf", "(II)I"⟩, 37)]
theorem lw_r5 : ∀ q ∈ lw_privs_5, lw_okq q := List.forall_mem_cons.mpr ⟨lw_p64, List.forall_mem_cons.mpr ⟨lw_p65, List.forall_mem_cons.mpr ⟨lw_p66, List.forall_mem_cons.mpr ⟨lw_p67, List.forall_mem_cons.mpr ⟨lw_p68, List.forall_mem_cons.mpr ⟨lw_p69, List.forall_mem_cons.mpr ⟨lw_p70, List.forall_mem_cons.mpr ⟨lw_p71, List.forall_mem_cons.mpr ⟨lw_p72, List.forall_mem_cons.mpr ⟨lw_p73, List.forall_mem_cons.mpr ⟨lw_p74, List.forall_mem_cons.mpr ⟨lw_p75, List.forall_mem_cons.mpr ⟨lw_p76, List.forall_mem_cons.mpr ⟨lw_p77, List.forall_mem_cons.mpr ⟨lw_p78, List.forall_mem_cons.mpr ⟨lw_p79, fun _ h => absurd h List.not_mem_nil⟩⟩⟩⟩⟩⟩⟩⟩⟩⟩⟩⟩⟩⟩⟩⟩
theorem lw_p80 : lw_okq (⟨"WoodStackModel", "name", "(II)V"⟩, 37) := ⟨⟨by decide +kernel, by decide +kernel⟩, List.mem_of_getElem? (i := 919) (by decide +kernel), List.mem_of_getElem? (i := 1263) (by decide +kernel), List.mem_of_getElem? (i := 1264) (by decide +kernel)⟩
theorem lw_p81 : lw_okq (⟨"WoodStackModel", "besideOf", "(II)I"⟩, 37) := ⟨⟨by decide +kernel, by decide +kernel⟩, List.mem_of_getElem? (i := 919) (by decide +kernel), List.mem_of_getElem? (i := 1267) (by decide +kernel), List.mem_of_getElem? (i := 1268) (by decide +kernel)⟩
theorem lw_p82 : lw_okq (⟨"WoodStackModel", "sumOf", "(IIII)I"⟩, 37) := ⟨⟨by decide +kernel, by decide +kernel⟩, List.mem_of_getElem? (i := 919) (by decide +kernel), List.mem_of_getElem? (i := 1271) (by decide +kernel), List.mem_of_getElem? (i := 1272) (by decide +kernel)⟩
theorem lw_p83 : lw_okq (⟨"WoodStackModel", "clauseOf", "(I)I"⟩, 37) := ⟨⟨by decide +kernel, by decide +kernel⟩, List.mem_of_getElem? (i := 919) (by decide +kernel), List.mem_of_getElem? (i := 1275) (by decide +kernel), List.mem_of_getElem? (i := 1276) (by decide +kernel)⟩
theorem lw_p84 : lw_okq (⟨"WoodStackModel", "clauses", "()I"⟩, 37) := ⟨⟨by decide +kernel, by decide +kernel⟩, List.mem_of_getElem? (i := 919) (by decide +kernel), List.mem_of_getElem? (i := 1279) (by decide +kernel), List.mem_of_getElem? (i := 1280) (by decide +kernel)⟩
theorem lw_p85 : lw_okq (⟨"WoodStackModel", "work", "(I)V"⟩, 37) := ⟨⟨by decide +kernel, by decide +kernel⟩, List.mem_of_getElem? (i := 919) (by decide +kernel), List.mem_of_getElem? (i := 1283) (by decide +kernel), List.mem_of_getElem? (i := 1284) (by decide +kernel)⟩
theorem lw_p86 : lw_okq (⟨"WoodStackModel", "heatOf", "(II)I"⟩, 37) := ⟨⟨by decide +kernel, by decide +kernel⟩, List.mem_of_getElem? (i := 919) (by decide +kernel), List.mem_of_getElem? (i := 1301) (by decide +kernel), List.mem_of_getElem? (i := 1302) (by decide +kernel)⟩
theorem lw_p87 : lw_okq (⟨"WoodStackModel", "isDry", "(II)Z"⟩, 37) := ⟨⟨by decide +kernel, by decide +kernel⟩, List.mem_of_getElem? (i := 919) (by decide +kernel), List.mem_of_getElem? (i := 1305) (by decide +kernel), List.mem_of_getElem? (i := 1306) (by decide +kernel)⟩
theorem lw_p88 : lw_okq (⟨"WoodStackModel", "heightOf", "(I)I"⟩, 37) := ⟨⟨by decide +kernel, by decide +kernel⟩, List.mem_of_getElem? (i := 919) (by decide +kernel), List.mem_of_getElem? (i := 1313) (by decide +kernel), List.mem_of_getElem? (i := 1314) (by decide +kernel)⟩
theorem lw_p89 : lw_okq (⟨"WoodStackModel", "leanOf", "()I"⟩, 37) := ⟨⟨by decide +kernel, by decide +kernel⟩, List.mem_of_getElem? (i := 919) (by decide +kernel), List.mem_of_getElem? (i := 1317) (by decide +kernel), List.mem_of_getElem? (i := 1318) (by decide +kernel)⟩
theorem lw_p90 : lw_okq (⟨"WoodStackModel", "standOf", "()I"⟩, 37) := ⟨⟨by decide +kernel, by decide +kernel⟩, List.mem_of_getElem? (i := 919) (by decide +kernel), List.mem_of_getElem? (i := 1321) (by decide +kernel), List.mem_of_getElem? (i := 1322) (by decide +kernel)⟩
theorem lw_p91 : lw_okq (⟨"WoodStackModel", "splits", "()I"⟩, 37) := ⟨⟨by decide +kernel, by decide +kernel⟩, List.mem_of_getElem? (i := 919) (by decide +kernel), List.mem_of_getElem? (i := 1325) (by decide +kernel), List.mem_of_getElem? (i := 1326) (by decide +kernel)⟩
theorem lw_p92 : lw_okq (⟨"WoodStackModel", "dryMany", "()I"⟩, 37) := ⟨⟨by decide +kernel, by decide +kernel⟩, List.mem_of_getElem? (i := 919) (by decide +kernel), List.mem_of_getElem? (i := 1329) (by decide +kernel), List.mem_of_getElem? (i := 1330) (by decide +kernel)⟩
theorem lw_p93 : lw_okq (⟨"WoodStackModel", "airIn", "()I"⟩, 37) := ⟨⟨by decide +kernel, by decide +kernel⟩, List.mem_of_getElem? (i := 919) (by decide +kernel), List.mem_of_getElem? (i := 1333) (by decide +kernel), List.mem_of_getElem? (i := 1334) (by decide +kernel)⟩
theorem lw_p94 : lw_okq (⟨"WoodStackModel", "beetles", "()I"⟩, 37) := ⟨⟨by decide +kernel, by decide +kernel⟩, List.mem_of_getElem? (i := 919) (by decide +kernel), List.mem_of_getElem? (i := 1339) (by decide +kernel), List.mem_of_getElem? (i := 1340) (by decide +kernel)⟩
theorem lw_p95 : lw_okq (⟨"WoodStackModel", "isBeetle", "(II)Z"⟩, 37) := ⟨⟨by decide +kernel, by decide +kernel⟩, List.mem_of_getElem? (i := 919) (by decide +kernel), List.mem_of_getElem? (i := 1343) (by decide +kernel), List.mem_of_getElem? (i := 1344) (by decide +kernel)⟩
def lw_privs_6 : List (MethodName × Nat) := [(⟨"WoodStackModel", "name", "(II)V"⟩, 37), (⟨"WoodStackModel", "besideOf", "(II)I"⟩, 37), (⟨"WoodStackModel", "sumOf", "(IIII)I"⟩, 37), (⟨"WoodStackModel", "clauseOf", "(I)I"⟩, 37), (⟨"WoodStackModel", "clauses", "()I"⟩, 37), (⟨"WoodStackModel", "work", "(I)V"⟩, 37), (⟨"WoodStackModel", "heatOf", "(II)I"⟩, 37), (⟨"WoodStackModel", "isDry", "(II)Z"⟩, 37), (⟨"WoodStackModel", "heightOf", "(I)I"⟩, 37), (⟨"WoodStackModel", "leanOf", "()I"⟩, 37), (⟨"WoodStackModel", "standOf", "()I"⟩, 37), (⟨"WoodStackModel", "splits", "()I"⟩, 37), (⟨"WoodStackModel", "dryMany", "()I"⟩, 37), (⟨"WoodStackModel", "airIn", "()I"⟩, 37), (⟨"WoodStackModel", "beetles", "()I"⟩, 37), (⟨"WoodStackModel", "isBeetle", "(II)Z"⟩, 37)]
theorem lw_r6 : ∀ q ∈ lw_privs_6, lw_okq q := List.forall_mem_cons.mpr ⟨lw_p80, List.forall_mem_cons.mpr ⟨lw_p81, List.forall_mem_cons.mpr ⟨lw_p82, List.forall_mem_cons.mpr ⟨lw_p83, List.forall_mem_cons.mpr ⟨lw_p84, List.forall_mem_cons.mpr ⟨lw_p85, List.forall_mem_cons.mpr ⟨lw_p86, List.forall_mem_cons.mpr ⟨lw_p87, List.forall_mem_cons.mpr ⟨lw_p88, List.forall_mem_cons.mpr ⟨lw_p89, List.forall_mem_cons.mpr ⟨lw_p90, List.forall_mem_cons.mpr ⟨lw_p91, List.forall_mem_cons.mpr ⟨lw_p92, List.forall_mem_cons.mpr ⟨lw_p93, List.forall_mem_cons.mpr ⟨lw_p94, List.forall_mem_cons.mpr ⟨lw_p95, fun _ h => absurd h List.not_mem_nil⟩⟩⟩⟩⟩⟩⟩⟩⟩⟩⟩⟩⟩⟩⟩⟩
theorem lw_p96 : lw_okq (⟨"WoodStackModel", "goBy", "(I)V"⟩, 37) := ⟨⟨by decide +kernel, by decide +kernel⟩, List.mem_of_getElem? (i := 919) (by decide +kernel), List.mem_of_getElem? (i := 1352) (by decide +kernel), List.mem_of_getElem? (i := 1353) (by decide +kernel)⟩
theorem lw_p97 : lw_okq (⟨"WoodStackModel", "driedOf", "(III)I"⟩, 37) := ⟨⟨by decide +kernel, by decide +kernel⟩, List.mem_of_getElem? (i := 919) (by decide +kernel), List.mem_of_getElem? (i := 1356) (by decide +kernel), List.mem_of_getElem? (i := 1357) (by decide +kernel)⟩
theorem lw_p98 : lw_okq (⟨"WoodStackModel", "takeOne", "()I"⟩, 37) := ⟨⟨by decide +kernel, by decide +kernel⟩, List.mem_of_getElem? (i := 919) (by decide +kernel), List.mem_of_getElem? (i := 1364) (by decide +kernel), List.mem_of_getElem? (i := 1365) (by decide +kernel)⟩
theorem lw_p99 : lw_okq (⟨"WoodStackModel", "takeOff", "(II)V"⟩, 37) := ⟨⟨by decide +kernel, by decide +kernel⟩, List.mem_of_getElem? (i := 919) (by decide +kernel), List.mem_of_getElem? (i := 1368) (by decide +kernel), List.mem_of_getElem? (i := 1369) (by decide +kernel)⟩
theorem lw_p100 : lw_okq (⟨"WoodStackModel", "isTried", "(II)Z"⟩, 37) := ⟨⟨by decide +kernel, by decide +kernel⟩, List.mem_of_getElem? (i := 919) (by decide +kernel), List.mem_of_getElem? (i := 1376) (by decide +kernel), List.mem_of_getElem? (i := 1377) (by decide +kernel)⟩
theorem lw_p101 : lw_okq (⟨"WoodStackModel", "findOrder", "(I)V"⟩, 37) := ⟨⟨by decide +kernel, by decide +kernel⟩, List.mem_of_getElem? (i := 919) (by decide +kernel), List.mem_of_getElem? (i := 1380) (by decide +kernel), List.mem_of_getElem? (i := 1381) (by decide +kernel)⟩
theorem lw_p102 : lw_okq (⟨"WoodStackModel", "choosesNext", "(I)Z"⟩, 37) := ⟨⟨by decide +kernel, by decide +kernel⟩, List.mem_of_getElem? (i := 919) (by decide +kernel), List.mem_of_getElem? (i := 1384) (by decide +kernel), List.mem_of_getElem? (i := 1385) (by decide +kernel)⟩
theorem lw_p103 : lw_okq (⟨"WoodStackModel", "tries", "(I)V"⟩, 37) := ⟨⟨by decide +kernel, by decide +kernel⟩, List.mem_of_getElem? (i := 919) (by decide +kernel), List.mem_of_getElem? (i := 1388) (by decide +kernel), List.mem_of_getElem? (i := 1389) (by decide +kernel)⟩
theorem lw_p104 : lw_okq (⟨"WoodStackModel", "keepOrder", "(II)V"⟩, 37) := ⟨⟨by decide +kernel, by decide +kernel⟩, List.mem_of_getElem? (i := 919) (by decide +kernel), List.mem_of_getElem? (i := 1392) (by decide +kernel), List.mem_of_getElem? (i := 1393) (by decide +kernel)⟩
theorem lw_p105 : lw_okq (⟨"WoodStackModel", "tryWays", "(I)V"⟩, 37) := ⟨⟨by decide +kernel, by decide +kernel⟩, List.mem_of_getElem? (i := 919) (by decide +kernel), List.mem_of_getElem? (i := 1400) (by decide +kernel), List.mem_of_getElem? (i := 1401) (by decide +kernel)⟩
theorem lw_p106 : lw_okq (⟨"WoodStackModel", "goOn", "(I)I"⟩, 37) := ⟨⟨by decide +kernel, by decide +kernel⟩, List.mem_of_getElem? (i := 919) (by decide +kernel), List.mem_of_getElem? (i := 1404) (by decide +kernel), List.mem_of_getElem? (i := 1405) (by decide +kernel)⟩
theorem lw_p107 : lw_okq (⟨"WoodStackModel", "tryEnds", "(II[I)V"⟩, 37) := ⟨⟨by decide +kernel, by decide +kernel⟩, List.mem_of_getElem? (i := 919) (by decide +kernel), List.mem_of_getElem? (i := 1415) (by decide +kernel), List.mem_of_getElem? (i := 1416) (by decide +kernel)⟩
theorem lw_p108 : lw_okq (⟨"WoodStackModel", "lesser", "(I)I"⟩, 37) := ⟨⟨by decide +kernel, by decide +kernel⟩, List.mem_of_getElem? (i := 919) (by decide +kernel), List.mem_of_getElem? (i := 1419) (by decide +kernel), List.mem_of_getElem? (i := 1420) (by decide +kernel)⟩
theorem lw_p109 : lw_okq (⟨"WoodStackModel", "greater", "(I)I"⟩, 37) := ⟨⟨by decide +kernel, by decide +kernel⟩, List.mem_of_getElem? (i := 919) (by decide +kernel), List.mem_of_getElem? (i := 1423) (by decide +kernel), List.mem_of_getElem? (i := 1424) (by decide +kernel)⟩
theorem lw_p110 : lw_okq (⟨"WoodStackModel", "missingOf", "(I)I"⟩, 37) := ⟨⟨by decide +kernel, by decide +kernel⟩, List.mem_of_getElem? (i := 919) (by decide +kernel), List.mem_of_getElem? (i := 1448) (by decide +kernel), List.mem_of_getElem? (i := 1449) (by decide +kernel)⟩
def lw_privs_7 : List (MethodName × Nat) := [(⟨"WoodStackModel", "goBy", "(I)V"⟩, 37), (⟨"WoodStackModel", "driedOf", "(III)I"⟩, 37), (⟨"WoodStackModel", "takeOne", "()I"⟩, 37), (⟨"WoodStackModel", "takeOff", "(II)V"⟩, 37), (⟨"WoodStackModel", "isTried", "(II)Z"⟩, 37), (⟨"WoodStackModel", "findOrder", "(I)V"⟩, 37), (⟨"WoodStackModel", "choosesNext", "(I)Z"⟩, 37), (⟨"WoodStackModel", "tries", "(I)V"⟩, 37), (⟨"WoodStackModel", "keepOrder", "(II)V"⟩, 37), (⟨"WoodStackModel", "tryWays", "(I)V"⟩, 37), (⟨"WoodStackModel", "goOn", "(I)I"⟩, 37), (⟨"WoodStackModel", "tryEnds", "(II[I)V"⟩, 37), (⟨"WoodStackModel", "lesser", "(I)I"⟩, 37), (⟨"WoodStackModel", "greater", "(I)I"⟩, 37), (⟨"WoodStackModel", "missingOf", "(I)I"⟩, 37)]
theorem lw_r7 : ∀ q ∈ lw_privs_7, lw_okq q := List.forall_mem_cons.mpr ⟨lw_p96, List.forall_mem_cons.mpr ⟨lw_p97, List.forall_mem_cons.mpr ⟨lw_p98, List.forall_mem_cons.mpr ⟨lw_p99, List.forall_mem_cons.mpr ⟨lw_p100, List.forall_mem_cons.mpr ⟨lw_p101, List.forall_mem_cons.mpr ⟨lw_p102, List.forall_mem_cons.mpr ⟨lw_p103, List.forall_mem_cons.mpr ⟨lw_p104, List.forall_mem_cons.mpr ⟨lw_p105, List.forall_mem_cons.mpr ⟨lw_p106, List.forall_mem_cons.mpr ⟨lw_p107, List.forall_mem_cons.mpr ⟨lw_p108, List.forall_mem_cons.mpr ⟨lw_p109, List.forall_mem_cons.mpr ⟨lw_p110, fun _ h => absurd h List.not_mem_nil⟩⟩⟩⟩⟩⟩⟩⟩⟩⟩⟩⟩⟩⟩⟩
def lw_privs : List (MethodName × Nat) := lw_privs_1 ++ (lw_privs_2 ++ (lw_privs_3 ++ (lw_privs_4 ++ (lw_privs_5 ++ (lw_privs_6 ++ (lw_privs_7))))))
def lw_tbl : List Cond := k2_sels lw_privs ++ tables_1
theorem lw_privs_ok : ∀ q ∈ lw_privs, lw_okq q := by
  show ∀ q ∈ lw_privs_1 ++ (lw_privs_2 ++ (lw_privs_3 ++ (lw_privs_4 ++ (lw_privs_5 ++ (lw_privs_6 ++ (lw_privs_7)))))), lw_okq q
  exact List.forall_mem_append.mpr ⟨lw_r1, List.forall_mem_append.mpr ⟨lw_r2, List.forall_mem_append.mpr ⟨lw_r3, List.forall_mem_append.mpr ⟨lw_r4, List.forall_mem_append.mpr ⟨lw_r5, List.forall_mem_append.mpr ⟨lw_r6, lw_r7⟩⟩⟩⟩⟩⟩
def RX0 : String := "WoodStack$Laws"
def TX0 : u_T := fun k => match k with
  | 0 => ("WoodStack$Laws", "text", "LWoodStack$Text;", false)
  | 1 => ("WoodStack$Laws", "names", "[I", true)
  | _ => ("WoodStack$Laws", "held", "[I", true)
def tyX0 : Nat → FieldType := fun k => match k with
  | 0 => .object "WoodStack$Text"
  | 1 => .array .int
  | _ => .array .int
abbrev wsX00 : List Cond := u_ws RX0 TX0 3
theorem nmX0 : ∀ a, a < 3 → ∀ b, b < 3 → a ≠ b → (TX0 a).2.1 ≠ (TX0 b).2.1 := by decide +kernel
theorem tyX0_ok : ∀ k, k < 3 → parseFieldDescriptor (TX0 k).2.2.1 = some (tyX0 k) := by decide +kernel
abbrev cX0_init : ByteArray := prog_2_method_1_code
def yX0_init : MethodName := ⟨RX0, "<init>", "(LWoodStack$Text;)V"⟩
abbrev cX0_thickOf : ByteArray := prog_2_method_2_code
def yX0_thickOf : MethodName := ⟨RX0, "thickOf", "(LWoodStack$Pile;II)I"⟩
abbrev cX0_heatOf : ByteArray := prog_2_method_3_code
def yX0_heatOf : MethodName := ⟨RX0, "heatOf", "(LWoodStack$Pile;II)I"⟩
abbrev cX0_worthOf : ByteArray := prog_2_method_4_code
def yX0_worthOf : MethodName := ⟨RX0, "worthOf", "(LWoodStack$Pile;II)I"⟩
abbrev cX0_standOf : ByteArray := prog_2_method_5_code
def yX0_standOf : MethodName := ⟨RX0, "standOf", "(LWoodStack$Pile;)I"⟩
abbrev cX0_heightOf : ByteArray := prog_2_method_6_code
def yX0_heightOf : MethodName := ⟨RX0, "heightOf", "(LWoodStack$Pile;I)I"⟩
abbrev cX0_leanOf : ByteArray := prog_2_method_7_code
def yX0_leanOf : MethodName := ⟨RX0, "leanOf", "(LWoodStack$Pile;)I"⟩
abbrev cX0_airIn : ByteArray := prog_2_method_8_code
def yX0_airIn : MethodName := ⟨RX0, "airIn", "(LWoodStack$Pile;)I"⟩
abbrev cX0_beetlesIn : ByteArray := prog_2_method_9_code
def yX0_beetlesIn : MethodName := ⟨RX0, "beetlesIn", "(LWoodStack$Pile;)I"⟩
abbrev cX0_hasBeetle : ByteArray := prog_2_method_10_code
def yX0_hasBeetle : MethodName := ⟨RX0, "hasBeetle", "(LWoodStack$Pile;II)Z"⟩
abbrev cX0_pass : ByteArray := prog_2_method_11_code
def yX0_pass : MethodName := ⟨RX0, "pass", "(LWoodStack$Pile;LWoodStack$Yard;I)V"⟩
abbrev cX0_dryAll : ByteArray := prog_2_method_12_code
def yX0_dryAll : MethodName := ⟨RX0, "dryAll", "(LWoodStack$Pile;LWoodStack$Yard;I)V"⟩
abbrev cX0_driedBy : ByteArray := prog_2_method_13_code
def yX0_driedBy : MethodName := ⟨RX0, "driedBy", "(LWoodStack$Pile;II)I"⟩
abbrev cX0_look : ByteArray := prog_2_method_14_code
def yX0_look : MethodName := ⟨RX0, "look", "(LWoodStack$Pile;II)V"⟩
abbrev cX0_valueOf : ByteArray := prog_2_method_15_code
def yX0_valueOf : MethodName := ⟨RX0, "valueOf", "(I)I"⟩
abbrev cX0_nameValue : ByteArray := prog_2_method_16_code
def yX0_nameValue : MethodName := ⟨RX0, "nameValue", "(I)I"⟩
abbrev cX0_joined : ByteArray := prog_2_method_17_code
def yX0_joined : MethodName := ⟨RX0, "joined", "(IJJ)J"⟩
abbrev cX0_clamp : ByteArray := prog_2_method_18_code
def yX0_clamp : MethodName := ⟨RX0, "clamp", "(III)I"⟩
def RX1 : String := "WoodStack$Pile"
def TX1 : u_T := fun k => match k with
  | 0 => ("WoodStack$Pile", "wide", "I", true)
  | 1 => ("WoodStack$Pile", "kind", "[I", true)
  | 2 => ("WoodStack$Pile", "size", "[I", true)
  | 3 => ("WoodStack$Pile", "water", "[I", true)
  | 4 => ("WoodStack$Pile", "bark", "[I", true)
  | 5 => ("WoodStack$Pile", "low", "[I", true)
  | 6 => ("WoodStack$Pile", "high", "[I", true)
  | 7 => ("WoodStack$Pile", "count", "[I", true)
  | 8 => ("WoodStack$Pile", "week", "I", false)
  | 9 => ("WoodStack$Pile", "fallen", "I", false)
  | 10 => ("WoodStack$Pile", "posts", "I", false)
  | 11 => ("WoodStack$Pile", "crossed", "I", false)
  | _ => ("WoodStack$Pile", "side", "I", false)
def tyX1 : Nat → FieldType := fun k => match k with
  | 0 => .int
  | 1 => .array .int
  | 2 => .array .int
  | 3 => .array .int
  | 4 => .array .int
  | 5 => .array .int
  | 6 => .array .int
  | 7 => .array .int
  | 8 => .int
  | 9 => .int
  | 10 => .int
  | 11 => .int
  | _ => .int
abbrev wsX10 : List Cond := u_ws RX1 TX1 13
theorem nmX1 : ∀ a, a < 13 → ∀ b, b < 13 → a ≠ b → (TX1 a).2.1 ≠ (TX1 b).2.1 := by decide +kernel
theorem tyX1_ok : ∀ k, k < 13 → parseFieldDescriptor (TX1 k).2.2.1 = some (tyX1 k) := by decide +kernel
abbrev cX1_init : ByteArray := prog_3_method_1_code
def yX1_init : MethodName := ⟨RX1, "<init>", "(I)V"⟩
abbrev cX1_become : ByteArray := prog_3_method_2_code
def yX1_become : MethodName := ⟨RX1, "become", "(LWoodStack$Pile;)V"⟩
abbrev cX1_isFallen : ByteArray := prog_3_method_3_code
def yX1_isFallen : MethodName := ⟨RX1, "isFallen", "()Z"⟩
abbrev cX1_holds : ByteArray := prog_3_method_4_code
def yX1_holds : MethodName := ⟨RX1, "holds", "(II)Z"⟩
abbrev cX1_clear : ByteArray := prog_3_method_5_code
def yX1_clear : MethodName := ⟨RX1, "clear", "()V"⟩
abbrev cX1_add : ByteArray := prog_3_method_6_code
def yX1_add : MethodName := ⟨RX1, "add", "(IIII)I"⟩
abbrev cX1_remove : ByteArray := prog_3_method_7_code
def yX1_remove : MethodName := ⟨RX1, "remove", "(II)V"⟩
abbrev cX1_bringDown : ByteArray := prog_3_method_8_code
def yX1_bringDown : MethodName := ⟨RX1, "bringDown", "(I)V"⟩
abbrev cX1_turnBark : ByteArray := prog_3_method_9_code
def yX1_turnBark : MethodName := ⟨RX1, "turnBark", "(I)V"⟩
abbrev cX1_splits : ByteArray := prog_3_method_10_code
def yX1_splits : MethodName := ⟨RX1, "splits", "()I"⟩
abbrev cX1_drySplits : ByteArray := prog_3_method_11_code
def yX1_drySplits : MethodName := ⟨RX1, "drySplits", "()I"⟩
abbrev cX1_tallest : ByteArray := prog_3_method_12_code
def yX1_tallest : MethodName := ⟨RX1, "tallest", "()I"⟩
abbrev cX1_isTop : ByteArray := prog_3_method_13_code
def yX1_isTop : MethodName := ⟨RX1, "isTop", "(II)Z"⟩
abbrev cX1_besideOf : ByteArray := prog_3_method_14_code
def yX1_besideOf : MethodName := ⟨RX1, "besideOf", "(II)I"⟩
abbrev cX1_isSunny : ByteArray := prog_3_method_15_code
def yX1_isSunny : MethodName := ⟨RX1, "isSunny", "(I)Z"⟩
def RX2 : String := "WoodStack$Reader"
def TX2 : u_T := fun k => match k with
  | 0 => ("WoodStack$Reader", "tokens", "LWoodStack$Tokens;", true)
  | 1 => ("WoodStack$Reader", "text", "LWoodStack$Text;", false)
  | 2 => ("WoodStack$Reader", "at", "I", false)
  | 3 => ("WoodStack$Reader", "clauseWord", "I", false)
  | 4 => ("WoodStack$Reader", "fault", "I", false)
  | _ => ("WoodStack$Reader", "place", "I", false)
def tyX2 : Nat → FieldType := fun k => match k with
  | 0 => .object "WoodStack$Tokens"
  | 1 => .object "WoodStack$Text"
  | 2 => .int
  | 3 => .int
  | 4 => .int
  | _ => .int
abbrev wsX20 : List Cond := u_ws RX2 TX2 6
theorem nmX2 : ∀ a, a < 6 → ∀ b, b < 6 → a ≠ b → (TX2 a).2.1 ≠ (TX2 b).2.1 := by decide +kernel
theorem tyX2_ok : ∀ k, k < 6 → parseFieldDescriptor (TX2 k).2.2.1 = some (tyX2 k) := by decide +kernel
abbrev cX2_init : ByteArray := prog_4_method_1_code
def yX2_init : MethodName := ⟨RX2, "<init>", "()V"⟩
abbrev cX2_readAll : ByteArray := prog_4_method_2_code
def yX2_readAll : MethodName := ⟨RX2, "readAll", "([IILWoodStack$Text;)V"⟩
abbrev cX2_token : ByteArray := prog_4_method_3_code
def yX2_token : MethodName := ⟨RX2, "token", "()I"⟩
abbrev cX2_number : ByteArray := prog_4_method_4_code
def yX2_number : MethodName := ⟨RX2, "number", "()I"⟩
abbrev cX2_step : ByteArray := prog_4_method_5_code
def yX2_step : MethodName := ⟨RX2, "step", "()V"⟩
abbrev cX2_fail : ByteArray := prog_4_method_6_code
def yX2_fail : MethodName := ⟨RX2, "fail", "(I)V"⟩
abbrev cX2_expect : ByteArray := prog_4_method_7_code
def yX2_expect : MethodName := ⟨RX2, "expect", "(I)V"⟩
abbrev cX2_emit : ByteArray := prog_4_method_8_code
def yX2_emit : MethodName := ⟨RX2, "emit", "(I)V"⟩
abbrev cX2_readClause : ByteArray := prog_4_method_9_code
def yX2_readClause : MethodName := ⟨RX2, "readClause", "(I)V"⟩
abbrev cX2_readLay : ByteArray := prog_4_method_10_code
def yX2_readLay : MethodName := ⟨RX2, "readLay", "()V"⟩
abbrev cX2_readTold : ByteArray := prog_4_method_11_code
def yX2_readTold : MethodName := ⟨RX2, "readTold", "(II)V"⟩
abbrev cX2_readPart : ByteArray := prog_4_method_12_code
def yX2_readPart : MethodName := ⟨RX2, "readPart", "(II)V"⟩
abbrev cX2_levelOf : ByteArray := prog_4_method_13_code
def yX2_levelOf : MethodName := ⟨RX2, "levelOf", "(I)I"⟩
abbrev cX2_readAsk : ByteArray := prog_4_method_14_code
def yX2_readAsk : MethodName := ⟨RX2, "readAsk", "(I)V"⟩
abbrev cX2_opens : ByteArray := prog_4_method_15_code
def yX2_opens : MethodName := ⟨RX2, "opens", "(I)Z"⟩
abbrev cX2_readOne : ByteArray := prog_4_method_16_code
def yX2_readOne : MethodName := ⟨RX2, "readOne", "(I)V"⟩
abbrev cX2_readName : ByteArray := prog_4_method_17_code
def yX2_readName : MethodName := ⟨RX2, "readName", "(I)V"⟩
abbrev cX2_isNameOfClause : ByteArray := prog_4_method_18_code
def yX2_isNameOfClause : MethodName := ⟨RX2, "isNameOfClause", "(I)Z"⟩
abbrev cX2_readPair : ByteArray := prog_4_method_19_code
def yX2_readPair : MethodName := ⟨RX2, "readPair", "(II)V"⟩
def RX3 : String := "WoodStack$Search"
def TX3 : u_T := fun k => match k with
  | 0 => ("WoodStack$Search", "piles", "[LWoodStack$Pile;", true)
  | 1 => ("WoodStack$Search", "columns", "[I", true)
  | 2 => ("WoodStack$Search", "best", "[I", true)
  | 3 => ("WoodStack$Search", "bestHeat", "I", false)
  | _ => ("WoodStack$Search", "taken", "I", false)
def tyX3 : Nat → FieldType := fun k => match k with
  | 0 => .array (.object "WoodStack$Pile")
  | 1 => .array .int
  | 2 => .array .int
  | 3 => .int
  | _ => .int
abbrev wsX30 : List Cond := u_ws RX3 TX3 5
theorem nmX3 : ∀ a, a < 5 → ∀ b, b < 5 → a ≠ b → (TX3 a).2.1 ≠ (TX3 b).2.1 := by decide +kernel
theorem tyX3_ok : ∀ k, k < 5 → parseFieldDescriptor (TX3 k).2.2.1 = some (tyX3 k) := by decide +kernel
abbrev cX3_init : ByteArray := prog_5_method_1_code
def yX3_init : MethodName := ⟨RX3, "<init>", "(I)V"⟩
abbrev cX3_begin : ByteArray := prog_5_method_2_code
def yX3_begin : MethodName := ⟨RX3, "begin", "(LWoodStack$Pile;)V"⟩
abbrev cX3_tryFrom : ByteArray := prog_5_method_3_code
def yX3_tryFrom : MethodName := ⟨RX3, "tryFrom", "(IIILWoodStack$Yard;LWoodStack$Laws;)V"⟩
abbrev cX3_note : ByteArray := prog_5_method_4_code
def yX3_note : MethodName := ⟨RX3, "note", "(II)V"⟩
def RX4 : String := "WoodStack$Text"
def TX4 : u_T := fun k => match k with
  | 0 => ("WoodStack$Text", "code", "[I", true)
  | 1 => ("WoodStack$Text", "word", "[I", true)
  | 2 => ("WoodStack$Text", "from", "[I", true)
  | 3 => ("WoodStack$Text", "to", "[I", true)
  | 4 => ("WoodStack$Text", "once", "[I", true)
  | 5 => ("WoodStack$Text", "used", "I", false)
  | _ => ("WoodStack$Text", "clauses", "I", false)
def tyX4 : Nat → FieldType := fun k => match k with
  | 0 => .array .int
  | 1 => .array .int
  | 2 => .array .int
  | 3 => .array .int
  | 4 => .array .int
  | 5 => .int
  | _ => .int
abbrev wsX40 : List Cond := u_ws RX4 TX4 7
theorem nmX4 : ∀ a, a < 7 → ∀ b, b < 7 → a ≠ b → (TX4 a).2.1 ≠ (TX4 b).2.1 := by decide +kernel
theorem tyX4_ok : ∀ k, k < 7 → parseFieldDescriptor (TX4 k).2.2.1 = some (tyX4 k) := by decide +kernel
abbrev cX4_init : ByteArray := prog_6_method_1_code
def yX4_init : MethodName := ⟨RX4, "<init>", "()V"⟩
abbrev cX4_clear : ByteArray := prog_6_method_2_code
def yX4_clear : MethodName := ⟨RX4, "clear", "()V"⟩
abbrev cX4_begin : ByteArray := prog_6_method_3_code
def yX4_begin : MethodName := ⟨RX4, "begin", "(I)Z"⟩
abbrev cX4_emit : ByteArray := prog_6_method_4_code
def yX4_emit : MethodName := ⟨RX4, "emit", "(I)V"⟩
abbrev cX4_clauseOf : ByteArray := prog_6_method_5_code
def yX4_clauseOf : MethodName := ⟨RX4, "clauseOf", "(I)I"⟩
abbrev cX4_codeAt : ByteArray := prog_6_method_6_code
def yX4_codeAt : MethodName := ⟨RX4, "codeAt", "(II)I"⟩
abbrev cX4_standsOnce : ByteArray := prog_6_method_7_code
def yX4_standsOnce : MethodName := ⟨RX4, "standsOnce", "(I)Z"⟩
def RX5 : String := "WoodStack$Tokens"
def TX5 : u_T := fun k => match k with
  | 0 => ("WoodStack$Tokens", "token", "[I", true)
  | 1 => ("WoodStack$Tokens", "value", "[I", true)
  | 2 => ("WoodStack$Tokens", "place", "[I", true)
  | _ => ("WoodStack$Tokens", "count", "I", false)
def tyX5 : Nat → FieldType := fun k => match k with
  | 0 => .array .int
  | 1 => .array .int
  | 2 => .array .int
  | _ => .int
abbrev wsX50 : List Cond := u_ws RX5 TX5 4
theorem nmX5 : ∀ a, a < 4 → ∀ b, b < 4 → a ≠ b → (TX5 a).2.1 ≠ (TX5 b).2.1 := by decide +kernel
theorem tyX5_ok : ∀ k, k < 4 → parseFieldDescriptor (TX5 k).2.2.1 = some (tyX5 k) := by decide +kernel
abbrev cX5_init : ByteArray := prog_7_method_1_code
def yX5_init : MethodName := ⟨RX5, "<init>", "()V"⟩
abbrev cX5_cut : ByteArray := prog_7_method_2_code
def yX5_cut : MethodName := ⟨RX5, "cut", "([II)V"⟩
abbrev cX5_add : ByteArray := prog_7_method_3_code
def yX5_add : MethodName := ⟨RX5, "add", "(III)V"⟩
abbrev cX5_cutWord : ByteArray := prog_7_method_4_code
def yX5_cutWord : MethodName := ⟨RX5, "cutWord", "([III)I"⟩
abbrev cX5_wordOf : ByteArray := prog_7_method_5_code
def yX5_wordOf : MethodName := ⟨RX5, "wordOf", "([III)I"⟩
abbrev cX5_cutNumber : ByteArray := prog_7_method_6_code
def yX5_cutNumber : MethodName := ⟨RX5, "cutNumber", "([III)I"⟩
abbrev cX5_cutSign : ByteArray := prog_7_method_7_code
def yX5_cutSign : MethodName := ⟨RX5, "cutSign", "([III)I"⟩
abbrev cX5_signOf : ByteArray := prog_7_method_8_code
def yX5_signOf : MethodName := ⟨RX5, "signOf", "(I)I"⟩
abbrev cX5_isLetter : ByteArray := prog_7_method_9_code
def yX5_isLetter : MethodName := ⟨RX5, "isLetter", "(I)Z"⟩
abbrev cX5_isDigit : ByteArray := prog_7_method_10_code
def yX5_isDigit : MethodName := ⟨RX5, "isDigit", "(I)Z"⟩
def RX6 : String := "WoodStack$Yard"
def TX6 : u_T := fun k => match k with
  | 0 => ("WoodStack$Yard", "pile", "LWoodStack$Pile;", true)
  | 1 => ("WoodStack$Yard", "wind", "[I", true)
  | 2 => ("WoodStack$Yard", "sun", "[I", true)
  | 3 => ("WoodStack$Yard", "rain", "[I", true)
  | 4 => ("WoodStack$Yard", "air", "[I", true)
  | 5 => ("WoodStack$Yard", "weathers", "I", false)
  | 6 => ("WoodStack$Yard", "plan", "[I", true)
  | 7 => ("WoodStack$Yard", "spanLow", "[I", true)
  | 8 => ("WoodStack$Yard", "spanHigh", "[I", true)
  | 9 => ("WoodStack$Yard", "face", "[I", true)
  | 10 => ("WoodStack$Yard", "faced", "Z", false)
  | 11 => ("WoodStack$Yard", "texts", "I", false)
  | _ => ("WoodStack$Yard", "ruling", "I", false)
def tyX6 : Nat → FieldType := fun k => match k with
  | 0 => .object "WoodStack$Pile"
  | 1 => .array .int
  | 2 => .array .int
  | 3 => .array .int
  | 4 => .array .int
  | 5 => .int
  | 6 => .array .int
  | 7 => .array .int
  | 8 => .array .int
  | 9 => .array .int
  | 10 => .boolean
  | 11 => .int
  | _ => .int
abbrev wsX60 : List Cond := u_ws RX6 TX6 13
theorem nmX6 : ∀ a, a < 13 → ∀ b, b < 13 → a ≠ b → (TX6 a).2.1 ≠ (TX6 b).2.1 := by decide +kernel
theorem tyX6_ok : ∀ k, k < 13 → parseFieldDescriptor (TX6 k).2.2.1 = some (tyX6 k) := by decide +kernel
abbrev cX6_init : ByteArray := prog_8_method_1_code
def yX6_init : MethodName := ⟨RX6, "<init>", "(I)V"⟩
abbrev cX6_become : ByteArray := prog_8_method_2_code
def yX6_become : MethodName := ⟨RX6, "become", "(LWoodStack$Yard;)V"⟩
def RX7 : String := "WoodStack"
def TX7 : u_T := fun k => match k with
  | 0 => ("WoodStack", "yard", "LWoodStack$Yard;", true)
  | 1 => ("WoodStack", "kept", "LWoodStack$Yard;", true)
  | 2 => ("WoodStack", "texts", "[LWoodStack$Text;", true)
  | 3 => ("WoodStack", "noText", "LWoodStack$Text;", true)
  | 4 => ("WoodStack", "laws", "LWoodStack$Laws;", true)
  | 5 => ("WoodStack", "reader", "LWoodStack$Reader;", true)
  | 6 => ("WoodStack", "tape", "[I", true)
  | 7 => ("WoodStack", "fed", "I", false)
  | 8 => ("WoodStack", "read", "Z", false)
  | 9 => ("WoodStack", "tried", "LWoodStack$Pile;", true)
  | 10 => ("WoodStack", "triedHigh", "LWoodStack$Pile;", true)
  | 11 => ("WoodStack", "search", "LWoodStack$Search;", true)
  | 12 => ("WoodStack", "heats", "[I", true)
  | 13 => ("WoodStack", "wayDry", "[I", true)
  | _ => ("WoodStack", "wayStood", "[I", true)
def tyX7 : Nat → FieldType := fun k => match k with
  | 0 => .object "WoodStack$Yard"
  | 1 => .object "WoodStack$Yard"
  | 2 => .array (.object "WoodStack$Text")
  | 3 => .object "WoodStack$Text"
  | 4 => .object "WoodStack$Laws"
  | 5 => .object "WoodStack$Reader"
  | 6 => .array .int
  | 7 => .int
  | 8 => .boolean
  | 9 => .object "WoodStack$Pile"
  | 10 => .object "WoodStack$Pile"
  | 11 => .object "WoodStack$Search"
  | 12 => .array .int
  | 13 => .array .int
  | _ => .array .int
abbrev wsX70 : List Cond := u_ws RX7 TX7 15
theorem nmX7 : ∀ a, a < 15 → ∀ b, b < 15 → a ≠ b → (TX7 a).2.1 ≠ (TX7 b).2.1 := by decide +kernel
theorem tyX7_ok : ∀ k, k < 15 → parseFieldDescriptor (TX7 k).2.2.1 = some (tyX7 k) := by decide +kernel
abbrev cX7_init : ByteArray := prog_1_method_1_code
def yX7_init : MethodName := ⟨RX7, "<init>", "(I)V"⟩
abbrev cX7_lay : ByteArray := prog_1_method_2_code
def yX7_lay : MethodName := ⟨RX7, "lay", "(IIII)I"⟩
abbrev cX7_bark : ByteArray := prog_1_method_3_code
def yX7_bark : MethodName := ⟨RX7, "bark", "(IIZ)Z"⟩
abbrev cX7_measure : ByteArray := prog_1_method_4_code
def yX7_measure : MethodName := ⟨RX7, "measure", "(IIII)Z"⟩
abbrev cX7_span : ByteArray := prog_1_method_5_code
def yX7_span : MethodName := ⟨RX7, "span", "(III)Z"⟩
abbrev cX7_weather : ByteArray := prog_1_method_6_code
def yX7_weather : MethodName := ⟨RX7, "weather", "(IIII)I"⟩
abbrev cX7_plan : ByteArray := prog_1_method_7_code
def yX7_plan : MethodName := ⟨RX7, "plan", "(II)Z"⟩
abbrev cX7_ends : ByteArray := prog_1_method_8_code
def yX7_ends : MethodName := ⟨RX7, "ends", "(IZI)Z"⟩
abbrev cX7_feed : ByteArray := prog_1_method_9_code
def yX7_feed : MethodName := ⟨RX7, "feed", "(IIIII)I"⟩
abbrev cX7_feedFour : ByteArray := prog_1_method_10_code
def yX7_feedFour : MethodName := ⟨RX7, "feedFour", "(I)V"⟩
abbrev cX7_end : ByteArray := prog_1_method_11_code
def yX7_end : MethodName := ⟨RX7, "end", "(I)I"⟩
abbrev cX7_text : ByteArray := prog_1_method_12_code
def yX7_text : MethodName := ⟨RX7, "text", "()I"⟩
abbrev cX7_fault : ByteArray := prog_1_method_13_code
def yX7_fault : MethodName := ⟨RX7, "fault", "(I)I"⟩
abbrev cX7_by : ByteArray := prog_1_method_14_code
def yX7_by : MethodName := ⟨RX7, "by", "(I)Z"⟩
abbrev cX7_obey : ByteArray := prog_1_method_15_code
def yX7_obey : MethodName := ⟨RX7, "obey", "()V"⟩
abbrev cX7_laid : ByteArray := prog_1_method_16_code
def yX7_laid : MethodName := ⟨RX7, "laid", "(I)I"⟩
abbrev cX7_layClause : ByteArray := prog_1_method_17_code
def yX7_layClause : MethodName := ⟨RX7, "layClause", "(LWoodStack$Text;I)Z"⟩
abbrev cX7_of : ByteArray := prog_1_method_18_code
def yX7_of : MethodName := ⟨RX7, "of", "(III)I"⟩
abbrev cX7_stack : ByteArray := prog_1_method_19_code
def yX7_stack : MethodName := ⟨RX7, "stack", "(I)I"⟩
abbrev cX7_week : ByteArray := prog_1_method_20_code
def yX7_week : MethodName := ⟨RX7, "week", "(I)I"⟩
abbrev cX7_take : ByteArray := prog_1_method_21_code
def yX7_take : MethodName := ⟨RX7, "take", "(I)I"⟩
abbrev cX7_takeOne : ByteArray := prog_1_method_22_code
def yX7_takeOne : MethodName := ⟨RX7, "takeOne", "()I"⟩
abbrev cX7_order : ByteArray := prog_1_method_23_code
def yX7_order : MethodName := ⟨RX7, "order", "(II)I"⟩
abbrev cX7_way : ByteArray := prog_1_method_24_code
def yX7_way : MethodName := ⟨RX7, "way", "(III)I"⟩
abbrev cX7_tryWay : ByteArray := prog_1_method_25_code
def yX7_tryWay : MethodName := ⟨RX7, "tryWay", "(II)V"⟩
abbrev cX7_bestOf : ByteArray := prog_1_method_26_code
def yX7_bestOf : MethodName := ⟨RX7, "bestOf", "([I)I"⟩
abbrev cX7_bestInBoth : ByteArray := prog_1_method_27_code
def yX7_bestInBoth : MethodName := ⟨RX7, "bestInBoth", "(II)I"⟩
abbrev cX7_spans : ByteArray := prog_1_method_28_code
def yX7_spans : MethodName := ⟨RX7, "spans", "(IIII)I"⟩
abbrev cX7_sure : ByteArray := prog_1_method_29_code
def yX7_sure : MethodName := ⟨RX7, "sure", "(II)I"⟩
abbrev cX7_trySpans : ByteArray := prog_1_method_30_code
def yX7_trySpans : MethodName := ⟨RX7, "trySpans", "(I)V"⟩
abbrev cX7_lesser : ByteArray := prog_1_method_31_code
def yX7_lesser : MethodName := ⟨RX7, "lesser", "(I)I"⟩
abbrev cX7_greater : ByteArray := prog_1_method_32_code
def yX7_greater : MethodName := ⟨RX7, "greater", "(I)I"⟩
abbrev cX7_nextToMeasure : ByteArray := prog_1_method_33_code
def yX7_nextToMeasure : MethodName := ⟨RX7, "nextToMeasure", "()I"⟩
abbrev cX7_small : ByteArray := prog_1_method_34_code
def yX7_small : MethodName := ⟨RX7, "small", "(III)I"⟩
abbrev cX7_winter : ByteArray := prog_1_method_35_code
def yX7_winter : MethodName := ⟨RX7, "winter", "(I)I"⟩
abbrev cX7_listHeats : ByteArray := prog_1_method_36_code
def yX7_listHeats : MethodName := ⟨RX7, "listHeats", "()I"⟩
abbrev cX7_pullGreatest : ByteArray := prog_1_method_37_code
def yX7_pullGreatest : MethodName := ⟨RX7, "pullGreatest", "(I)I"⟩
abbrev cX7_remember : ByteArray := prog_1_method_38_code
def yX7_remember : MethodName := ⟨RX7, "remember", "()I"⟩
abbrev cX7_missing : ByteArray := prog_1_method_39_code
def yX7_missing : MethodName := ⟨RX7, "missing", "(II)I"⟩
abbrev cX7_missingOf : ByteArray := prog_1_method_40_code
def yX7_missingOf : MethodName := ⟨RX7, "missingOf", "(I)I"⟩
abbrev cX7_falls : ByteArray := prog_1_method_41_code
def yX7_falls : MethodName := ⟨RX7, "falls", "(III)I"⟩
abbrev cX7_fallsBy : ByteArray := prog_1_method_42_code
def yX7_fallsBy : MethodName := ⟨RX7, "fallsBy", "(II)Z"⟩
abbrev cX7_image : ByteArray := prog_1_method_43_code
def yX7_image : MethodName := ⟨RX7, "image", "()I"⟩
abbrev cX7_back : ByteArray := prog_1_method_44_code
def yX7_back : MethodName := ⟨RX7, "back", "()I"⟩
abbrev cX7_about : ByteArray := prog_1_method_45_code
def yX7_about : MethodName := ⟨RX7, "about", "(I)I"⟩
abbrev cX7_canTry : ByteArray := prog_1_method_46_code
def yX7_canTry : MethodName := ⟨RX7, "canTry", "(I)Z"⟩
abbrev cX7_canPass : ByteArray := prog_1_method_47_code
def yX7_canPass : MethodName := ⟨RX7, "canPass", "(I)Z"⟩
abbrev cX7_isWeather : ByteArray := prog_1_method_48_code
def yX7_isWeather : MethodName := ⟨RX7, "isWeather", "(I)Z"⟩
abbrev cX7_isText : ByteArray := prog_1_method_49_code
def yX7_isText : MethodName := ⟨RX7, "isText", "(I)Z"⟩
abbrev cX7_isKind : ByteArray := prog_1_method_50_code
def yX7_isKind : MethodName := ⟨RX7, "isKind", "(I)Z"⟩
abbrev cX7_isWater : ByteArray := prog_1_method_51_code
def yX7_isWater : MethodName := ⟨RX7, "isWater", "(I)Z"⟩
abbrev cX7_isSpan : ByteArray := prog_1_method_52_code
def yX7_isSpan : MethodName := ⟨RX7, "isSpan", "(II)Z"⟩
abbrev cX7_isDry : ByteArray := prog_1_method_53_code
def yX7_isDry : MethodName := ⟨RX7, "isDry", "(I)Z"⟩
abbrev cX7_within : ByteArray := prog_1_method_54_code
def yX7_within : MethodName := ⟨RX7, "within", "(III)Z"⟩
abbrev cX7_placeOf : ByteArray := prog_1_method_55_code
def yX7_placeOf : MethodName := ⟨RX7, "placeOf", "(II)I"⟩
def RX8 : String := "WoodStackModel"
def TX8 : u_T := fun k => match k with
  | 0 => ("WoodStackModel", "a", "[I", true)
  | 1 => ("WoodStackModel", "w", "I", true)
  | 2 => ("WoodStackModel", "b", "I", false)
  | 3 => ("WoodStackModel", "texts", "[I", true)
  | 4 => ("WoodStackModel", "tape", "[I", true)
  | 5 => ("WoodStackModel", "taped", "I", false)
  | 6 => ("WoodStackModel", "fault", "I", false)
  | 7 => ("WoodStackModel", "faultPlace", "I", false)
  | 8 => ("WoodStackModel", "at", "I", false)
  | 9 => ("WoodStackModel", "place", "I", false)
  | 10 => ("WoodStackModel", "token", "I", false)
  | 11 => ("WoodStackModel", "number", "I", false)
  | 12 => ("WoodStackModel", "word", "J", false)
  | 13 => ("WoodStackModel", "text0", "I", false)
  | 14 => ("WoodStackModel", "clauses", "I", false)
  | 15 => ("WoodStackModel", "written", "I", false)
  | 16 => ("WoodStackModel", "came", "I", false)
  | 17 => ("WoodStackModel", "pile", "[I", true)
  | 18 => ("WoodStackModel", "piled", "I", false)
  | 19 => ("WoodStackModel", "opens", "I", false)
  | 20 => ("WoodStackModel", "isWhole", "Z", false)
  | 21 => ("WoodStackModel", "sort0", "I", false)
  | 22 => ("WoodStackModel", "once", "I", false)
  | 23 => ("WoodStackModel", "named", "[I", true)
  | 24 => ("WoodStackModel", "values", "[J", true)
  | 25 => ("WoodStackModel", "truth", "[Z", true)
  | 26 => ("WoodStackModel", "waters", "[I", true)
  | 27 => ("WoodStackModel", "isLone", "Z", false)
  | 28 => ("WoodStackModel", "chosen", "[I", true)
  | 29 => ("WoodStackModel", "heats", "[I", true)
  | 30 => ("WoodStackModel", "best", "[I", true)
  | 31 => ("WoodStackModel", "bestHeat", "I", false)
  | 32 => ("WoodStackModel", "dries", "[I", true)
  | 33 => ("WoodStackModel", "stands", "[I", true)
  | 34 => ("WoodStackModel", "lows", "[I", true)
  | 35 => ("WoodStackModel", "highs", "[I", true)
  | _ => ("WoodStackModel", "used", "[Z", true)
def tyX8 : Nat → FieldType := fun k => match k with
  | 0 => .array .int
  | 1 => .int
  | 2 => .int
  | 3 => .array .int
  | 4 => .array .int
  | 5 => .int
  | 6 => .int
  | 7 => .int
  | 8 => .int
  | 9 => .int
  | 10 => .int
  | 11 => .int
  | 12 => .long
  | 13 => .int
  | 14 => .int
  | 15 => .int
  | 16 => .int
  | 17 => .array .int
  | 18 => .int
  | 19 => .int
  | 20 => .boolean
  | 21 => .int
  | 22 => .int
  | 23 => .array .int
  | 24 => .array .long
  | 25 => .array .boolean
  | 26 => .array .int
  | 27 => .boolean
  | 28 => .array .int
  | 29 => .array .int
  | 30 => .array .int
  | 31 => .int
  | 32 => .array .int
  | 33 => .array .int
  | 34 => .array .int
  | 35 => .array .int
  | _ => .array .boolean
abbrev wsX80 : List Cond := u_ws RX8 TX8 37
theorem nmX8 : ∀ a, a < 37 → ∀ b, b < 37 → a ≠ b → (TX8 a).2.1 ≠ (TX8 b).2.1 := by decide +kernel
theorem tyX8_ok : ∀ k, k < 37 → parseFieldDescriptor (TX8 k).2.2.1 = some (tyX8 k) := by decide +kernel
abbrev cX8_init : ByteArray := prog_10_method_1_code
def yX8_init : MethodName := ⟨RX8, "<init>", "(I)V"⟩
abbrev cX8_copy : ByteArray := prog_10_method_2_code
def yX8_copy : MethodName := ⟨RX8, "copy", "(II)V"⟩
abbrev cX8_isIn : ByteArray := prog_10_method_3_code
def yX8_isIn : MethodName := ⟨RX8, "isIn", "(III)Z"⟩
abbrev cX8_held : ByteArray := prog_10_method_4_code
def yX8_held : MethodName := ⟨RX8, "held", "(JII)I"⟩
abbrev cX8_count : ByteArray := prog_10_method_5_code
def yX8_count : MethodName := ⟨RX8, "count", "(I)I"⟩
abbrev cX8_at0 : ByteArray := prog_10_method_6_code
def yX8_at0 : MethodName := ⟨RX8, "at0", "(II)I"⟩
abbrev cX8_isColumn : ByteArray := prog_10_method_7_code
def yX8_isColumn : MethodName := ⟨RX8, "isColumn", "(I)Z"⟩
abbrev cX8_isSplit : ByteArray := prog_10_method_8_code
def yX8_isSplit : MethodName := ⟨RX8, "isSplit", "(II)Z"⟩
abbrev cX8_splits : ByteArray := prog_10_method_9_code
def yX8_splits : MethodName := ⟨RX8, "splits", "()I"⟩
abbrev cX8_lay : ByteArray := prog_10_method_10_code
def yX8_lay : MethodName := ⟨RX8, "lay", "(IIII)I"⟩
abbrev cX8_put : ByteArray := prog_10_method_11_code
def yX8_put : MethodName := ⟨RX8, "put", "(IIII)V"⟩
abbrev cX8_bark : ByteArray := prog_10_method_12_code
def yX8_bark : MethodName := ⟨RX8, "bark", "(IIZ)Z"⟩
abbrev cX8_isSpan : ByteArray := prog_10_method_13_code
def yX8_isSpan : MethodName := ⟨RX8, "isSpan", "(II)Z"⟩
abbrev cX8_measure : ByteArray := prog_10_method_14_code
def yX8_measure : MethodName := ⟨RX8, "measure", "(IIII)Z"⟩
abbrev cX8_span : ByteArray := prog_10_method_15_code
def yX8_span : MethodName := ⟨RX8, "span", "(III)Z"⟩
abbrev cX8_weather : ByteArray := prog_10_method_16_code
def yX8_weather : MethodName := ⟨RX8, "weather", "(IIII)I"⟩
abbrev cX8_isWeather : ByteArray := prog_10_method_17_code
def yX8_isWeather : MethodName := ⟨RX8, "isWeather", "(I)Z"⟩
abbrev cX8_plan : ByteArray := prog_10_method_18_code
def yX8_plan : MethodName := ⟨RX8, "plan", "(II)Z"⟩
abbrev cX8_ends : ByteArray := prog_10_method_19_code
def yX8_ends : MethodName := ⟨RX8, "ends", "(IZI)Z"⟩
abbrev cX8_four : ByteArray := prog_10_method_20_code
def yX8_four : MethodName := ⟨RX8, "four", "(I)V"⟩
abbrev cX8_feed : ByteArray := prog_10_method_21_code
def yX8_feed : MethodName := ⟨RX8, "feed", "(IIIII)I"⟩
abbrev cX8_end : ByteArray := prog_10_method_22_code
def yX8_end : MethodName := ⟨RX8, "end", "(I)I"⟩
abbrev cX8_byteAt : ByteArray := prog_10_method_23_code
def yX8_byteAt : MethodName := ⟨RX8, "byteAt", "(I)I"⟩
abbrev cX8_isLetter : ByteArray := prog_10_method_24_code
def yX8_isLetter : MethodName := ⟨RX8, "isLetter", "(I)Z"⟩
abbrev cX8_isDigit : ByteArray := prog_10_method_25_code
def yX8_isDigit : MethodName := ⟨RX8, "isDigit", "(I)Z"⟩
abbrev cX8_nextToken : ByteArray := prog_10_method_26_code
def yX8_nextToken : MethodName := ⟨RX8, "nextToken", "()V"⟩
abbrev cX8_w3 : ByteArray := prog_10_method_27_code
def yX8_w3 : MethodName := ⟨RX8, "w3", "(III)J"⟩
abbrev cX8_w5 : ByteArray := prog_10_method_28_code
def yX8_w5 : MethodName := ⟨RX8, "w5", "(IIIII)J"⟩
abbrev cX8_w4 : ByteArray := prog_10_method_29_code
def yX8_w4 : MethodName := ⟨RX8, "w4", "(IIII)J"⟩
abbrev cX8_w6 : ByteArray := prog_10_method_30_code
def yX8_w6 : MethodName := ⟨RX8, "w6", "(IIIIII)J"⟩
abbrev cX8_isWord : ByteArray := prog_10_method_31_code
def yX8_isWord : MethodName := ⟨RX8, "isWord", "(J)Z"⟩
abbrev cX8_emit : ByteArray := prog_10_method_32_code
def yX8_emit : MethodName := ⟨RX8, "emit", "(II)V"⟩
abbrev cX8_push : ByteArray := prog_10_method_33_code
def yX8_push : MethodName := ⟨RX8, "push", "(I)V"⟩
abbrev cX8_rank : ByteArray := prog_10_method_34_code
def yX8_rank : MethodName := ⟨RX8, "rank", "(I)I"⟩
abbrev cX8_settle : ByteArray := prog_10_method_35_code
def yX8_settle : MethodName := ⟨RX8, "settle", "(I)V"⟩
abbrev cX8_whole : ByteArray := prog_10_method_36_code
def yX8_whole : MethodName := ⟨RX8, "whole", "()V"⟩
abbrev cX8_marker : ByteArray := prog_10_method_37_code
def yX8_marker : MethodName := ⟨RX8, "marker", "()I"⟩
abbrev cX8_isCompared : ByteArray := prog_10_method_38_code
def yX8_isCompared : MethodName := ⟨RX8, "isCompared", "()Z"⟩
abbrev cX8_isAskAhead : ByteArray := prog_10_method_39_code
def yX8_isAskAhead : MethodName := ⟨RX8, "isAskAhead", "(Z)Z"⟩
abbrev cX8_opensBy : ByteArray := prog_10_method_40_code
def yX8_opensBy : MethodName := ⟨RX8, "opensBy", "(I)I"⟩
abbrev cX8_beginOne : ByteArray := prog_10_method_41_code
def yX8_beginOne : MethodName := ⟨RX8, "beginOne", "(Z)I"⟩
abbrev cX8_compareOf : ByteArray := prog_10_method_42_code
def yX8_compareOf : MethodName := ⟨RX8, "compareOf", "()I"⟩
abbrev cX8_betweenOf : ByteArray := prog_10_method_43_code
def yX8_betweenOf : MethodName := ⟨RX8, "betweenOf", "(Z)I"⟩
abbrev cX8_behindOne : ByteArray := prog_10_method_44_code
def yX8_behindOne : MethodName := ⟨RX8, "behindOne", "(Z)Z"⟩
abbrev cX8_parsed : ByteArray := prog_10_method_45_code
def yX8_parsed : MethodName := ⟨RX8, "parsed", "(Z)I"⟩
abbrev cX8_w7 : ByteArray := prog_10_method_46_code
def yX8_w7 : MethodName := ⟨RX8, "w7", "(IIIIIII)J"⟩
abbrev cX8_nameOf : ByteArray := prog_10_method_47_code
def yX8_nameOf : MethodName := ⟨RX8, "nameOf", "()I"⟩
abbrev cX8_farName : ByteArray := prog_10_method_48_code
def yX8_farName : MethodName := ⟨RX8, "farName", "()I"⟩
abbrev cX8_isOf : ByteArray := prog_10_method_49_code
def yX8_isOf : MethodName := ⟨RX8, "isOf", "(I)Z"⟩
abbrev cX8_sortOf : ByteArray := prog_10_method_50_code
def yX8_sortOf : MethodName := ⟨RX8, "sortOf", "()I"⟩
abbrev cX8_figure : ByteArray := prog_10_method_51_code
def yX8_figure : MethodName := ⟨RX8, "figure", "(III)I"⟩
abbrev cX8_expects : ByteArray := prog_10_method_52_code
def yX8_expects : MethodName := ⟨RX8, "expects", "(Z)I"⟩
abbrev cX8_laidBy : ByteArray := prog_10_method_53_code
def yX8_laidBy : MethodName := ⟨RX8, "laidBy", "(I)I"⟩
abbrev cX8_clause : ByteArray := prog_10_method_54_code
def yX8_clause : MethodName := ⟨RX8, "clause", "()I"⟩
abbrev cX8_readText : ByteArray := prog_10_method_55_code
def yX8_readText : MethodName := ⟨RX8, "readText", "()I"⟩
abbrev cX8_text : ByteArray := prog_10_method_56_code
def yX8_text : MethodName := ⟨RX8, "text", "()I"⟩
abbrev cX8_fault : ByteArray := prog_10_method_57_code
def yX8_fault : MethodName := ⟨RX8, "fault", "(I)I"⟩
abbrev cX8_by : ByteArray := prog_10_method_58_code
def yX8_by : MethodName := ⟨RX8, "by", "(I)Z"⟩
abbrev cX8_laid : ByteArray := prog_10_method_59_code
def yX8_laid : MethodName := ⟨RX8, "laid", "(I)I"⟩
abbrev cX8_clip : ByteArray := prog_10_method_60_code
def yX8_clip : MethodName := ⟨RX8, "clip", "(J)J"⟩
abbrev cX8_two : ByteArray := prog_10_method_61_code
def yX8_two : MethodName := ⟨RX8, "two", "(IJJ)J"⟩
abbrev cX8_isAsked : ByteArray := prog_10_method_62_code
def yX8_isAsked : MethodName := ⟨RX8, "isAsked", "(IJJ)Z"⟩
abbrev cX8_work : ByteArray := prog_10_method_63_code
def yX8_work : MethodName := ⟨RX8, "work", "(I)V"⟩
abbrev cX8_clauses : ByteArray := prog_10_method_64_code
def yX8_clauses : MethodName := ⟨RX8, "clauses", "()I"⟩
abbrev cX8_clauseOf : ByteArray := prog_10_method_65_code
def yX8_clauseOf : MethodName := ⟨RX8, "clauseOf", "(I)I"⟩
abbrev cX8_sumOf : ByteArray := prog_10_method_66_code
def yX8_sumOf : MethodName := ⟨RX8, "sumOf", "(IIII)I"⟩
abbrev cX8_besideOf : ByteArray := prog_10_method_67_code
def yX8_besideOf : MethodName := ⟨RX8, "besideOf", "(II)I"⟩
abbrev cX8_name : ByteArray := prog_10_method_68_code
def yX8_name : MethodName := ⟨RX8, "name", "(II)V"⟩
abbrev cX8_thickOf : ByteArray := prog_10_method_69_code
def yX8_thickOf : MethodName := ⟨RX8, "thickOf", "(II)I"⟩
abbrev cX8_heatOf : ByteArray := prog_10_method_70_code
def yX8_heatOf : MethodName := ⟨RX8, "heatOf", "(II)I"⟩
abbrev cX8_isDry : ByteArray := prog_10_method_71_code
def yX8_isDry : MethodName := ⟨RX8, "isDry", "(II)Z"⟩
abbrev cX8_heightOf : ByteArray := prog_10_method_72_code
def yX8_heightOf : MethodName := ⟨RX8, "heightOf", "(I)I"⟩
abbrev cX8_leanOf : ByteArray := prog_10_method_73_code
def yX8_leanOf : MethodName := ⟨RX8, "leanOf", "()I"⟩
abbrev cX8_standOf : ByteArray := prog_10_method_74_code
def yX8_standOf : MethodName := ⟨RX8, "standOf", "()I"⟩
abbrev cX8_dryMany : ByteArray := prog_10_method_75_code
def yX8_dryMany : MethodName := ⟨RX8, "dryMany", "()I"⟩
abbrev cX8_isBeetle : ByteArray := prog_10_method_76_code
def yX8_isBeetle : MethodName := ⟨RX8, "isBeetle", "(II)Z"⟩
abbrev cX8_of : ByteArray := prog_10_method_77_code
def yX8_of : MethodName := ⟨RX8, "of", "(III)I"⟩
abbrev cX8_airIn : ByteArray := prog_10_method_78_code
def yX8_airIn : MethodName := ⟨RX8, "airIn", "()I"⟩
abbrev cX8_beetles : ByteArray := prog_10_method_79_code
def yX8_beetles : MethodName := ⟨RX8, "beetles", "()I"⟩
abbrev cX8_stack : ByteArray := prog_10_method_80_code
def yX8_stack : MethodName := ⟨RX8, "stack", "(I)I"⟩
abbrev cX8_driedOf : ByteArray := prog_10_method_81_code
def yX8_driedOf : MethodName := ⟨RX8, "driedOf", "(III)I"⟩
abbrev cX8_goBy : ByteArray := prog_10_method_82_code
def yX8_goBy : MethodName := ⟨RX8, "goBy", "(I)V"⟩
abbrev cX8_week : ByteArray := prog_10_method_83_code
def yX8_week : MethodName := ⟨RX8, "week", "(I)I"⟩
abbrev cX8_takeOff : ByteArray := prog_10_method_84_code
def yX8_takeOff : MethodName := ⟨RX8, "takeOff", "(II)V"⟩
abbrev cX8_takeOne : ByteArray := prog_10_method_85_code
def yX8_takeOne : MethodName := ⟨RX8, "takeOne", "()I"⟩
abbrev cX8_take : ByteArray := prog_10_method_86_code
def yX8_take : MethodName := ⟨RX8, "take", "(I)I"⟩
abbrev cX8_tries : ByteArray := prog_10_method_87_code
def yX8_tries : MethodName := ⟨RX8, "tries", "(I)V"⟩
abbrev cX8_isTried : ByteArray := prog_10_method_88_code
def yX8_isTried : MethodName := ⟨RX8, "isTried", "(II)Z"⟩
abbrev cX8_keepOrder : ByteArray := prog_10_method_89_code
def yX8_keepOrder : MethodName := ⟨RX8, "keepOrder", "(II)V"⟩
abbrev cX8_choosesNext : ByteArray := prog_10_method_90_code
def yX8_choosesNext : MethodName := ⟨RX8, "choosesNext", "(I)Z"⟩
abbrev cX8_findOrder : ByteArray := prog_10_method_91_code
def yX8_findOrder : MethodName := ⟨RX8, "findOrder", "(I)V"⟩
abbrev cX8_order : ByteArray := prog_10_method_92_code
def yX8_order : MethodName := ⟨RX8, "order", "(II)I"⟩
abbrev cX8_goOn : ByteArray := prog_10_method_93_code
def yX8_goOn : MethodName := ⟨RX8, "goOn", "(I)I"⟩
abbrev cX8_tryWays : ByteArray := prog_10_method_94_code
def yX8_tryWays : MethodName := ⟨RX8, "tryWays", "(I)V"⟩
abbrev cX8_bestOf : ByteArray := prog_10_method_95_code
def yX8_bestOf : MethodName := ⟨RX8, "bestOf", "([I)I"⟩
abbrev cX8_way : ByteArray := prog_10_method_96_code
def yX8_way : MethodName := ⟨RX8, "way", "(III)I"⟩
abbrev cX8_tryEnds : ByteArray := prog_10_method_97_code
def yX8_tryEnds : MethodName := ⟨RX8, "tryEnds", "(II[I)V"⟩
abbrev cX8_lesser : ByteArray := prog_10_method_98_code
def yX8_lesser : MethodName := ⟨RX8, "lesser", "(I)I"⟩
abbrev cX8_greater : ByteArray := prog_10_method_99_code
def yX8_greater : MethodName := ⟨RX8, "greater", "(I)I"⟩
abbrev cX8_spans : ByteArray := prog_10_method_100_code
def yX8_spans : MethodName := ⟨RX8, "spans", "(IIII)I"⟩
abbrev cX8_sure : ByteArray := prog_10_method_101_code
def yX8_sure : MethodName := ⟨RX8, "sure", "(II)I"⟩
abbrev cX8_small : ByteArray := prog_10_method_102_code
def yX8_small : MethodName := ⟨RX8, "small", "(III)I"⟩
abbrev cX8_winter : ByteArray := prog_10_method_103_code
def yX8_winter : MethodName := ⟨RX8, "winter", "(I)I"⟩
abbrev cX8_remember : ByteArray := prog_10_method_104_code
def yX8_remember : MethodName := ⟨RX8, "remember", "()I"⟩
abbrev cX8_missingOf : ByteArray := prog_10_method_105_code
def yX8_missingOf : MethodName := ⟨RX8, "missingOf", "(I)I"⟩
abbrev cX8_missing : ByteArray := prog_10_method_106_code
def yX8_missing : MethodName := ⟨RX8, "missing", "(II)I"⟩
abbrev cX8_falls : ByteArray := prog_10_method_107_code
def yX8_falls : MethodName := ⟨RX8, "falls", "(III)I"⟩
abbrev cX8_image : ByteArray := prog_10_method_108_code
def yX8_image : MethodName := ⟨RX8, "image", "()I"⟩
abbrev cX8_back : ByteArray := prog_10_method_109_code
def yX8_back : MethodName := ⟨RX8, "back", "()I"⟩
abbrev cX8_about : ByteArray := prog_10_method_110_code
def yX8_about : MethodName := ⟨RX8, "about", "(I)I"⟩
def RL : String := "WoodStackLaw"
abbrev cL_cell : ByteArray := method_2_code
def yL_cell : MethodName := ⟨RL, "cell", "([II)I"⟩
abbrev cL_law : ByteArray := code
def yL_law : MethodName := ⟨RL, "law", "([I)Z"⟩
