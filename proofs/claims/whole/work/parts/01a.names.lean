-- ===== PART A: goes FIRST, ahead of the names: the tables' words, and 'selects' of the private methods out of them =====
/-- a private method of a class that the tables say can be made, by its rows of tables_1 -/
def lw_okq (q : MethodName × Nat) : Prop := (q.1.cls ≠ "java/lang/invoke/MethodHandle" ∧ q.1.cls ≠ "java/lang/invoke/VarHandle") ∧ Cond.instantiable q.1.cls q.2 ∈ tables_1 ∧ Cond.privateMethod q.1 ∈ tables_1 ∧ Cond.instanceMethod q.1 ∈ tables_1
theorem lw_p0 : lw_okq (⟨"DoorFleet", "refuse", "(I)I"⟩, 17) := ⟨⟨by decide +kernel, by decide +kernel⟩, List.mem_of_getElem? (i := 19) (by decide +kernel), List.mem_of_getElem? (i := 330) (by decide +kernel), List.mem_of_getElem? (i := 331) (by decide +kernel)⟩
theorem lw_p1 : lw_okq (⟨"DoorFleet", "granted", "(I)I"⟩, 17) := ⟨⟨by decide +kernel, by decide +kernel⟩, List.mem_of_getElem? (i := 19) (by decide +kernel), List.mem_of_getElem? (i := 334) (by decide +kernel), List.mem_of_getElem? (i := 335) (by decide +kernel)⟩
theorem lw_p2 : lw_okq (⟨"DoorFleet$Isle", "isHouse", "(I)Z"⟩, 19) := ⟨⟨by decide +kernel, by decide +kernel⟩, List.mem_of_getElem? (i := 27) (by decide +kernel), List.mem_of_getElem? (i := 345) (by decide +kernel), List.mem_of_getElem? (i := 346) (by decide +kernel)⟩
theorem lw_p3 : lw_okq (⟨"DoorFleet$Isle", "doorIn", "(I)I"⟩, 19) := ⟨⟨by decide +kernel, by decide +kernel⟩, List.mem_of_getElem? (i := 27) (by decide +kernel), List.mem_of_getElem? (i := 349) (by decide +kernel), List.mem_of_getElem? (i := 350) (by decide +kernel)⟩
theorem lw_p4 : lw_okq (⟨"DoorFleet$Isle", "isDoor", "(I)Z"⟩, 19) := ⟨⟨by decide +kernel, by decide +kernel⟩, List.mem_of_getElem? (i := 27) (by decide +kernel), List.mem_of_getElem? (i := 357) (by decide +kernel), List.mem_of_getElem? (i := 358) (by decide +kernel)⟩
theorem lw_p5 : lw_okq (⟨"DoorFleet$Isle", "isLost", "(I)Z"⟩, 19) := ⟨⟨by decide +kernel, by decide +kernel⟩, List.mem_of_getElem? (i := 27) (by decide +kernel), List.mem_of_getElem? (i := 361) (by decide +kernel), List.mem_of_getElem? (i := 362) (by decide +kernel)⟩
theorem lw_p6 : lw_okq (⟨"DoorFleet$Judge", "isBarred", "(LDoorFleet$Isle;I)Z"⟩, 2) := ⟨⟨by decide +kernel, by decide +kernel⟩, List.mem_of_getElem? (i := 221) (by decide +kernel), List.mem_of_getElem? (i := 365) (by decide +kernel), List.mem_of_getElem? (i := 366) (by decide +kernel)⟩
theorem lw_p7 : lw_okq (⟨"DoorFleet$Judge", "learnOf", "(LDoorFleet$Isle;IIII)V"⟩, 2) := ⟨⟨by decide +kernel, by decide +kernel⟩, List.mem_of_getElem? (i := 221) (by decide +kernel), List.mem_of_getElem? (i := 369) (by decide +kernel), List.mem_of_getElem? (i := 370) (by decide +kernel)⟩
theorem lw_p8 : lw_okq (⟨"DoorFleet$Isle", "lawInForce", "()LDoorFleet$Text;"⟩, 19) := ⟨⟨by decide +kernel, by decide +kernel⟩, List.mem_of_getElem? (i := 27) (by decide +kernel), List.mem_of_getElem? (i := 374) (by decide +kernel), List.mem_of_getElem? (i := 375) (by decide +kernel)⟩
theorem lw_p9 : lw_okq (⟨"DoorFleet$Judge", "lastTold", "(LDoorFleet$Text;II)I"⟩, 2) := ⟨⟨by decide +kernel, by decide +kernel⟩, List.mem_of_getElem? (i := 221) (by decide +kernel), List.mem_of_getElem? (i := 378) (by decide +kernel), List.mem_of_getElem? (i := 379) (by decide +kernel)⟩
theorem lw_p10 : lw_okq (⟨"DoorFleet$Text", "told", "(II)I"⟩, 4) := ⟨⟨by decide +kernel, by decide +kernel⟩, List.mem_of_getElem? (i := 163) (by decide +kernel), List.mem_of_getElem? (i := 382) (by decide +kernel), List.mem_of_getElem? (i := 383) (by decide +kernel)⟩
theorem lw_p11 : lw_okq (⟨"DoorFleet$Judge", "value", "(LDoorFleet$Text;I)I"⟩, 2) := ⟨⟨by decide +kernel, by decide +kernel⟩, List.mem_of_getElem? (i := 221) (by decide +kernel), List.mem_of_getElem? (i := 386) (by decide +kernel), List.mem_of_getElem? (i := 387) (by decide +kernel)⟩
theorem lw_p12 : lw_okq (⟨"DoorFleet$Judge", "isFitting", "(LDoorFleet$Isle;II)Z"⟩, 2) := ⟨⟨by decide +kernel, by decide +kernel⟩, List.mem_of_getElem? (i := 221) (by decide +kernel), List.mem_of_getElem? (i := 401) (by decide +kernel), List.mem_of_getElem? (i := 402) (by decide +kernel)⟩
theorem lw_p13 : lw_okq (⟨"DoorFleet$Text", "has", "(I)Z"⟩, 4) := ⟨⟨by decide +kernel, by decide +kernel⟩, List.mem_of_getElem? (i := 163) (by decide +kernel), List.mem_of_getElem? (i := 405) (by decide +kernel), List.mem_of_getElem? (i := 406) (by decide +kernel)⟩
theorem lw_p14 : lw_okq (⟨"DoorFleet$Judge", "catchOf", "(LDoorFleet$Isle;III)I"⟩, 2) := ⟨⟨by decide +kernel, by decide +kernel⟩, List.mem_of_getElem? (i := 221) (by decide +kernel), List.mem_of_getElem? (i := 428) (by decide +kernel), List.mem_of_getElem? (i := 429) (by decide +kernel)⟩
theorem lw_p15 : lw_okq (⟨"DoorFleet$Judge", "slamOf", "(LDoorFleet$Isle;II)I"⟩, 2) := ⟨⟨by decide +kernel, by decide +kernel⟩, List.mem_of_getElem? (i := 221) (by decide +kernel), List.mem_of_getElem? (i := 438) (by decide +kernel), List.mem_of_getElem? (i := 439) (by decide +kernel)⟩
def lw_privs_1 : List (MethodName × Nat) := [(⟨"DoorFleet", "refuse", "(I)I"⟩, 17), (⟨"DoorFleet", "granted", "(I)I"⟩, 17), (⟨"DoorFleet$Isle", "isHouse", "(I)Z"⟩, 19), (⟨"DoorFleet$Isle", "doorIn", "(I)I"⟩, 19), (⟨"DoorFleet$Isle", "isDoor", "(I)Z"⟩, 19), (⟨"DoorFleet$Isle", "isLost", "(I)Z"⟩, 19), (⟨"DoorFleet$Judge", "isBarred", "(LDoorFleet$Isle;I)Z"⟩, 2), (⟨"DoorFleet$Judge", "learnOf", "(LDoorFleet$Isle;IIII)V"⟩, 2), (⟨"DoorFleet$Isle", "lawInForce", "()LDoorFleet$Text;"⟩, 19), (⟨"DoorFleet$Judge", "lastTold", "(LDoorFleet$Text;II)I"⟩, 2), (⟨"DoorFleet$Text", "told", "(II)I"⟩, 4), (⟨"DoorFleet$Judge", "value", "(LDoorFleet$Text;I)I"⟩, 2), (⟨"DoorFleet$Judge", "isFitting", "(LDoorFleet$Isle;II)Z"⟩, 2), (⟨"DoorFleet$Text", "has", "(I)Z"⟩, 4), (⟨"DoorFleet$Judge", "catchOf", "(LDoorFleet$Isle;III)I"⟩, 2), (⟨"DoorFleet$Judge", "slamOf", "(LDoorFleet$Isle;II)I"⟩, 2)]
theorem lw_r1 : ∀ q ∈ lw_privs_1, lw_okq q := List.forall_mem_cons.mpr ⟨lw_p0, List.forall_mem_cons.mpr ⟨lw_p1, List.forall_mem_cons.mpr ⟨lw_p2, List.forall_mem_cons.mpr ⟨lw_p3, List.forall_mem_cons.mpr ⟨lw_p4, List.forall_mem_cons.mpr ⟨lw_p5, List.forall_mem_cons.mpr ⟨lw_p6, List.forall_mem_cons.mpr ⟨lw_p7, List.forall_mem_cons.mpr ⟨lw_p8, List.forall_mem_cons.mpr ⟨lw_p9, List.forall_mem_cons.mpr ⟨lw_p10, List.forall_mem_cons.mpr ⟨lw_p11, List.forall_mem_cons.mpr ⟨lw_p12, List.forall_mem_cons.mpr ⟨lw_p13, List.forall_mem_cons.mpr ⟨lw_p14, List.forall_mem_cons.mpr ⟨lw_p15, fun _ h => absurd h List.not_mem_nil⟩⟩⟩⟩⟩⟩⟩⟩⟩⟩⟩⟩⟩⟩⟩⟩
theorem lw_p16 : lw_okq (⟨"DoorFleet$Tape", "append", "(I)V"⟩, 2) := ⟨⟨by decide +kernel, by decide +kernel⟩, List.mem_of_getElem? (i := 139) (by decide +kernel), List.mem_of_getElem? (i := 458) (by decide +kernel), List.mem_of_getElem? (i := 459) (by decide +kernel)⟩
theorem lw_p17 : lw_okq (⟨"DoorFleet$Reader", "reads", "(LDoorFleet$Tape;Z)Z"⟩, 10) := ⟨⟨by decide +kernel, by decide +kernel⟩, List.mem_of_getElem? (i := 157) (by decide +kernel), List.mem_of_getElem? (i := 478) (by decide +kernel), List.mem_of_getElem? (i := 479) (by decide +kernel)⟩
theorem lw_p18 : lw_okq (⟨"DoorFleet$Reader", "split", "(LDoorFleet$Tape;)V"⟩, 10) := ⟨⟨by decide +kernel, by decide +kernel⟩, List.mem_of_getElem? (i := 157) (by decide +kernel), List.mem_of_getElem? (i := 482) (by decide +kernel), List.mem_of_getElem? (i := 483) (by decide +kernel)⟩
theorem lw_p19 : lw_okq (⟨"DoorFleet$Reader", "note", "(III)V"⟩, 10) := ⟨⟨by decide +kernel, by decide +kernel⟩, List.mem_of_getElem? (i := 157) (by decide +kernel), List.mem_of_getElem? (i := 547) (by decide +kernel), List.mem_of_getElem? (i := 548) (by decide +kernel)⟩
theorem lw_p20 : lw_okq (⟨"DoorFleet$Reader", "clause", "()Z"⟩, 10) := ⟨⟨by decide +kernel, by decide +kernel⟩, List.mem_of_getElem? (i := 157) (by decide +kernel), List.mem_of_getElem? (i := 556) (by decide +kernel), List.mem_of_getElem? (i := 557) (by decide +kernel)⟩
theorem lw_p21 : lw_okq (⟨"DoorFleet$Reader", "advance", "()V"⟩, 10) := ⟨⟨by decide +kernel, by decide +kernel⟩, List.mem_of_getElem? (i := 157) (by decide +kernel), List.mem_of_getElem? (i := 566) (by decide +kernel), List.mem_of_getElem? (i := 567) (by decide +kernel)⟩
theorem lw_p22 : lw_okq (⟨"DoorFleet$Text", "begin", "(I)V"⟩, 4) := ⟨⟨by decide +kernel, by decide +kernel⟩, List.mem_of_getElem? (i := 163) (by decide +kernel), List.mem_of_getElem? (i := 570) (by decide +kernel), List.mem_of_getElem? (i := 571) (by decide +kernel)⟩
theorem lw_p23 : lw_okq (⟨"DoorFleet$Text", "tell", "(II)V"⟩, 4) := ⟨⟨by decide +kernel, by decide +kernel⟩, List.mem_of_getElem? (i := 163) (by decide +kernel), List.mem_of_getElem? (i := 574) (by decide +kernel), List.mem_of_getElem? (i := 575) (by decide +kernel)⟩
theorem lw_p24 : lw_okq (⟨"DoorFleet$Reader", "sumOf", "(I)Z"⟩, 10) := ⟨⟨by decide +kernel, by decide +kernel⟩, List.mem_of_getElem? (i := 157) (by decide +kernel), List.mem_of_getElem? (i := 578) (by decide +kernel), List.mem_of_getElem? (i := 579) (by decide +kernel)⟩
theorem lw_p25 : lw_okq (⟨"DoorFleet$Reader", "sum", "(I)Z"⟩, 10) := ⟨⟨by decide +kernel, by decide +kernel⟩, List.mem_of_getElem? (i := 157) (by decide +kernel), List.mem_of_getElem? (i := 583) (by decide +kernel), List.mem_of_getElem? (i := 584) (by decide +kernel)⟩
theorem lw_p26 : lw_okq (⟨"DoorFleet$Reader", "part", "(I)Z"⟩, 10) := ⟨⟨by decide +kernel, by decide +kernel⟩, List.mem_of_getElem? (i := 157) (by decide +kernel), List.mem_of_getElem? (i := 587) (by decide +kernel), List.mem_of_getElem? (i := 588) (by decide +kernel)⟩
theorem lw_p27 : lw_okq (⟨"DoorFleet$Reader", "numberFrom", "(II)I"⟩, 10) := ⟨⟨by decide +kernel, by decide +kernel⟩, List.mem_of_getElem? (i := 157) (by decide +kernel), List.mem_of_getElem? (i := 591) (by decide +kernel), List.mem_of_getElem? (i := 592) (by decide +kernel)⟩
theorem lw_p28 : lw_okq (⟨"DoorFleet$Text", "add", "(II)V"⟩, 4) := ⟨⟨by decide +kernel, by decide +kernel⟩, List.mem_of_getElem? (i := 163) (by decide +kernel), List.mem_of_getElem? (i := 601) (by decide +kernel), List.mem_of_getElem? (i := 602) (by decide +kernel)⟩
theorem lw_p29 : lw_okq (⟨"DoorFleet$Reader", "test", "(I)Z"⟩, 10) := ⟨⟨by decide +kernel, by decide +kernel⟩, List.mem_of_getElem? (i := 157) (by decide +kernel), List.mem_of_getElem? (i := 605) (by decide +kernel), List.mem_of_getElem? (i := 606) (by decide +kernel)⟩
theorem lw_p30 : lw_okq (⟨"DoorFleet$Reader", "plain", "(I)Z"⟩, 10) := ⟨⟨by decide +kernel, by decide +kernel⟩, List.mem_of_getElem? (i := 157) (by decide +kernel), List.mem_of_getElem? (i := 609) (by decide +kernel), List.mem_of_getElem? (i := 610) (by decide +kernel)⟩
theorem lw_p31 : lw_okq (⟨"DoorFleet$Text", "land", "(I)V"⟩, 4) := ⟨⟨by decide +kernel, by decide +kernel⟩, List.mem_of_getElem? (i := 163) (by decide +kernel), List.mem_of_getElem? (i := 613) (by decide +kernel), List.mem_of_getElem? (i := 614) (by decide +kernel)⟩
def lw_privs_2 : List (MethodName × Nat) := [(⟨"DoorFleet$Tape", "append", "(I)V"⟩, 2), (⟨"DoorFleet$Reader", "reads", "(LDoorFleet$Tape;Z)Z"⟩, 10), (⟨"DoorFleet$Reader", "split", "(LDoorFleet$Tape;)V"⟩, 10), (⟨"DoorFleet$Reader", "note", "(III)V"⟩, 10), (⟨"DoorFleet$Reader", "clause", "()Z"⟩, 10), (⟨"DoorFleet$Reader", "advance", "()V"⟩, 10), (⟨"DoorFleet$Text", "begin", "(I)V"⟩, 4), (⟨"DoorFleet$Text", "tell", "(II)V"⟩, 4), (⟨"DoorFleet$Reader", "sumOf", "(I)Z"⟩, 10), (⟨"DoorFleet$Reader", "sum", "(I)Z"⟩, 10), (⟨"DoorFleet$Reader", "part", "(I)Z"⟩, 10), (⟨"DoorFleet$Reader", "numberFrom", "(II)I"⟩, 10), (⟨"DoorFleet$Text", "add", "(II)V"⟩, 4), (⟨"DoorFleet$Reader", "test", "(I)Z"⟩, 10), (⟨"DoorFleet$Reader", "plain", "(I)Z"⟩, 10), (⟨"DoorFleet$Text", "land", "(I)V"⟩, 4)]
theorem lw_r2 : ∀ q ∈ lw_privs_2, lw_okq q := List.forall_mem_cons.mpr ⟨lw_p16, List.forall_mem_cons.mpr ⟨lw_p17, List.forall_mem_cons.mpr ⟨lw_p18, List.forall_mem_cons.mpr ⟨lw_p19, List.forall_mem_cons.mpr ⟨lw_p20, List.forall_mem_cons.mpr ⟨lw_p21, List.forall_mem_cons.mpr ⟨lw_p22, List.forall_mem_cons.mpr ⟨lw_p23, List.forall_mem_cons.mpr ⟨lw_p24, List.forall_mem_cons.mpr ⟨lw_p25, List.forall_mem_cons.mpr ⟨lw_p26, List.forall_mem_cons.mpr ⟨lw_p27, List.forall_mem_cons.mpr ⟨lw_p28, List.forall_mem_cons.mpr ⟨lw_p29, List.forall_mem_cons.mpr ⟨lw_p30, List.forall_mem_cons.mpr ⟨lw_p31, fun _ h => absurd h List.not_mem_nil⟩⟩⟩⟩⟩⟩⟩⟩⟩⟩⟩⟩⟩⟩⟩⟩
theorem lw_p32 : lw_okq (⟨"DoorFleet$Text", "copied", "()LDoorFleet$Text;"⟩, 4) := ⟨⟨by decide +kernel, by decide +kernel⟩, List.mem_of_getElem? (i := 163) (by decide +kernel), List.mem_of_getElem? (i := 617) (by decide +kernel), List.mem_of_getElem? (i := 618) (by decide +kernel)⟩
theorem lw_p33 : lw_okq (⟨"DoorFleet", "isObeyed", "(LDoorFleet$Text;I)Z"⟩, 17) := ⟨⟨by decide +kernel, by decide +kernel⟩, List.mem_of_getElem? (i := 19) (by decide +kernel), List.mem_of_getElem? (i := 643) (by decide +kernel), List.mem_of_getElem? (i := 644) (by decide +kernel)⟩
theorem lw_p34 : lw_okq (⟨"DoorFleet$Judge", "learn", "(LDoorFleet$Isle;II)V"⟩, 2) := ⟨⟨by decide +kernel, by decide +kernel⟩, List.mem_of_getElem? (i := 221) (by decide +kernel), List.mem_of_getElem? (i := 647) (by decide +kernel), List.mem_of_getElem? (i := 648) (by decide +kernel)⟩
theorem lw_p35 : lw_okq (⟨"DoorFleet$Isle", "open", "()I"⟩, 19) := ⟨⟨by decide +kernel, by decide +kernel⟩, List.mem_of_getElem? (i := 27) (by decide +kernel), List.mem_of_getElem? (i := 651) (by decide +kernel), List.mem_of_getElem? (i := 652) (by decide +kernel)⟩
theorem lw_p36 : lw_okq (⟨"DoorFleet", "refusal", "(III)I"⟩, 17) := ⟨⟨by decide +kernel, by decide +kernel⟩, List.mem_of_getElem? (i := 19) (by decide +kernel), List.mem_of_getElem? (i := 659) (by decide +kernel), List.mem_of_getElem? (i := 660) (by decide +kernel)⟩
theorem lw_p37 : lw_okq (⟨"DoorFleet", "act", "(III)I"⟩, 17) := ⟨⟨by decide +kernel, by decide +kernel⟩, List.mem_of_getElem? (i := 19) (by decide +kernel), List.mem_of_getElem? (i := 666) (by decide +kernel), List.mem_of_getElem? (i := 667) (by decide +kernel)⟩
theorem lw_p38 : lw_okq (⟨"DoorFleet$Trail", "keep", "(ILDoorFleet$Isle;)V"⟩, 2) := ⟨⟨by decide +kernel, by decide +kernel⟩, List.mem_of_getElem? (i := 234) (by decide +kernel), List.mem_of_getElem? (i := 670) (by decide +kernel), List.mem_of_getElem? (i := 671) (by decide +kernel)⟩
theorem lw_p39 : lw_okq (⟨"DoorFleet$Trail", "trim", "()V"⟩, 2) := ⟨⟨by decide +kernel, by decide +kernel⟩, List.mem_of_getElem? (i := 234) (by decide +kernel), List.mem_of_getElem? (i := 674) (by decide +kernel), List.mem_of_getElem? (i := 675) (by decide +kernel)⟩
theorem lw_p40 : lw_okq (⟨"DoorFleet$Isle", "take", "(II)V"⟩, 19) := ⟨⟨by decide +kernel, by decide +kernel⟩, List.mem_of_getElem? (i := 27) (by decide +kernel), List.mem_of_getElem? (i := 679) (by decide +kernel), List.mem_of_getElem? (i := 680) (by decide +kernel)⟩
theorem lw_p41 : lw_okq (⟨"DoorFleet$Isle", "flow", "()I"⟩, 19) := ⟨⟨by decide +kernel, by decide +kernel⟩, List.mem_of_getElem? (i := 27) (by decide +kernel), List.mem_of_getElem? (i := 685) (by decide +kernel), List.mem_of_getElem? (i := 686) (by decide +kernel)⟩
theorem lw_p42 : lw_okq (⟨"DoorFleet$Isle", "driftsTo", "(II)I"⟩, 19) := ⟨⟨by decide +kernel, by decide +kernel⟩, List.mem_of_getElem? (i := 27) (by decide +kernel), List.mem_of_getElem? (i := 689) (by decide +kernel), List.mem_of_getElem? (i := 690) (by decide +kernel)⟩
theorem lw_p43 : lw_okq (⟨"DoorFleet$Trail", "backTo", "(ILDoorFleet$Isle;)I"⟩, 2) := ⟨⟨by decide +kernel, by decide +kernel⟩, List.mem_of_getElem? (i := 234) (by decide +kernel), List.mem_of_getElem? (i := 694) (by decide +kernel), List.mem_of_getElem? (i := 695) (by decide +kernel)⟩
theorem lw_p44 : lw_okq (⟨"DoorFleet", "deed", "(III)I"⟩, 17) := ⟨⟨by decide +kernel, by decide +kernel⟩, List.mem_of_getElem? (i := 19) (by decide +kernel), List.mem_of_getElem? (i := 715) (by decide +kernel), List.mem_of_getElem? (i := 716) (by decide +kernel)⟩
theorem lw_p45 : lw_okq (⟨"DoorFleet$Paper", "fewestFor", "(LDoorFleet$Isle;LDoorFleet$Judge;I)I"⟩, 6) := ⟨⟨by decide +kernel, by decide +kernel⟩, List.mem_of_getElem? (i := 248) (by decide +kernel), List.mem_of_getElem? (i := 743) (by decide +kernel), List.mem_of_getElem? (i := 744) (by decide +kernel)⟩
theorem lw_p46 : lw_okq (⟨"DoorFleet", "isNotLost", "(II)Z"⟩, 17) := ⟨⟨by decide +kernel, by decide +kernel⟩, List.mem_of_getElem? (i := 19) (by decide +kernel), List.mem_of_getElem? (i := 760) (by decide +kernel), List.mem_of_getElem? (i := 761) (by decide +kernel)⟩
theorem lw_p47 : lw_okq (⟨"DoorFleet$Paper", "hangAll", "(LDoorFleet$Isle;LDoorFleet$Judge;)I"⟩, 6) := ⟨⟨by decide +kernel, by decide +kernel⟩, List.mem_of_getElem? (i := 248) (by decide +kernel), List.mem_of_getElem? (i := 764) (by decide +kernel), List.mem_of_getElem? (i := 765) (by decide +kernel)⟩
def lw_privs_3 : List (MethodName × Nat) := [(⟨"DoorFleet$Text", "copied", "()LDoorFleet$Text;"⟩, 4), (⟨"DoorFleet", "isObeyed", "(LDoorFleet$Text;I)Z"⟩, 17), (⟨"DoorFleet$Judge", "learn", "(LDoorFleet$Isle;II)V"⟩, 2), (⟨"DoorFleet$Isle", "open", "()I"⟩, 19), (⟨"DoorFleet", "refusal", "(III)I"⟩, 17), (⟨"DoorFleet", "act", "(III)I"⟩, 17), (⟨"DoorFleet$Trail", "keep", "(ILDoorFleet$Isle;)V"⟩, 2), (⟨"DoorFleet$Trail", "trim", "()V"⟩, 2), (⟨"DoorFleet$Isle", "take", "(II)V"⟩, 19), (⟨"DoorFleet$Isle", "flow", "()I"⟩, 19), (⟨"DoorFleet$Isle", "driftsTo", "(II)I"⟩, 19), (⟨"DoorFleet$Trail", "backTo", "(ILDoorFleet$Isle;)I"⟩, 2), (⟨"DoorFleet", "deed", "(III)I"⟩, 17), (⟨"DoorFleet$Paper", "fewestFor", "(LDoorFleet$Isle;LDoorFleet$Judge;I)I"⟩, 6), (⟨"DoorFleet", "isNotLost", "(II)Z"⟩, 17), (⟨"DoorFleet$Paper", "hangAll", "(LDoorFleet$Isle;LDoorFleet$Judge;)I"⟩, 6)]
theorem lw_r3 : ∀ q ∈ lw_privs_3, lw_okq q := List.forall_mem_cons.mpr ⟨lw_p32, List.forall_mem_cons.mpr ⟨lw_p33, List.forall_mem_cons.mpr ⟨lw_p34, List.forall_mem_cons.mpr ⟨lw_p35, List.forall_mem_cons.mpr ⟨lw_p36, List.forall_mem_cons.mpr ⟨lw_p37, List.forall_mem_cons.mpr ⟨lw_p38, List.forall_mem_cons.mpr ⟨lw_p39, List.forall_mem_cons.mpr ⟨lw_p40, List.forall_mem_cons.mpr ⟨lw_p41, List.forall_mem_cons.mpr ⟨lw_p42, List.forall_mem_cons.mpr ⟨lw_p43, List.forall_mem_cons.mpr ⟨lw_p44, List.forall_mem_cons.mpr ⟨lw_p45, List.forall_mem_cons.mpr ⟨lw_p46, List.forall_mem_cons.mpr ⟨lw_p47, fun _ h => absurd h List.not_mem_nil⟩⟩⟩⟩⟩⟩⟩⟩⟩⟩⟩⟩⟩⟩⟩⟩
theorem lw_p48 : lw_okq (⟨"DoorFleet$Paper", "pair", "(II)I"⟩, 6) := ⟨⟨by decide +kernel, by decide +kernel⟩, List.mem_of_getElem? (i := 248) (by decide +kernel), List.mem_of_getElem? (i := 770) (by decide +kernel), List.mem_of_getElem? (i := 771) (by decide +kernel)⟩
theorem lw_p49 : lw_okq (⟨"DoorFleet$Paper", "worthOf", "(III)I"⟩, 6) := ⟨⟨by decide +kernel, by decide +kernel⟩, List.mem_of_getElem? (i := 248) (by decide +kernel), List.mem_of_getElem? (i := 774) (by decide +kernel), List.mem_of_getElem? (i := 775) (by decide +kernel)⟩
theorem lw_p50 : lw_okq (⟨"DoorFleet$Paper", "fewestSwaps", "(LDoorFleet$Isle;)I"⟩, 6) := ⟨⟨by decide +kernel, by decide +kernel⟩, List.mem_of_getElem? (i := 248) (by decide +kernel), List.mem_of_getElem? (i := 783) (by decide +kernel), List.mem_of_getElem? (i := 784) (by decide +kernel)⟩
theorem lw_p51 : lw_okq (⟨"DoorFleet$Isle", "leastUnlike", "(I)I"⟩, 19) := ⟨⟨by decide +kernel, by decide +kernel⟩, List.mem_of_getElem? (i := 27) (by decide +kernel), List.mem_of_getElem? (i := 795) (by decide +kernel), List.mem_of_getElem? (i := 796) (by decide +kernel)⟩
theorem lw_p52 : lw_okq (⟨"DoorFleet$Paper", "shortestWay", "(I)I"⟩, 6) := ⟨⟨by decide +kernel, by decide +kernel⟩, List.mem_of_getElem? (i := 248) (by decide +kernel), List.mem_of_getElem? (i := 810) (by decide +kernel), List.mem_of_getElem? (i := 811) (by decide +kernel)⟩
theorem lw_p53 : lw_okq (⟨"DoorFleet$Paper", "stepsBy", "(IIII)I"⟩, 6) := ⟨⟨by decide +kernel, by decide +kernel⟩, List.mem_of_getElem? (i := 248) (by decide +kernel), List.mem_of_getElem? (i := 814) (by decide +kernel), List.mem_of_getElem? (i := 815) (by decide +kernel)⟩
theorem lw_p54 : lw_okq (⟨"DoorFleet$Paper", "fight", "(LDoorFleet$Isle;)I"⟩, 6) := ⟨⟨by decide +kernel, by decide +kernel⟩, List.mem_of_getElem? (i := 248) (by decide +kernel), List.mem_of_getElem? (i := 835) (by decide +kernel), List.mem_of_getElem? (i := 836) (by decide +kernel)⟩
theorem lw_p55 : lw_okq (⟨"DoorFleet$Isle", "copyFrom", "(LDoorFleet$Isle;)V"⟩, 19) := ⟨⟨by decide +kernel, by decide +kernel⟩, List.mem_of_getElem? (i := 27) (by decide +kernel), List.mem_of_getElem? (i := 852) (by decide +kernel), List.mem_of_getElem? (i := 853) (by decide +kernel)⟩
theorem lw_p56 : lw_okq (⟨"DoorFleet$Isle", "lost", "()I"⟩, 19) := ⟨⟨by decide +kernel, by decide +kernel⟩, List.mem_of_getElem? (i := 27) (by decide +kernel), List.mem_of_getElem? (i := 860) (by decide +kernel), List.mem_of_getElem? (i := 861) (by decide +kernel)⟩
theorem lw_p57 : lw_okq (⟨"DoorFleet", "imageOf", "(I)LDoorFleet$Isle;"⟩, 17) := ⟨⟨by decide +kernel, by decide +kernel⟩, List.mem_of_getElem? (i := 19) (by decide +kernel), List.mem_of_getElem? (i := 873) (by decide +kernel), List.mem_of_getElem? (i := 874) (by decide +kernel)⟩
theorem lw_p58 : lw_okq (⟨"DoorFleetModel", "tell", "(I)I"⟩, 58) := ⟨⟨by decide +kernel, by decide +kernel⟩, List.mem_of_getElem? (i := 890) (by decide +kernel), List.mem_of_getElem? (i := 1099) (by decide +kernel), List.mem_of_getElem? (i := 1100) (by decide +kernel)⟩
theorem lw_p59 : lw_okq (⟨"DoorFleetModel", "putBack", "(I)V"⟩, 58) := ⟨⟨by decide +kernel, by decide +kernel⟩, List.mem_of_getElem? (i := 890) (by decide +kernel), List.mem_of_getElem? (i := 1103) (by decide +kernel), List.mem_of_getElem? (i := 1104) (by decide +kernel)⟩
theorem lw_p60 : lw_okq (⟨"DoorFleetModel", "settled", "(I)I"⟩, 58) := ⟨⟨by decide +kernel, by decide +kernel⟩, List.mem_of_getElem? (i := 890) (by decide +kernel), List.mem_of_getElem? (i := 1118) (by decide +kernel), List.mem_of_getElem? (i := 1119) (by decide +kernel)⟩
theorem lw_p61 : lw_okq (⟨"DoorFleetModel", "isHouse", "(I)Z"⟩, 58) := ⟨⟨by decide +kernel, by decide +kernel⟩, List.mem_of_getElem? (i := 890) (by decide +kernel), List.mem_of_getElem? (i := 1133) (by decide +kernel), List.mem_of_getElem? (i := 1134) (by decide +kernel)⟩
theorem lw_p62 : lw_okq (⟨"DoorFleetModel", "doorOf", "(I)I"⟩, 58) := ⟨⟨by decide +kernel, by decide +kernel⟩, List.mem_of_getElem? (i := 890) (by decide +kernel), List.mem_of_getElem? (i := 1137) (by decide +kernel), List.mem_of_getElem? (i := 1138) (by decide +kernel)⟩
theorem lw_p63 : lw_okq (⟨"DoorFleetModel", "isDoor", "(I)Z"⟩, 58) := ⟨⟨by decide +kernel, by decide +kernel⟩, List.mem_of_getElem? (i := 890) (by decide +kernel), List.mem_of_getElem? (i := 1145) (by decide +kernel), List.mem_of_getElem? (i := 1146) (by decide +kernel)⟩
def lw_privs_4 : List (MethodName × Nat) := [(⟨"DoorFleet$Paper", "pair", "(II)I"⟩, 6), (⟨"DoorFleet$Paper", "worthOf", "(III)I"⟩, 6), (⟨"DoorFleet$Paper", "fewestSwaps", "(LDoorFleet$Isle;)I"⟩, 6), (⟨"DoorFleet$Isle", "leastUnlike", "(I)I"⟩, 19), (⟨"DoorFleet$Paper", "shortestWay", "(I)I"⟩, 6), (⟨"DoorFleet$Paper", "stepsBy", "(IIII)I"⟩, 6), (⟨"DoorFleet$Paper", "fight", "(LDoorFleet$Isle;)I"⟩, 6), (⟨"DoorFleet$Isle", "copyFrom", "(LDoorFleet$Isle;)V"⟩, 19), (⟨"DoorFleet$Isle", "lost", "()I"⟩, 19), (⟨"DoorFleet", "imageOf", "(I)LDoorFleet$Isle;"⟩, 17), (⟨"DoorFleetModel", "tell", "(I)I"⟩, 58), (⟨"DoorFleetModel", "putBack", "(I)V"⟩, 58), (⟨"DoorFleetModel", "settled", "(I)I"⟩, 58), (⟨"DoorFleetModel", "isHouse", "(I)Z"⟩, 58), (⟨"DoorFleetModel", "doorOf", "(I)I"⟩, 58), (⟨"DoorFleetModel", "isDoor", "(I)Z"⟩, 58)]
theorem lw_r4 : ∀ q ∈ lw_privs_4, lw_okq q := List.forall_mem_cons.mpr ⟨lw_p48, List.forall_mem_cons.mpr ⟨lw_p49, List.forall_mem_cons.mpr ⟨lw_p50, List.forall_mem_cons.mpr ⟨lw_p51, List.forall_mem_cons.mpr ⟨lw_p52, List.forall_mem_cons.mpr ⟨lw_p53, List.forall_mem_cons.mpr ⟨lw_p54, List.forall_mem_cons.mpr ⟨lw_p55, List.forall_mem_cons.mpr ⟨lw_p56, List.forall_mem_cons.mpr ⟨lw_p57, List.forall_mem_cons.mpr ⟨lw_p58, List.forall_mem_cons.mpr ⟨lw_p59, List.forall_mem_cons.mpr ⟨lw_p60, List.forall_mem_cons.mpr ⟨lw_p61, List.forall_mem_cons.mpr ⟨lw_p62, List.forall_mem_cons.mpr ⟨lw_p63, fun _ h => absurd h List.not_mem_nil⟩⟩⟩⟩⟩⟩⟩⟩⟩⟩⟩⟩⟩⟩⟩⟩
theorem lw_p64 : lw_okq (⟨"DoorFleetModel", "isBarred", "(I)Z"⟩, 58) := ⟨⟨by decide +kernel, by decide +kernel⟩, List.mem_of_getElem? (i := 890) (by decide +kernel), List.mem_of_getElem? (i := 1149) (by decide +kernel), List.mem_of_getElem? (i := 1150) (by decide +kernel)⟩
theorem lw_p65 : lw_okq (⟨"DoorFleetModel", "tells", "(IIIIIIJ)J"⟩, 58) := ⟨⟨by decide +kernel, by decide +kernel⟩, List.mem_of_getElem? (i := 890) (by decide +kernel), List.mem_of_getElem? (i := 1153) (by decide +kernel), List.mem_of_getElem? (i := 1154) (by decide +kernel)⟩
theorem lw_p66 : lw_okq (⟨"DoorFleetModel", "isSo", "(I)Z"⟩, 58) := ⟨⟨by decide +kernel, by decide +kernel⟩, List.mem_of_getElem? (i := 890) (by decide +kernel), List.mem_of_getElem? (i := 1158) (by decide +kernel), List.mem_of_getElem? (i := 1159) (by decide +kernel)⟩
theorem lw_p67 : lw_okq (⟨"DoorFleetModel", "reckonAll", "(II)V"⟩, 58) := ⟨⟨by decide +kernel, by decide +kernel⟩, List.mem_of_getElem? (i := 890) (by decide +kernel), List.mem_of_getElem? (i := 1162) (by decide +kernel), List.mem_of_getElem? (i := 1163) (by decide +kernel)⟩
theorem lw_p68 : lw_okq (⟨"DoorFleetModel", "reckon", "(IJJ)J"⟩, 58) := ⟨⟨by decide +kernel, by decide +kernel⟩, List.mem_of_getElem? (i := 890) (by decide +kernel), List.mem_of_getElem? (i := 1166) (by decide +kernel), List.mem_of_getElem? (i := 1167) (by decide +kernel)⟩
theorem lw_p69 : lw_okq (⟨"DoorFleetModel", "fits", "(II)Z"⟩, 58) := ⟨⟨by decide +kernel, by decide +kernel⟩, List.mem_of_getElem? (i := 890) (by decide +kernel), List.mem_of_getElem? (i := 1176) (by decide +kernel), List.mem_of_getElem? (i := 1177) (by decide +kernel)⟩
theorem lw_p70 : lw_okq (⟨"DoorFleetModel", "tellsFits", "()Z"⟩, 58) := ⟨⟨by decide +kernel, by decide +kernel⟩, List.mem_of_getElem? (i := 890) (by decide +kernel), List.mem_of_getElem? (i := 1180) (by decide +kernel), List.mem_of_getElem? (i := 1181) (by decide +kernel)⟩
theorem lw_p71 : lw_okq (⟨"DoorFleetModel", "change", "(II)I"⟩, 58) := ⟨⟨by decide +kernel, by decide +kernel⟩, List.mem_of_getElem? (i := 890) (by decide +kernel), List.mem_of_getElem? (i := 1197) (by decide +kernel), List.mem_of_getElem? (i := 1198) (by decide +kernel)⟩
theorem lw_p72 : lw_okq (⟨"DoorFleetModel", "catches", "(IIII)I"⟩, 58) := ⟨⟨by decide +kernel, by decide +kernel⟩, List.mem_of_getElem? (i := 890) (by decide +kernel), List.mem_of_getElem? (i := 1210) (by decide +kernel), List.mem_of_getElem? (i := 1211) (by decide +kernel)⟩
theorem lw_p73 : lw_okq (⟨"DoorFleetModel", "slams", "(II)I"⟩, 58) := ⟨⟨by decide +kernel, by decide +kernel⟩, List.mem_of_getElem? (i := 890) (by decide +kernel), List.mem_of_getElem? (i := 1217) (by decide +kernel), List.mem_of_getElem? (i := 1218) (by decide +kernel)⟩
theorem lw_p74 : lw_okq (⟨"DoorFleetModel", "four", "(I)V"⟩, 58) := ⟨⟨by decide +kernel, by decide +kernel⟩, List.mem_of_getElem? (i := 890) (by decide +kernel), List.mem_of_getElem? (i := 1246) (by decide +kernel), List.mem_of_getElem? (i := 1247) (by decide +kernel)⟩
theorem lw_p75 : lw_okq (⟨"DoorFleetModel", "beginText", "(Z)V"⟩, 58) := ⟨⟨by decide +kernel, by decide +kernel⟩, List.mem_of_getElem? (i := 890) (by decide +kernel), List.mem_of_getElem? (i := 1262) (by decide +kernel), List.mem_of_getElem? (i := 1263) (by decide +kernel)⟩
theorem lw_p76 : lw_okq (⟨"DoorFleetModel", "begin", "()V"⟩, 58) := ⟨⟨by decide +kernel, by decide +kernel⟩, List.mem_of_getElem? (i := 890) (by decide +kernel), List.mem_of_getElem? (i := 1266) (by decide +kernel), List.mem_of_getElem? (i := 1267) (by decide +kernel)⟩
theorem lw_p77 : lw_okq (⟨"DoorFleetModel", "next", "()V"⟩, 58) := ⟨⟨by decide +kernel, by decide +kernel⟩, List.mem_of_getElem? (i := 890) (by decide +kernel), List.mem_of_getElem? (i := 1270) (by decide +kernel), List.mem_of_getElem? (i := 1271) (by decide +kernel)⟩
theorem lw_p78 : lw_okq (⟨"DoorFleetModel", "readLaw", "()V"⟩, 58) := ⟨⟨by decide +kernel, by decide +kernel⟩, List.mem_of_getElem? (i := 890) (by decide +kernel), List.mem_of_getElem? (i := 1285) (by decide +kernel), List.mem_of_getElem? (i := 1286) (by decide +kernel)⟩
theorem lw_p79 : lw_okq (⟨"DoorFleetModel", "isWord", "(J)Z"⟩, 58) := ⟨⟨by decide +kernel, by decide +kernel⟩, List.mem_of_getElem? (i := 890) (by decide +kernel), List.mem_of_getElem? (i := 1289) (by decide +kernel), List.mem_of_getElem? (i := 1290) (by decide +kernel)⟩
def lw_privs_5 : List (MethodName × Nat) := [(⟨"DoorFleetModel", "isBarred", "(I)Z"⟩, 58), (⟨"DoorFleetModel", "tells", "(IIIIIIJ)J"⟩, 58), (⟨"DoorFleetModel", "isSo", "(I)Z"⟩, 58), (⟨"DoorFleetModel", "reckonAll", "(II)V"⟩, 58), (⟨"DoorFleetModel", "reckon", "(IJJ)J"⟩, 58), (⟨"DoorFleetModel", "fits", "(II)Z"⟩, 58), (⟨"DoorFleetModel", "tellsFits", "()Z"⟩, 58), (⟨"DoorFleetModel", "change", "(II)I"⟩, 58), (⟨"DoorFleetModel", "catches", "(IIII)I"⟩, 58), (⟨"DoorFleetModel", "slams", "(II)I"⟩, 58), (⟨"DoorFleetModel", "four", "(I)V"⟩, 58), (⟨"DoorFleetModel", "beginText", "(Z)V"⟩, 58), (⟨"DoorFleetModel", "begin", "()V"⟩, 58), (⟨"DoorFleetModel", "next", "()V"⟩, 58), (⟨"DoorFleetModel", "readLaw", "()V"⟩, 58), (⟨"DoorFleetModel", "isWord", "(J)Z"⟩, 58)]
theorem lw_r5 : ∀ q ∈ lw_privs_5, lw_okq q := List.forall_mem_cons.mpr ⟨lw_p64, List.forall_mem_cons.mpr ⟨lw_p65, List.forall_mem_cons.mpr ⟨lw_p66, List.forall_mem_cons.mpr ⟨lw_p67, List.forall_mem_cons.mpr ⟨lw_p68, List.forall_mem_cons.mpr ⟨lw_p69, List.forall_mem_cons.mpr ⟨lw_p70, List.forall_mem_cons.mpr ⟨lw_p71, List.forall_mem_cons.mpr ⟨lw_p72, List.forall_mem_cons.mpr ⟨lw_p73, List.forall_mem_cons.mpr ⟨lw_p74, List.forall_mem_cons.mpr ⟨lw_p75, List.forall_mem_cons.mpr ⟨lw_p76, List.forall_mem_cons.mpr ⟨lw_p77, List.forall_mem_cons.mpr ⟨lw_p78, List.forall_mem_cons.mpr ⟨lw_p79, fun _ h => absurd h List.not_mem_nil⟩⟩⟩⟩⟩⟩⟩⟩⟩⟩⟩⟩⟩⟩⟩⟩
theorem lw_p80 : lw_okq (⟨"DoorFleetModel", "must", "(Z)V"⟩, 58) := ⟨⟨by decide +kernel, by decide +kernel⟩, List.mem_of_getElem? (i := 890) (by decide +kernel), List.mem_of_getElem? (i := 1293) (by decide +kernel), List.mem_of_getElem? (i := 1294) (by decide +kernel)⟩
theorem lw_p81 : lw_okq (⟨"DoorFleetModel", "readExpression", "(Z)V"⟩, 58) := ⟨⟨by decide +kernel, by decide +kernel⟩, List.mem_of_getElem? (i := 890) (by decide +kernel), List.mem_of_getElem? (i := 1297) (by decide +kernel), List.mem_of_getElem? (i := 1298) (by decide +kernel)⟩
theorem lw_p82 : lw_okq (⟨"DoorFleetModel", "readPlain", "()I"⟩, 58) := ⟨⟨by decide +kernel, by decide +kernel⟩, List.mem_of_getElem? (i := 890) (by decide +kernel), List.mem_of_getElem? (i := 1301) (by decide +kernel), List.mem_of_getElem? (i := 1302) (by decide +kernel)⟩
theorem lw_p83 : lw_okq (⟨"DoorFleetModel", "push", "(II)V"⟩, 58) := ⟨⟨by decide +kernel, by decide +kernel⟩, List.mem_of_getElem? (i := 890) (by decide +kernel), List.mem_of_getElem? (i := 1306) (by decide +kernel), List.mem_of_getElem? (i := 1307) (by decide +kernel)⟩
theorem lw_p84 : lw_okq (⟨"DoorFleetModel", "isSign", "(I)Z"⟩, 58) := ⟨⟨by decide +kernel, by decide +kernel⟩, List.mem_of_getElem? (i := 890) (by decide +kernel), List.mem_of_getElem? (i := 1310) (by decide +kernel), List.mem_of_getElem? (i := 1311) (by decide +kernel)⟩
theorem lw_p85 : lw_okq (⟨"DoorFleetModel", "openBracket", "(I)V"⟩, 58) := ⟨⟨by decide +kernel, by decide +kernel⟩, List.mem_of_getElem? (i := 890) (by decide +kernel), List.mem_of_getElem? (i := 1314) (by decide +kernel), List.mem_of_getElem? (i := 1315) (by decide +kernel)⟩
theorem lw_p86 : lw_okq (⟨"DoorFleetModel", "readPart", "()I"⟩, 58) := ⟨⟨by decide +kernel, by decide +kernel⟩, List.mem_of_getElem? (i := 890) (by decide +kernel), List.mem_of_getElem? (i := 1318) (by decide +kernel), List.mem_of_getElem? (i := 1319) (by decide +kernel)⟩
theorem lw_p87 : lw_okq (⟨"DoorFleetModel", "orderPartAt", "()I"⟩, 58) := ⟨⟨by decide +kernel, by decide +kernel⟩, List.mem_of_getElem? (i := 890) (by decide +kernel), List.mem_of_getElem? (i := 1322) (by decide +kernel), List.mem_of_getElem? (i := 1323) (by decide +kernel)⟩
theorem lw_p88 : lw_okq (⟨"DoorFleetModel", "partAt", "()I"⟩, 58) := ⟨⟨by decide +kernel, by decide +kernel⟩, List.mem_of_getElem? (i := 890) (by decide +kernel), List.mem_of_getElem? (i := 1326) (by decide +kernel), List.mem_of_getElem? (i := 1327) (by decide +kernel)⟩
theorem lw_p89 : lw_okq (⟨"DoorFleetModel", "leaf", "(ZII)V"⟩, 58) := ⟨⟨by decide +kernel, by decide +kernel⟩, List.mem_of_getElem? (i := 890) (by decide +kernel), List.mem_of_getElem? (i := 1331) (by decide +kernel), List.mem_of_getElem? (i := 1332) (by decide +kernel)⟩
theorem lw_p90 : lw_okq (⟨"DoorFleetModel", "emit", "(II)V"⟩, 58) := ⟨⟨by decide +kernel, by decide +kernel⟩, List.mem_of_getElem? (i := 890) (by decide +kernel), List.mem_of_getElem? (i := 1335) (by decide +kernel), List.mem_of_getElem? (i := 1336) (by decide +kernel)⟩
theorem lw_p91 : lw_okq (⟨"DoorFleetModel", "number", "(JJ)I"⟩, 58) := ⟨⟨by decide +kernel, by decide +kernel⟩, List.mem_of_getElem? (i := 890) (by decide +kernel), List.mem_of_getElem? (i := 1340) (by decide +kernel), List.mem_of_getElem? (i := 1341) (by decide +kernel)⟩
theorem lw_p92 : lw_okq (⟨"DoorFleetModel", "behindSum", "(Z)I"⟩, 58) := ⟨⟨by decide +kernel, by decide +kernel⟩, List.mem_of_getElem? (i := 890) (by decide +kernel), List.mem_of_getElem? (i := 1344) (by decide +kernel), List.mem_of_getElem? (i := 1345) (by decide +kernel)⟩
theorem lw_p93 : lw_okq (⟨"DoorFleetModel", "settle", "(I)V"⟩, 58) := ⟨⟨by decide +kernel, by decide +kernel⟩, List.mem_of_getElem? (i := 890) (by decide +kernel), List.mem_of_getElem? (i := 1351) (by decide +kernel), List.mem_of_getElem? (i := 1352) (by decide +kernel)⟩
theorem lw_p94 : lw_okq (⟨"DoorFleetModel", "inner", "()I"⟩, 58) := ⟨⟨by decide +kernel, by decide +kernel⟩, List.mem_of_getElem? (i := 890) (by decide +kernel), List.mem_of_getElem? (i := 1355) (by decide +kernel), List.mem_of_getElem? (i := 1356) (by decide +kernel)⟩
theorem lw_p95 : lw_okq (⟨"DoorFleetModel", "isCompared", "()Z"⟩, 58) := ⟨⟨by decide +kernel, by decide +kernel⟩, List.mem_of_getElem? (i := 890) (by decide +kernel), List.mem_of_getElem? (i := 1359) (by decide +kernel), List.mem_of_getElem? (i := 1360) (by decide +kernel)⟩
def lw_privs_6 : List (MethodName × Nat) := [(⟨"DoorFleetModel", "must", "(Z)V"⟩, 58), (⟨"DoorFleetModel", "readExpression", "(Z)V"⟩, 58), (⟨"DoorFleetModel", "readPlain", "()I"⟩, 58), (⟨"DoorFleetModel", "push", "(II)V"⟩, 58), (⟨"DoorFleetModel", "isSign", "(I)Z"⟩, 58), (⟨"DoorFleetModel", "openBracket", "(I)V"⟩, 58), (⟨"DoorFleetModel", "readPart", "()I"⟩, 58), (⟨"DoorFleetModel", "orderPartAt", "()I"⟩, 58), (⟨"DoorFleetModel", "partAt", "()I"⟩, 58), (⟨"DoorFleetModel", "leaf", "(ZII)V"⟩, 58), (⟨"DoorFleetModel", "emit", "(II)V"⟩, 58), (⟨"DoorFleetModel", "number", "(JJ)I"⟩, 58), (⟨"DoorFleetModel", "behindSum", "(Z)I"⟩, 58), (⟨"DoorFleetModel", "settle", "(I)V"⟩, 58), (⟨"DoorFleetModel", "inner", "()I"⟩, 58), (⟨"DoorFleetModel", "isCompared", "()Z"⟩, 58)]
theorem lw_r6 : ∀ q ∈ lw_privs_6, lw_okq q := List.forall_mem_cons.mpr ⟨lw_p80, List.forall_mem_cons.mpr ⟨lw_p81, List.forall_mem_cons.mpr ⟨lw_p82, List.forall_mem_cons.mpr ⟨lw_p83, List.forall_mem_cons.mpr ⟨lw_p84, List.forall_mem_cons.mpr ⟨lw_p85, List.forall_mem_cons.mpr ⟨lw_p86, List.forall_mem_cons.mpr ⟨lw_p87, List.forall_mem_cons.mpr ⟨lw_p88, List.forall_mem_cons.mpr ⟨lw_p89, List.forall_mem_cons.mpr ⟨lw_p90, List.forall_mem_cons.mpr ⟨lw_p91, List.forall_mem_cons.mpr ⟨lw_p92, List.forall_mem_cons.mpr ⟨lw_p93, List.forall_mem_cons.mpr ⟨lw_p94, List.forall_mem_cons.mpr ⟨lw_p95, fun _ h => absurd h List.not_mem_nil⟩⟩⟩⟩⟩⟩⟩⟩⟩⟩⟩⟩⟩⟩⟩⟩
theorem lw_p96 : lw_okq (⟨"DoorFleetModel", "behindTest", "()I"⟩, 58) := ⟨⟨by decide +kernel, by decide +kernel⟩, List.mem_of_getElem? (i := 890) (by decide +kernel), List.mem_of_getElem? (i := 1366) (by decide +kernel), List.mem_of_getElem? (i := 1367) (by decide +kernel)⟩
theorem lw_p97 : lw_okq (⟨"DoorFleetModel", "endText", "()V"⟩, 58) := ⟨⟨by decide +kernel, by decide +kernel⟩, List.mem_of_getElem? (i := 890) (by decide +kernel), List.mem_of_getElem? (i := 1373) (by decide +kernel), List.mem_of_getElem? (i := 1374) (by decide +kernel)⟩
theorem lw_p98 : lw_okq (⟨"DoorFleetModel", "launchNow", "(I)I"⟩, 58) := ⟨⟨by decide +kernel, by decide +kernel⟩, List.mem_of_getElem? (i := 890) (by decide +kernel), List.mem_of_getElem? (i := 1385) (by decide +kernel), List.mem_of_getElem? (i := 1386) (by decide +kernel)⟩
theorem lw_p99 : lw_okq (⟨"DoorFleetModel", "remember", "(I)V"⟩, 58) := ⟨⟨by decide +kernel, by decide +kernel⟩, List.mem_of_getElem? (i := 890) (by decide +kernel), List.mem_of_getElem? (i := 1389) (by decide +kernel), List.mem_of_getElem? (i := 1390) (by decide +kernel)⟩
theorem lw_p100 : lw_okq (⟨"DoorFleetModel", "keepAll", "(I)V"⟩, 58) := ⟨⟨by decide +kernel, by decide +kernel⟩, List.mem_of_getElem? (i := 890) (by decide +kernel), List.mem_of_getElem? (i := 1393) (by decide +kernel), List.mem_of_getElem? (i := 1394) (by decide +kernel)⟩
theorem lw_p101 : lw_okq (⟨"DoorFleetModel", "sailNow", "(II)I"⟩, 58) := ⟨⟨by decide +kernel, by decide +kernel⟩, List.mem_of_getElem? (i := 890) (by decide +kernel), List.mem_of_getElem? (i := 1401) (by decide +kernel), List.mem_of_getElem? (i := 1402) (by decide +kernel)⟩
theorem lw_p102 : lw_okq (⟨"DoorFleetModel", "isAtSea", "(I)Z"⟩, 58) := ⟨⟨by decide +kernel, by decide +kernel⟩, List.mem_of_getElem? (i := 890) (by decide +kernel), List.mem_of_getElem? (i := 1405) (by decide +kernel), List.mem_of_getElem? (i := 1406) (by decide +kernel)⟩
theorem lw_p103 : lw_okq (⟨"DoorFleetModel", "fishNow", "(I)I"⟩, 58) := ⟨⟨by decide +kernel, by decide +kernel⟩, List.mem_of_getElem? (i := 890) (by decide +kernel), List.mem_of_getElem? (i := 1416) (by decide +kernel), List.mem_of_getElem? (i := 1417) (by decide +kernel)⟩
theorem lw_p104 : lw_okq (⟨"DoorFleetModel", "fishIt", "(I)I"⟩, 58) := ⟨⟨by decide +kernel, by decide +kernel⟩, List.mem_of_getElem? (i := 890) (by decide +kernel), List.mem_of_getElem? (i := 1420) (by decide +kernel), List.mem_of_getElem? (i := 1421) (by decide +kernel)⟩
theorem lw_p105 : lw_okq (⟨"DoorFleetModel", "hangNow", "(II)I"⟩, 58) := ⟨⟨by decide +kernel, by decide +kernel⟩, List.mem_of_getElem? (i := 890) (by decide +kernel), List.mem_of_getElem? (i := 1428) (by decide +kernel), List.mem_of_getElem? (i := 1429) (by decide +kernel)⟩
theorem lw_p106 : lw_okq (⟨"DoorFleetModel", "tideNow", "()I"⟩, 58) := ⟨⟨by decide +kernel, by decide +kernel⟩, List.mem_of_getElem? (i := 890) (by decide +kernel), List.mem_of_getElem? (i := 1436) (by decide +kernel), List.mem_of_getElem? (i := 1437) (by decide +kernel)⟩
theorem lw_p107 : lw_okq (⟨"DoorFleetModel", "tideIt", "()I"⟩, 58) := ⟨⟨by decide +kernel, by decide +kernel⟩, List.mem_of_getElem? (i := 890) (by decide +kernel), List.mem_of_getElem? (i := 1440) (by decide +kernel), List.mem_of_getElem? (i := 1441) (by decide +kernel)⟩
theorem lw_p108 : lw_okq (⟨"DoorFleetModel", "lose", "(I)V"⟩, 58) := ⟨⟨by decide +kernel, by decide +kernel⟩, List.mem_of_getElem? (i := 890) (by decide +kernel), List.mem_of_getElem? (i := 1444) (by decide +kernel), List.mem_of_getElem? (i := 1445) (by decide +kernel)⟩
theorem lw_p109 : lw_okq (⟨"DoorFleetModel", "layMost", "(Z)V"⟩, 58) := ⟨⟨by decide +kernel, by decide +kernel⟩, List.mem_of_getElem? (i := 890) (by decide +kernel), List.mem_of_getElem? (i := 1464) (by decide +kernel), List.mem_of_getElem? (i := 1465) (by decide +kernel)⟩
theorem lw_p110 : lw_okq (⟨"DoorFleetModel", "worthOf", "(ZII)I"⟩, 58) := ⟨⟨by decide +kernel, by decide +kernel⟩, List.mem_of_getElem? (i := 890) (by decide +kernel), List.mem_of_getElem? (i := 1468) (by decide +kernel), List.mem_of_getElem? (i := 1469) (by decide +kernel)⟩
theorem lw_p111 : lw_okq (⟨"DoorFleetModel", "rowAt", "(ZI)I"⟩, 58) := ⟨⟨by decide +kernel, by decide +kernel⟩, List.mem_of_getElem? (i := 890) (by decide +kernel), List.mem_of_getElem? (i := 1472) (by decide +kernel), List.mem_of_getElem? (i := 1473) (by decide +kernel)⟩
def lw_privs_7 : List (MethodName × Nat) := [(⟨"DoorFleetModel", "behindTest", "()I"⟩, 58), (⟨"DoorFleetModel", "endText", "()V"⟩, 58), (⟨"DoorFleetModel", "launchNow", "(I)I"⟩, 58), (⟨"DoorFleetModel", "remember", "(I)V"⟩, 58), (⟨"DoorFleetModel", "keepAll", "(I)V"⟩, 58), (⟨"DoorFleetModel", "sailNow", "(II)I"⟩, 58), (⟨"DoorFleetModel", "isAtSea", "(I)Z"⟩, 58), (⟨"DoorFleetModel", "fishNow", "(I)I"⟩, 58), (⟨"DoorFleetModel", "fishIt", "(I)I"⟩, 58), (⟨"DoorFleetModel", "hangNow", "(II)I"⟩, 58), (⟨"DoorFleetModel", "tideNow", "()I"⟩, 58), (⟨"DoorFleetModel", "tideIt", "()I"⟩, 58), (⟨"DoorFleetModel", "lose", "(I)V"⟩, 58), (⟨"DoorFleetModel", "layMost", "(Z)V"⟩, 58), (⟨"DoorFleetModel", "worthOf", "(ZII)I"⟩, 58), (⟨"DoorFleetModel", "rowAt", "(ZI)I"⟩, 58)]
theorem lw_r7 : ∀ q ∈ lw_privs_7, lw_okq q := List.forall_mem_cons.mpr ⟨lw_p96, List.forall_mem_cons.mpr ⟨lw_p97, List.forall_mem_cons.mpr ⟨lw_p98, List.forall_mem_cons.mpr ⟨lw_p99, List.forall_mem_cons.mpr ⟨lw_p100, List.forall_mem_cons.mpr ⟨lw_p101, List.forall_mem_cons.mpr ⟨lw_p102, List.forall_mem_cons.mpr ⟨lw_p103, List.forall_mem_cons.mpr ⟨lw_p104, List.forall_mem_cons.mpr ⟨lw_p105, List.forall_mem_cons.mpr ⟨lw_p106, List.forall_mem_cons.mpr ⟨lw_p107, List.forall_mem_cons.mpr ⟨lw_p108, List.forall_mem_cons.mpr ⟨lw_p109, List.forall_mem_cons.mpr ⟨lw_p110, List.forall_mem_cons.mpr ⟨lw_p111, fun _ h => absurd h List.not_mem_nil⟩⟩⟩⟩⟩⟩⟩⟩⟩⟩⟩⟩⟩⟩⟩⟩
theorem lw_p112 : lw_okq (⟨"DoorFleetModel", "leadsRing", "(I)Z"⟩, 58) := ⟨⟨by decide +kernel, by decide +kernel⟩, List.mem_of_getElem? (i := 890) (by decide +kernel), List.mem_of_getElem? (i := 1484) (by decide +kernel), List.mem_of_getElem? (i := 1485) (by decide +kernel)⟩
theorem lw_p113 : lw_okq (⟨"DoorFleetModel", "findSearch", "(I)I"⟩, 58) := ⟨⟨by decide +kernel, by decide +kernel⟩, List.mem_of_getElem? (i := 890) (by decide +kernel), List.mem_of_getElem? (i := 1506) (by decide +kernel), List.mem_of_getElem? (i := 1507) (by decide +kernel)⟩
theorem lw_p114 : lw_okq (⟨"DoorFleetModel", "isFresh", "(I)Z"⟩, 58) := ⟨⟨by decide +kernel, by decide +kernel⟩, List.mem_of_getElem? (i := 890) (by decide +kernel), List.mem_of_getElem? (i := 1510) (by decide +kernel), List.mem_of_getElem? (i := 1511) (by decide +kernel)⟩
theorem lw_p115 : lw_okq (⟨"DoorFleetModel", "stepsOf", "(I)I"⟩, 58) := ⟨⟨by decide +kernel, by decide +kernel⟩, List.mem_of_getElem? (i := 890) (by decide +kernel), List.mem_of_getElem? (i := 1514) (by decide +kernel), List.mem_of_getElem? (i := 1515) (by decide +kernel)⟩
theorem lw_p116 : lw_okq (⟨"DoorFleetModel", "readOrder", "()V"⟩, 58) := ⟨⟨by decide +kernel, by decide +kernel⟩, List.mem_of_getElem? (i := 890) (by decide +kernel), List.mem_of_getElem? (i := 1540) (by decide +kernel), List.mem_of_getElem? (i := 1541) (by decide +kernel)⟩
theorem lw_p117 : lw_okq (⟨"DoorFleetModel", "readSum", "(I)V"⟩, 58) := ⟨⟨by decide +kernel, by decide +kernel⟩, List.mem_of_getElem? (i := 890) (by decide +kernel), List.mem_of_getElem? (i := 1544) (by decide +kernel), List.mem_of_getElem? (i := 1545) (by decide +kernel)⟩
theorem lw_p118 : lw_okq (⟨"DoorFleetModel", "run", "(I)I"⟩, 58) := ⟨⟨by decide +kernel, by decide +kernel⟩, List.mem_of_getElem? (i := 890) (by decide +kernel), List.mem_of_getElem? (i := 1551) (by decide +kernel), List.mem_of_getElem? (i := 1552) (by decide +kernel)⟩
theorem lw_p119 : lw_okq (⟨"DoorFleetModel", "openHouses", "()I"⟩, 58) := ⟨⟨by decide +kernel, by decide +kernel⟩, List.mem_of_getElem? (i := 890) (by decide +kernel), List.mem_of_getElem? (i := 1555) (by decide +kernel), List.mem_of_getElem? (i := 1556) (by decide +kernel)⟩
theorem lw_p120 : lw_okq (⟨"DoorFleetModel", "sumOf", "(I)I"⟩, 58) := ⟨⟨by decide +kernel, by decide +kernel⟩, List.mem_of_getElem? (i := 890) (by decide +kernel), List.mem_of_getElem? (i := 1559) (by decide +kernel), List.mem_of_getElem? (i := 1560) (by decide +kernel)⟩
theorem lw_p121 : lw_okq (⟨"DoorFleetModel", "act", "(III)I"⟩, 58) := ⟨⟨by decide +kernel, by decide +kernel⟩, List.mem_of_getElem? (i := 890) (by decide +kernel), List.mem_of_getElem? (i := 1563) (by decide +kernel), List.mem_of_getElem? (i := 1564) (by decide +kernel)⟩
theorem lw_p122 : lw_okq (⟨"DoorFleetModel", "giveBack", "(I)V"⟩, 58) := ⟨⟨by decide +kernel, by decide +kernel⟩, List.mem_of_getElem? (i := 890) (by decide +kernel), List.mem_of_getElem? (i := 1567) (by decide +kernel), List.mem_of_getElem? (i := 1568) (by decide +kernel)⟩
theorem lw_p123 : lw_okq (⟨"DoorFleetModel", "draw", "(I)I"⟩, 58) := ⟨⟨by decide +kernel, by decide +kernel⟩, List.mem_of_getElem? (i := 890) (by decide +kernel), List.mem_of_getElem? (i := 1579) (by decide +kernel), List.mem_of_getElem? (i := 1580) (by decide +kernel)⟩
theorem lw_p124 : lw_okq (⟨"DoorFleetModel", "lostDoors", "()I"⟩, 58) := ⟨⟨by decide +kernel, by decide +kernel⟩, List.mem_of_getElem? (i := 890) (by decide +kernel), List.mem_of_getElem? (i := 1594) (by decide +kernel), List.mem_of_getElem? (i := 1595) (by decide +kernel)⟩
def lw_privs_8 : List (MethodName × Nat) := [(⟨"DoorFleetModel", "leadsRing", "(I)Z"⟩, 58), (⟨"DoorFleetModel", "findSearch", "(I)I"⟩, 58), (⟨"DoorFleetModel", "isFresh", "(I)Z"⟩, 58), (⟨"DoorFleetModel", "stepsOf", "(I)I"⟩, 58), (⟨"DoorFleetModel", "readOrder", "()V"⟩, 58), (⟨"DoorFleetModel", "readSum", "(I)V"⟩, 58), (⟨"DoorFleetModel", "run", "(I)I"⟩, 58), (⟨"DoorFleetModel", "openHouses", "()I"⟩, 58), (⟨"DoorFleetModel", "sumOf", "(I)I"⟩, 58), (⟨"DoorFleetModel", "act", "(III)I"⟩, 58), (⟨"DoorFleetModel", "giveBack", "(I)V"⟩, 58), (⟨"DoorFleetModel", "draw", "(I)I"⟩, 58), (⟨"DoorFleetModel", "lostDoors", "()I"⟩, 58)]
theorem lw_r8 : ∀ q ∈ lw_privs_8, lw_okq q := List.forall_mem_cons.mpr ⟨lw_p112, List.forall_mem_cons.mpr ⟨lw_p113, List.forall_mem_cons.mpr ⟨lw_p114, List.forall_mem_cons.mpr ⟨lw_p115, List.forall_mem_cons.mpr ⟨lw_p116, List.forall_mem_cons.mpr ⟨lw_p117, List.forall_mem_cons.mpr ⟨lw_p118, List.forall_mem_cons.mpr ⟨lw_p119, List.forall_mem_cons.mpr ⟨lw_p120, List.forall_mem_cons.mpr ⟨lw_p121, List.forall_mem_cons.mpr ⟨lw_p122, List.forall_mem_cons.mpr ⟨lw_p123, List.forall_mem_cons.mpr ⟨lw_p124, fun _ h => absurd h List.not_mem_nil⟩⟩⟩⟩⟩⟩⟩⟩⟩⟩⟩⟩⟩
def lw_privs : List (MethodName × Nat) := lw_privs_1 ++ (lw_privs_2 ++ (lw_privs_3 ++ (lw_privs_4 ++ (lw_privs_5 ++ (lw_privs_6 ++ (lw_privs_7 ++ (lw_privs_8)))))))
def lw_tbl : List Cond := k2_sels lw_privs ++ tables_1
theorem lw_privs_ok : ∀ q ∈ lw_privs, lw_okq q := by
  show ∀ q ∈ lw_privs_1 ++ (lw_privs_2 ++ (lw_privs_3 ++ (lw_privs_4 ++ (lw_privs_5 ++ (lw_privs_6 ++ (lw_privs_7 ++ (lw_privs_8))))))), lw_okq q
  exact List.forall_mem_append.mpr ⟨lw_r1, List.forall_mem_append.mpr ⟨lw_r2, List.forall_mem_append.mpr ⟨lw_r3, List.forall_mem_append.mpr ⟨lw_r4, List.forall_mem_append.mpr ⟨lw_r5, List.forall_mem_append.mpr ⟨lw_r6, List.forall_mem_append.mpr ⟨lw_r7, lw_r8⟩⟩⟩⟩⟩⟩⟩
def RX0 : String := "DoorFleet$Isle"
def TX0 : u_T := fun k => match k with
  | 0 => ("DoorFleet$Isle", "houses", "I", false)
  | 1 => ("DoorFleet$Isle", "size", "[I", true)
  | 2 => ("DoorFleet$Isle", "doors", "I", false)
  | 3 => ("DoorFleet$Isle", "wide", "[I", true)
  | 4 => ("DoorFleet$Isle", "wood", "[I", true)
  | 5 => ("DoorFleet$Isle", "home", "[I", true)
  | 6 => ("DoorFleet$Isle", "knocks", "[I", true)
  | 7 => ("DoorFleet$Isle", "hangs", "[I", true)
  | 8 => ("DoorFleet$Isle", "cell", "[I", true)
  | 9 => ("DoorFleet$Isle", "caught", "[I", true)
  | 10 => ("DoorFleet$Isle", "fish", "[I", true)
  | 11 => ("DoorFleet$Isle", "drift", "[I", true)
  | 12 => ("DoorFleet$Isle", "foes", "I", false)
  | 13 => ("DoorFleet$Isle", "strong", "[I", true)
  | 14 => ("DoorFleet$Isle", "day", "I", false)
  | 15 => ("DoorFleet$Isle", "mood", "I", false)
  | 16 => ("DoorFleet$Isle", "laws", "I", false)
  | 17 => ("DoorFleet$Isle", "law", "[LDoorFleet$Text;", true)
  | _ => ("DoorFleet$Isle", "force", "I", false)
def tyX0 : Nat → FieldType := fun k => match k with
  | 0 => .int
  | 1 => .array .int
  | 2 => .int
  | 3 => .array .int
  | 4 => .array .int
  | 5 => .array .int
  | 6 => .array .int
  | 7 => .array .int
  | 8 => .array .int
  | 9 => .array .int
  | 10 => .array .int
  | 11 => .array .int
  | 12 => .int
  | 13 => .array .int
  | 14 => .int
  | 15 => .int
  | 16 => .int
  | 17 => .array (.object "DoorFleet$Text")
  | _ => .int
theorem nmX0 : ∀ a, a < 19 → ∀ b, b < 19 → a ≠ b → (TX0 a).2.1 ≠ (TX0 b).2.1 := by decide +kernel
theorem tyX0_ok : ∀ k, k < 19 → parseFieldDescriptor (TX0 k).2.2.1 = some (tyX0 k) := by decide +kernel
abbrev cX0_init : ByteArray := prog_2_method_1_code
def yX0_init : MethodName := ⟨RX0, "<init>", "()V"⟩
abbrev cX0_copyFrom : ByteArray := prog_2_method_2_code
def yX0_copyFrom : MethodName := ⟨RX0, "copyFrom", "(LDoorFleet$Isle;)V"⟩
abbrev cX0_isHouse : ByteArray := prog_2_method_3_code
def yX0_isHouse : MethodName := ⟨RX0, "isHouse", "(I)Z"⟩
abbrev cX0_isDoor : ByteArray := prog_2_method_4_code
def yX0_isDoor : MethodName := ⟨RX0, "isDoor", "(I)Z"⟩
abbrev cX0_isLost : ByteArray := prog_2_method_5_code
def yX0_isLost : MethodName := ⟨RX0, "isLost", "(I)Z"⟩
abbrev cX0_doorIn : ByteArray := prog_2_method_6_code
def yX0_doorIn : MethodName := ⟨RX0, "doorIn", "(I)I"⟩
abbrev cX0_open : ByteArray := prog_2_method_7_code
def yX0_open : MethodName := ⟨RX0, "open", "()I"⟩
abbrev cX0_lost : ByteArray := prog_2_method_8_code
def yX0_lost : MethodName := ⟨RX0, "lost", "()I"⟩
abbrev cX0_lawInForce : ByteArray := prog_2_method_9_code
def yX0_lawInForce : MethodName := ⟨RX0, "lawInForce", "()LDoorFleet$Text;"⟩
abbrev cX0_beside : ByteArray := prog_2_method_10_code
def yX0_beside : MethodName := ⟨RX0, "beside", "(II)I"⟩
abbrev cX0_driftsTo : ByteArray := prog_2_method_11_code
def yX0_driftsTo : MethodName := ⟨RX0, "driftsTo", "(II)I"⟩
abbrev cX0_take : ByteArray := prog_2_method_12_code
def yX0_take : MethodName := ⟨RX0, "take", "(II)V"⟩
abbrev cX0_flow : ByteArray := prog_2_method_13_code
def yX0_flow : MethodName := ⟨RX0, "flow", "()I"⟩
abbrev cX0_leastUnlike : ByteArray := prog_2_method_14_code
def yX0_leastUnlike : MethodName := ⟨RX0, "leastUnlike", "(I)I"⟩
def RX1 : String := "DoorFleet$Judge"
def TX1 : u_T := fun k => match k with
  | 0 => ("DoorFleet$Judge", "facts", "[I", true)
  | _ => ("DoorFleet$Judge", "stack", "[I", true)
def tyX1 : Nat → FieldType := fun k => match k with
  | 0 => .array .int
  | _ => .array .int
theorem nmX1 : ∀ a, a < 2 → ∀ b, b < 2 → a ≠ b → (TX1 a).2.1 ≠ (TX1 b).2.1 := by decide +kernel
theorem tyX1_ok : ∀ k, k < 2 → parseFieldDescriptor (TX1 k).2.2.1 = some (tyX1 k) := by decide +kernel
abbrev cX1_init : ByteArray := prog_3_method_1_code
def yX1_init : MethodName := ⟨RX1, "<init>", "()V"⟩
abbrev cX1_learn : ByteArray := prog_3_method_2_code
def yX1_learn : MethodName := ⟨RX1, "learn", "(LDoorFleet$Isle;II)V"⟩
abbrev cX1_learnOf : ByteArray := prog_3_method_3_code
def yX1_learnOf : MethodName := ⟨RX1, "learnOf", "(LDoorFleet$Isle;IIII)V"⟩
abbrev cX1_catchOf : ByteArray := prog_3_method_4_code
def yX1_catchOf : MethodName := ⟨RX1, "catchOf", "(LDoorFleet$Isle;III)I"⟩
abbrev cX1_slamOf : ByteArray := prog_3_method_5_code
def yX1_slamOf : MethodName := ⟨RX1, "slamOf", "(LDoorFleet$Isle;II)I"⟩
abbrev cX1_isFitting : ByteArray := prog_3_method_6_code
def yX1_isFitting : MethodName := ⟨RX1, "isFitting", "(LDoorFleet$Isle;II)Z"⟩
abbrev cX1_isBarred : ByteArray := prog_3_method_7_code
def yX1_isBarred : MethodName := ⟨RX1, "isBarred", "(LDoorFleet$Isle;I)Z"⟩
abbrev cX1_lastTold : ByteArray := prog_3_method_8_code
def yX1_lastTold : MethodName := ⟨RX1, "lastTold", "(LDoorFleet$Text;II)I"⟩
abbrev cX1_value : ByteArray := prog_3_method_9_code
def yX1_value : MethodName := ⟨RX1, "value", "(LDoorFleet$Text;I)I"⟩
abbrev cX1_joined : ByteArray := prog_3_method_10_code
def yX1_joined : MethodName := ⟨RX1, "joined", "(IJJ)I"⟩
def RX2 : String := "DoorFleet$Paper"
def TX2 : u_T := fun k => match k with
  | 0 => ("DoorFleet$Paper", "worth", "[I", true)
  | 1 => ("DoorFleet$Paper", "best", "[I", true)
  | 2 => ("DoorFleet$Paper", "way", "[I", true)
  | 3 => ("DoorFleet$Paper", "told", "[I", true)
  | 4 => ("DoorFleet$Paper", "catches", "[I", true)
  | _ => ("DoorFleet$Paper", "chosen", "[I", true)
def tyX2 : Nat → FieldType := fun k => match k with
  | 0 => .array .int
  | 1 => .array .int
  | 2 => .array .int
  | 3 => .array .int
  | 4 => .array .int
  | _ => .array .int
theorem nmX2 : ∀ a, a < 6 → ∀ b, b < 6 → a ≠ b → (TX2 a).2.1 ≠ (TX2 b).2.1 := by decide +kernel
theorem tyX2_ok : ∀ k, k < 6 → parseFieldDescriptor (TX2 k).2.2.1 = some (tyX2 k) := by decide +kernel
abbrev cX2_init : ByteArray := prog_4_method_1_code
def yX2_init : MethodName := ⟨RX2, "<init>", "()V"⟩
abbrev cX2_fewestFor : ByteArray := prog_4_method_2_code
def yX2_fewestFor : MethodName := ⟨RX2, "fewestFor", "(LDoorFleet$Isle;LDoorFleet$Judge;I)I"⟩
abbrev cX2_hangAll : ByteArray := prog_4_method_3_code
def yX2_hangAll : MethodName := ⟨RX2, "hangAll", "(LDoorFleet$Isle;LDoorFleet$Judge;)I"⟩
abbrev cX2_fight : ByteArray := prog_4_method_4_code
def yX2_fight : MethodName := ⟨RX2, "fight", "(LDoorFleet$Isle;)I"⟩
abbrev cX2_pair : ByteArray := prog_4_method_5_code
def yX2_pair : MethodName := ⟨RX2, "pair", "(II)I"⟩
abbrev cX2_worthOf : ByteArray := prog_4_method_6_code
def yX2_worthOf : MethodName := ⟨RX2, "worthOf", "(III)I"⟩
abbrev cX2_fewestSwaps : ByteArray := prog_4_method_7_code
def yX2_fewestSwaps : MethodName := ⟨RX2, "fewestSwaps", "(LDoorFleet$Isle;)I"⟩
abbrev cX2_shortestWay : ByteArray := prog_4_method_8_code
def yX2_shortestWay : MethodName := ⟨RX2, "shortestWay", "(I)I"⟩
abbrev cX2_stepsBy : ByteArray := prog_4_method_9_code
def yX2_stepsBy : MethodName := ⟨RX2, "stepsBy", "(IIII)I"⟩
abbrev cX2_shareOf : ByteArray := prog_4_method_10_code
def yX2_shareOf : MethodName := ⟨RX2, "shareOf", "(LDoorFleet$Isle;II)I"⟩
def RX3 : String := "DoorFleet$Reader"
def TX3 : u_T := fun k => match k with
  | 0 => ("DoorFleet$Reader", "codes", "[I", true)
  | 1 => ("DoorFleet$Reader", "places", "[I", true)
  | 2 => ("DoorFleet$Reader", "numbers", "[I", true)
  | 3 => ("DoorFleet$Reader", "tokens", "I", false)
  | 4 => ("DoorFleet$Reader", "at", "I", false)
  | 5 => ("DoorFleet$Reader", "next", "I", false)
  | 6 => ("DoorFleet$Reader", "parts", "I", false)
  | 7 => ("DoorFleet$Reader", "ordering", "Z", false)
  | 8 => ("DoorFleet$Reader", "fault", "I", false)
  | _ => ("DoorFleet$Reader", "draft", "LDoorFleet$Text;", true)
def tyX3 : Nat → FieldType := fun k => match k with
  | 0 => .array .int
  | 1 => .array .int
  | 2 => .array .int
  | 3 => .int
  | 4 => .int
  | 5 => .int
  | 6 => .int
  | 7 => .boolean
  | 8 => .int
  | _ => .object "DoorFleet$Text"
theorem nmX3 : ∀ a, a < 10 → ∀ b, b < 10 → a ≠ b → (TX3 a).2.1 ≠ (TX3 b).2.1 := by decide +kernel
theorem tyX3_ok : ∀ k, k < 10 → parseFieldDescriptor (TX3 k).2.2.1 = some (tyX3 k) := by decide +kernel
abbrev cX3_init : ByteArray := prog_5_method_1_code
def yX3_init : MethodName := ⟨RX3, "<init>", "()V"⟩
abbrev cX3_reads : ByteArray := prog_5_method_2_code
def yX3_reads : MethodName := ⟨RX3, "reads", "(LDoorFleet$Tape;Z)Z"⟩
abbrev cX3_split : ByteArray := prog_5_method_3_code
def yX3_split : MethodName := ⟨RX3, "split", "(LDoorFleet$Tape;)V"⟩
abbrev cX3_note : ByteArray := prog_5_method_4_code
def yX3_note : MethodName := ⟨RX3, "note", "(III)V"⟩
abbrev cX3_isLetter : ByteArray := prog_5_method_5_code
def yX3_isLetter : MethodName := ⟨RX3, "isLetter", "(I)Z"⟩
abbrev cX3_isDigit : ByteArray := prog_5_method_6_code
def yX3_isDigit : MethodName := ⟨RX3, "isDigit", "(I)Z"⟩
abbrev cX3_endOf : ByteArray := prog_5_method_7_code
def yX3_endOf : MethodName := ⟨RX3, "endOf", "(LDoorFleet$Tape;I)I"⟩
abbrev cX3_numberIn : ByteArray := prog_5_method_8_code
def yX3_numberIn : MethodName := ⟨RX3, "numberIn", "(LDoorFleet$Tape;II)I"⟩
abbrev cX3_wordIn : ByteArray := prog_5_method_9_code
def yX3_wordIn : MethodName := ⟨RX3, "wordIn", "(LDoorFleet$Tape;II)I"⟩
abbrev cX3_advance : ByteArray := prog_5_method_10_code
def yX3_advance : MethodName := ⟨RX3, "advance", "()V"⟩
abbrev cX3_numberFrom : ByteArray := prog_5_method_11_code
def yX3_numberFrom : MethodName := ⟨RX3, "numberFrom", "(II)I"⟩
abbrev cX3_clause : ByteArray := prog_5_method_12_code
def yX3_clause : MethodName := ⟨RX3, "clause", "()Z"⟩
abbrev cX3_lawVerb : ByteArray := prog_5_method_13_code
def yX3_lawVerb : MethodName := ⟨RX3, "lawVerb", "(I)I"⟩
abbrev cX3_orderVerb : ByteArray := prog_5_method_14_code
def yX3_orderVerb : MethodName := ⟨RX3, "orderVerb", "(I)I"⟩
abbrev cX3_sumOf : ByteArray := prog_5_method_15_code
def yX3_sumOf : MethodName := ⟨RX3, "sumOf", "(I)Z"⟩
abbrev cX3_test : ByteArray := prog_5_method_16_code
def yX3_test : MethodName := ⟨RX3, "test", "(I)Z"⟩
abbrev cX3_plain : ByteArray := prog_5_method_17_code
def yX3_plain : MethodName := ⟨RX3, "plain", "(I)Z"⟩
abbrev cX3_sum : ByteArray := prog_5_method_18_code
def yX3_sum : MethodName := ⟨RX3, "sum", "(I)Z"⟩
abbrev cX3_part : ByteArray := prog_5_method_19_code
def yX3_part : MethodName := ⟨RX3, "part", "(I)Z"⟩
abbrev cX3_lawFact : ByteArray := prog_5_method_20_code
def yX3_lawFact : MethodName := ⟨RX3, "lawFact", "(I)I"⟩
abbrev cX3_orderFact : ByteArray := prog_5_method_21_code
def yX3_orderFact : MethodName := ⟨RX3, "orderFact", "(I)I"⟩
def RX4 : String := "DoorFleet$Tape"
def TX4 : u_T := fun k => match k with
  | 0 => ("DoorFleet$Tape", "bytes", "[I", true)
  | _ => ("DoorFleet$Tape", "length", "I", false)
def tyX4 : Nat → FieldType := fun k => match k with
  | 0 => .array .int
  | _ => .int
theorem nmX4 : ∀ a, a < 2 → ∀ b, b < 2 → a ≠ b → (TX4 a).2.1 ≠ (TX4 b).2.1 := by decide +kernel
theorem tyX4_ok : ∀ k, k < 2 → parseFieldDescriptor (TX4 k).2.2.1 = some (tyX4 k) := by decide +kernel
abbrev cX4_init : ByteArray := prog_6_method_1_code
def yX4_init : MethodName := ⟨RX4, "<init>", "()V"⟩
abbrev cX4_append : ByteArray := prog_6_method_2_code
def yX4_append : MethodName := ⟨RX4, "append", "(I)V"⟩
def RX5 : String := "DoorFleet$Text"
def TX5 : u_T := fun k => match k with
  | 0 => ("DoorFleet$Text", "clauses", "I", false)
  | 1 => ("DoorFleet$Text", "heads", "[I", true)
  | 2 => ("DoorFleet$Text", "length", "I", false)
  | _ => ("DoorFleet$Text", "steps", "[I", true)
def tyX5 : Nat → FieldType := fun k => match k with
  | 0 => .int
  | 1 => .array .int
  | 2 => .int
  | _ => .array .int
theorem nmX5 : ∀ a, a < 4 → ∀ b, b < 4 → a ≠ b → (TX5 a).2.1 ≠ (TX5 b).2.1 := by decide +kernel
theorem tyX5_ok : ∀ k, k < 4 → parseFieldDescriptor (TX5 k).2.2.1 = some (tyX5 k) := by decide +kernel
abbrev cX5_init : ByteArray := prog_7_method_1_code
def yX5_init : MethodName := ⟨RX5, "<init>", "([I[I)V"⟩
abbrev cX5_copied : ByteArray := prog_7_method_2_code
def yX5_copied : MethodName := ⟨RX5, "copied", "()LDoorFleet$Text;"⟩
abbrev cX5_told : ByteArray := prog_7_method_3_code
def yX5_told : MethodName := ⟨RX5, "told", "(II)I"⟩
abbrev cX5_tell : ByteArray := prog_7_method_4_code
def yX5_tell : MethodName := ⟨RX5, "tell", "(II)V"⟩
abbrev cX5_begin : ByteArray := prog_7_method_5_code
def yX5_begin : MethodName := ⟨RX5, "begin", "(I)V"⟩
abbrev cX5_add : ByteArray := prog_7_method_6_code
def yX5_add : MethodName := ⟨RX5, "add", "(II)V"⟩
abbrev cX5_land : ByteArray := prog_7_method_7_code
def yX5_land : MethodName := ⟨RX5, "land", "(I)V"⟩
abbrev cX5_has : ByteArray := prog_7_method_8_code
def yX5_has : MethodName := ⟨RX5, "has", "(I)Z"⟩
def RX6 : String := "DoorFleet$Trail"
def TX6 : u_T := fun k => match k with
  | 0 => ("DoorFleet$Trail", "rows", "[I", true)
  | _ => ("DoorFleet$Trail", "count", "I", false)
def tyX6 : Nat → FieldType := fun k => match k with
  | 0 => .array .int
  | _ => .int
theorem nmX6 : ∀ a, a < 2 → ∀ b, b < 2 → a ≠ b → (TX6 a).2.1 ≠ (TX6 b).2.1 := by decide +kernel
theorem tyX6_ok : ∀ k, k < 2 → parseFieldDescriptor (TX6 k).2.2.1 = some (tyX6 k) := by decide +kernel
abbrev cX6_init : ByteArray := prog_8_method_1_code
def yX6_init : MethodName := ⟨RX6, "<init>", "()V"⟩
abbrev cX6_keep : ByteArray := prog_8_method_2_code
def yX6_keep : MethodName := ⟨RX6, "keep", "(ILDoorFleet$Isle;)V"⟩
abbrev cX6_backTo : ByteArray := prog_8_method_3_code
def yX6_backTo : MethodName := ⟨RX6, "backTo", "(ILDoorFleet$Isle;)I"⟩
abbrev cX6_trim : ByteArray := prog_8_method_4_code
def yX6_trim : MethodName := ⟨RX6, "trim", "()V"⟩
def RX7 : String := "DoorFleet"
def TX7 : u_T := fun k => match k with
  | 0 => ("DoorFleet", "isle", "LDoorFleet$Isle;", true)
  | 1 => ("DoorFleet", "firstImage", "LDoorFleet$Isle;", true)
  | 2 => ("DoorFleet", "kept", "[Z", true)
  | 3 => ("DoorFleet", "summer", "LDoorFleet$Isle;", true)
  | 4 => ("DoorFleet", "summered", "Z", false)
  | 5 => ("DoorFleet", "tape", "LDoorFleet$Tape;", true)
  | 6 => ("DoorFleet", "reader", "LDoorFleet$Reader;", true)
  | 7 => ("DoorFleet", "judge", "LDoorFleet$Judge;", true)
  | 8 => ("DoorFleet", "trail", "LDoorFleet$Trail;", true)
  | 9 => ("DoorFleet", "paper", "LDoorFleet$Paper;", true)
  | 10 => ("DoorFleet", "foamed", "I", false)
  | 11 => ("DoorFleet", "stoppedAt", "I", false)
  | 12 => ("DoorFleet", "ordered", "I", false)
  | 13 => ("DoorFleet", "lastCaught", "I", false)
  | 14 => ("DoorFleet", "refusedBy", "I", false)
  | 15 => ("DoorFleet", "refusals", "[I", true)
  | _ => ("DoorFleet", "secondImage", "LDoorFleet$Isle;", true)
def tyX7 : Nat → FieldType := fun k => match k with
  | 0 => .object "DoorFleet$Isle"
  | 1 => .object "DoorFleet$Isle"
  | 2 => .array .boolean
  | 3 => .object "DoorFleet$Isle"
  | 4 => .boolean
  | 5 => .object "DoorFleet$Tape"
  | 6 => .object "DoorFleet$Reader"
  | 7 => .object "DoorFleet$Judge"
  | 8 => .object "DoorFleet$Trail"
  | 9 => .object "DoorFleet$Paper"
  | 10 => .int
  | 11 => .int
  | 12 => .int
  | 13 => .int
  | 14 => .int
  | 15 => .array .int
  | _ => .object "DoorFleet$Isle"
theorem nmX7 : ∀ a, a < 17 → ∀ b, b < 17 → a ≠ b → (TX7 a).2.1 ≠ (TX7 b).2.1 := by decide +kernel
theorem tyX7_ok : ∀ k, k < 17 → parseFieldDescriptor (TX7 k).2.2.1 = some (tyX7 k) := by decide +kernel
abbrev cX7_init : ByteArray := prog_1_method_1_code
def yX7_init : MethodName := ⟨RX7, "<init>", "()V"⟩
abbrev cX7_house : ByteArray := prog_1_method_2_code
def yX7_house : MethodName := ⟨RX7, "house", "(I)I"⟩
abbrev cX7_door : ByteArray := prog_1_method_3_code
def yX7_door : MethodName := ⟨RX7, "door", "(IIII)I"⟩
abbrev cX7_of : ByteArray := prog_1_method_4_code
def yX7_of : MethodName := ⟨RX7, "of", "(II)I"⟩
abbrev cX7_frame : ByteArray := prog_1_method_5_code
def yX7_frame : MethodName := ⟨RX7, "frame", "(II)I"⟩
abbrev cX7_put : ByteArray := prog_1_method_6_code
def yX7_put : MethodName := ⟨RX7, "put", "(III)I"⟩
abbrev cX7_at : ByteArray := prog_1_method_7_code
def yX7_at : MethodName := ⟨RX7, "at", "(II)I"⟩
abbrev cX7_asks : ByteArray := prog_1_method_8_code
def yX7_asks : MethodName := ⟨RX7, "asks", "(III)I"⟩
abbrev cX7_foe : ByteArray := prog_1_method_9_code
def yX7_foe : MethodName := ⟨RX7, "foe", "(I)I"⟩
abbrev cX7_peace : ByteArray := prog_1_method_10_code
def yX7_peace : MethodName := ⟨RX7, "peace", "()I"⟩
abbrev cX7_terms : ByteArray := prog_1_method_11_code
def yX7_terms : MethodName := ⟨RX7, "terms", "(II)I"⟩
abbrev cX7_feed : ByteArray := prog_1_method_12_code
def yX7_feed : MethodName := ⟨RX7, "feed", "(IIIII)I"⟩
abbrev cX7_end : ByteArray := prog_1_method_13_code
def yX7_end : MethodName := ⟨RX7, "end", "(I)I"⟩
abbrev cX7_row : ByteArray := prog_1_method_14_code
def yX7_row : MethodName := ⟨RX7, "row", "()I"⟩
abbrev cX7_foam : ByteArray := prog_1_method_15_code
def yX7_foam : MethodName := ⟨RX7, "foam", "()I"⟩
abbrev cX7_law : ByteArray := prog_1_method_16_code
def yX7_law : MethodName := ⟨RX7, "law", "()I"⟩
abbrev cX7_orders : ByteArray := prog_1_method_17_code
def yX7_orders : MethodName := ⟨RX7, "orders", "()I"⟩
abbrev cX7_fault : ByteArray := prog_1_method_18_code
def yX7_fault : MethodName := ⟨RX7, "fault", "()I"⟩
abbrev cX7_stopped : ByteArray := prog_1_method_19_code
def yX7_stopped : MethodName := ⟨RX7, "stopped", "()I"⟩
abbrev cX7_force : ByteArray := prog_1_method_20_code
def yX7_force : MethodName := ⟨RX7, "force", "(I)I"⟩
abbrev cX7_launch : ByteArray := prog_1_method_21_code
def yX7_launch : MethodName := ⟨RX7, "launch", "(I)I"⟩
abbrev cX7_sail : ByteArray := prog_1_method_22_code
def yX7_sail : MethodName := ⟨RX7, "sail", "(II)I"⟩
abbrev cX7_fish : ByteArray := prog_1_method_23_code
def yX7_fish : MethodName := ⟨RX7, "fish", "(I)I"⟩
abbrev cX7_hang : ByteArray := prog_1_method_24_code
def yX7_hang : MethodName := ⟨RX7, "hang", "(II)I"⟩
abbrev cX7_tide : ByteArray := prog_1_method_25_code
def yX7_tide : MethodName := ⟨RX7, "tide", "()I"⟩
abbrev cX7_undo : ByteArray := prog_1_method_26_code
def yX7_undo : MethodName := ⟨RX7, "undo", "()I"⟩
abbrev cX7_fleet : ByteArray := prog_1_method_27_code
def yX7_fleet : MethodName := ⟨RX7, "fleet", "(II)I"⟩
abbrev cX7_hanging : ByteArray := prog_1_method_28_code
def yX7_hanging : MethodName := ⟨RX7, "hanging", "(I)I"⟩
abbrev cX7_right : ByteArray := prog_1_method_29_code
def yX7_right : MethodName := ⟨RX7, "right", "()I"⟩
abbrev cX7_heard : ByteArray := prog_1_method_30_code
def yX7_heard : MethodName := ⟨RX7, "heard", "(II)I"⟩
abbrev cX7_knock : ByteArray := prog_1_method_31_code
def yX7_knock : MethodName := ⟨RX7, "knock", "(I)I"⟩
abbrev cX7_wreck : ByteArray := prog_1_method_32_code
def yX7_wreck : MethodName := ⟨RX7, "wreck", "(II)I"⟩
abbrev cX7_search : ByteArray := prog_1_method_33_code
def yX7_search : MethodName := ⟨RX7, "search", "(II)I"⟩
abbrev cX7_afloat : ByteArray := prog_1_method_34_code
def yX7_afloat : MethodName := ⟨RX7, "afloat", "(II)J"⟩
abbrev cX7_guards : ByteArray := prog_1_method_35_code
def yX7_guards : MethodName := ⟨RX7, "guards", "(I)I"⟩
abbrev cX7_battle : ByteArray := prog_1_method_36_code
def yX7_battle : MethodName := ⟨RX7, "battle", "(I)I"⟩
abbrev cX7_share : ByteArray := prog_1_method_37_code
def yX7_share : MethodName := ⟨RX7, "share", "(II)I"⟩
abbrev cX7_summers : ByteArray := prog_1_method_38_code
def yX7_summers : MethodName := ⟨RX7, "summers", "(II)I"⟩
abbrev cX7_drawn : ByteArray := prog_1_method_39_code
def yX7_drawn : MethodName := ⟨RX7, "drawn", "(II)I"⟩
abbrev cX7_image : ByteArray := prog_1_method_40_code
def yX7_image : MethodName := ⟨RX7, "image", "(I)I"⟩
abbrev cX7_back : ByteArray := prog_1_method_41_code
def yX7_back : MethodName := ⟨RX7, "back", "(I)I"⟩
abbrev cX7_count : ByteArray := prog_1_method_42_code
def yX7_count : MethodName := ⟨RX7, "count", "(I)I"⟩
abbrev cX7_status : ByteArray := prog_1_method_43_code
def yX7_status : MethodName := ⟨RX7, "status", "()I"⟩
abbrev cX7_granted : ByteArray := prog_1_method_44_code
def yX7_granted : MethodName := ⟨RX7, "granted", "(I)I"⟩
abbrev cX7_refuse : ByteArray := prog_1_method_45_code
def yX7_refuse : MethodName := ⟨RX7, "refuse", "(I)I"⟩
abbrev cX7_imageOf : ByteArray := prog_1_method_46_code
def yX7_imageOf : MethodName := ⟨RX7, "imageOf", "(I)LDoorFleet$Isle;"⟩
abbrev cX7_isCell : ByteArray := prog_1_method_47_code
def yX7_isCell : MethodName := ⟨RX7, "isCell", "(I)Z"⟩
abbrev cX7_isKnocks : ByteArray := prog_1_method_48_code
def yX7_isKnocks : MethodName := ⟨RX7, "isKnocks", "(I)Z"⟩
abbrev cX7_isNotLost : ByteArray := prog_1_method_49_code
def yX7_isNotLost : MethodName := ⟨RX7, "isNotLost", "(II)Z"⟩
abbrev cX7_deed : ByteArray := prog_1_method_50_code
def yX7_deed : MethodName := ⟨RX7, "deed", "(III)I"⟩
abbrev cX7_act : ByteArray := prog_1_method_51_code
def yX7_act : MethodName := ⟨RX7, "act", "(III)I"⟩
abbrev cX7_refusal : ByteArray := prog_1_method_52_code
def yX7_refusal : MethodName := ⟨RX7, "refusal", "(III)I"⟩
abbrev cX7_isObeyed : ByteArray := prog_1_method_53_code
def yX7_isObeyed : MethodName := ⟨RX7, "isObeyed", "(LDoorFleet$Text;I)Z"⟩
def RX8 : String := "DoorFleetModel"
def TX8 : u_T := fun k => match k with
  | 0 => ("DoorFleetModel", "thrown", "I", false)
  | 1 => ("DoorFleetModel", "status", "I", false)
  | 2 => ("DoorFleetModel", "refusals", "[I", true)
  | 3 => ("DoorFleetModel", "row", "[I", true)
  | 4 => ("DoorFleetModel", "images", "[I", true)
  | 5 => ("DoorFleetModel", "isKept", "[Z", true)
  | 6 => ("DoorFleetModel", "undos", "[I", true)
  | 7 => ("DoorFleetModel", "sorts", "[I", true)
  | 8 => ("DoorFleetModel", "nUndo", "I", false)
  | 9 => ("DoorFleetModel", "undosBefore", "[I", true)
  | 10 => ("DoorFleetModel", "sortsBefore", "[I", true)
  | 11 => ("DoorFleetModel", "foam", "I", false)
  | 12 => ("DoorFleetModel", "tape", "[I", true)
  | 13 => ("DoorFleetModel", "taped", "I", false)
  | 14 => ("DoorFleetModel", "from", "I", false)
  | 15 => ("DoorFleetModel", "to", "I", false)
  | 16 => ("DoorFleetModel", "sort", "I", false)
  | 17 => ("DoorFleetModel", "worth", "J", false)
  | 18 => ("DoorFleetModel", "fault", "I", false)
  | 19 => ("DoorFleetModel", "bad", "Z", false)
  | 20 => ("DoorFleetModel", "ordered", "Z", false)
  | 21 => ("DoorFleetModel", "nClauses", "I", false)
  | 22 => ("DoorFleetModel", "nClause", "[I", true)
  | 23 => ("DoorFleetModel", "nCode", "I", false)
  | 24 => ("DoorFleetModel", "nOp", "[I", true)
  | 25 => ("DoorFleetModel", "nArg", "[I", true)
  | 26 => ("DoorFleetModel", "nLeaves", "I", false)
  | 27 => ("DoorFleetModel", "pile", "[I", true)
  | 28 => ("DoorFleetModel", "pileAt", "[I", true)
  | 29 => ("DoorFleetModel", "piled", "I", false)
  | 30 => ("DoorFleetModel", "opened", "I", false)
  | 31 => ("DoorFleetModel", "words", "[J", true)
  | 32 => ("DoorFleetModel", "orderWords", "[J", true)
  | 33 => ("DoorFleetModel", "heads", "[J", true)
  | 34 => ("DoorFleetModel", "law", "I", false)
  | 35 => ("DoorFleetModel", "set", "[J", true)
  | 36 => ("DoorFleetModel", "now", "[J", true)
  | 37 => ("DoorFleetModel", "rest", "[J", true)
  | 38 => ("DoorFleetModel", "broken", "Z", false)
  | 39 => ("DoorFleetModel", "value", "J", false)
  | 40 => ("DoorFleetModel", "sum", "J", false)
  | 41 => ("DoorFleetModel", "canCatch", "[I", true)
  | 42 => ("DoorFleetModel", "most", "[I", true)
  | 43 => ("DoorFleetModel", "told", "[I", true)
  | 44 => ("DoorFleetModel", "tried", "[I", true)
  | 45 => ("DoorFleetModel", "bestRow", "[I", true)
  | 46 => ("DoorFleetModel", "shares", "[I", true)
  | 47 => ("DoorFleetModel", "rests", "[I", true)
  | 48 => ("DoorFleetModel", "acts", "[J", true)
  | 49 => ("DoorFleetModel", "nOrder", "[I", true)
  | 50 => ("DoorFleetModel", "done", "I", false)
  | 51 => ("DoorFleetModel", "latest", "I", false)
  | 52 => ("DoorFleetModel", "stopped", "I", false)
  | 53 => ("DoorFleetModel", "off", "Z", false)
  | 54 => ("DoorFleetModel", "state", "J", false)
  | 55 => ("DoorFleetModel", "drawn", "[I", true)
  | 56 => ("DoorFleetModel", "drawnFish", "[I", true)
  | _ => ("DoorFleetModel", "nDrawn", "I", false)
def tyX8 : Nat → FieldType := fun k => match k with
  | 0 => .int
  | 1 => .int
  | 2 => .array .int
  | 3 => .array .int
  | 4 => .array .int
  | 5 => .array .boolean
  | 6 => .array .int
  | 7 => .array .int
  | 8 => .int
  | 9 => .array .int
  | 10 => .array .int
  | 11 => .int
  | 12 => .array .int
  | 13 => .int
  | 14 => .int
  | 15 => .int
  | 16 => .int
  | 17 => .long
  | 18 => .int
  | 19 => .boolean
  | 20 => .boolean
  | 21 => .int
  | 22 => .array .int
  | 23 => .int
  | 24 => .array .int
  | 25 => .array .int
  | 26 => .int
  | 27 => .array .int
  | 28 => .array .int
  | 29 => .int
  | 30 => .int
  | 31 => .array .long
  | 32 => .array .long
  | 33 => .array .long
  | 34 => .int
  | 35 => .array .long
  | 36 => .array .long
  | 37 => .array .long
  | 38 => .boolean
  | 39 => .long
  | 40 => .long
  | 41 => .array .int
  | 42 => .array .int
  | 43 => .array .int
  | 44 => .array .int
  | 45 => .array .int
  | 46 => .array .int
  | 47 => .array .int
  | 48 => .array .long
  | 49 => .array .int
  | 50 => .int
  | 51 => .int
  | 52 => .int
  | 53 => .boolean
  | 54 => .long
  | 55 => .array .int
  | 56 => .array .int
  | _ => .int
theorem nmX8 : ∀ a, a < 58 → ∀ b, b < 58 → a ≠ b → (TX8 a).2.1 ≠ (TX8 b).2.1 := by decide +kernel
theorem tyX8_ok : ∀ k, k < 58 → parseFieldDescriptor (TX8 k).2.2.1 = some (tyX8 k) := by decide +kernel
abbrev cX8_init : ByteArray := prog_10_method_1_code
def yX8_init : MethodName := ⟨RX8, "<init>", "()V"⟩
abbrev cX8_in : ByteArray := prog_10_method_3_code
def yX8_in : MethodName := ⟨RX8, "in", "(JJJ)Z"⟩
abbrev cX8_is : ByteArray := prog_10_method_4_code
def yX8_is : MethodName := ⟨RX8, "is", "(II)Z"⟩
abbrev cX8_ones : ByteArray := prog_10_method_5_code
def yX8_ones : MethodName := ⟨RX8, "ones", "(I)I"⟩
abbrev cX8_within : ByteArray := prog_10_method_6_code
def yX8_within : MethodName := ⟨RX8, "within", "(JII)I"⟩
abbrev cX8_tell : ByteArray := prog_10_method_7_code
def yX8_tell : MethodName := ⟨RX8, "tell", "(I)I"⟩
abbrev cX8_change : ByteArray := prog_10_method_8_code
def yX8_change : MethodName := ⟨RX8, "change", "(II)I"⟩
abbrev cX8_settled : ByteArray := prog_10_method_9_code
def yX8_settled : MethodName := ⟨RX8, "settled", "(I)I"⟩
abbrev cX8_keepAll : ByteArray := prog_10_method_10_code
def yX8_keepAll : MethodName := ⟨RX8, "keepAll", "(I)V"⟩
abbrev cX8_putBack : ByteArray := prog_10_method_11_code
def yX8_putBack : MethodName := ⟨RX8, "putBack", "(I)V"⟩
abbrev cX8_remember : ByteArray := prog_10_method_12_code
def yX8_remember : MethodName := ⟨RX8, "remember", "(I)V"⟩
abbrev cX8_undo : ByteArray := prog_10_method_13_code
def yX8_undo : MethodName := ⟨RX8, "undo", "()I"⟩
abbrev cX8_image : ByteArray := prog_10_method_14_code
def yX8_image : MethodName := ⟨RX8, "image", "(I)I"⟩
abbrev cX8_back : ByteArray := prog_10_method_15_code
def yX8_back : MethodName := ⟨RX8, "back", "(I)I"⟩
abbrev cX8_isHouse : ByteArray := prog_10_method_16_code
def yX8_isHouse : MethodName := ⟨RX8, "isHouse", "(I)Z"⟩
abbrev cX8_isDoor : ByteArray := prog_10_method_17_code
def yX8_isDoor : MethodName := ⟨RX8, "isDoor", "(I)Z"⟩
abbrev cX8_isCell : ByteArray := prog_10_method_18_code
def yX8_isCell : MethodName := ⟨RX8, "isCell", "(I)Z"⟩
abbrev cX8_isAtSea : ByteArray := prog_10_method_19_code
def yX8_isAtSea : MethodName := ⟨RX8, "isAtSea", "(I)Z"⟩
abbrev cX8_doorOf : ByteArray := prog_10_method_20_code
def yX8_doorOf : MethodName := ⟨RX8, "doorOf", "(I)I"⟩
abbrev cX8_cellBy : ByteArray := prog_10_method_21_code
def yX8_cellBy : MethodName := ⟨RX8, "cellBy", "(II)I"⟩
abbrev cX8_house : ByteArray := prog_10_method_22_code
def yX8_house : MethodName := ⟨RX8, "house", "(I)I"⟩
abbrev cX8_door : ByteArray := prog_10_method_23_code
def yX8_door : MethodName := ⟨RX8, "door", "(IIII)I"⟩
abbrev cX8_of : ByteArray := prog_10_method_24_code
def yX8_of : MethodName := ⟨RX8, "of", "(II)I"⟩
abbrev cX8_frame : ByteArray := prog_10_method_25_code
def yX8_frame : MethodName := ⟨RX8, "frame", "(II)I"⟩
abbrev cX8_canBe : ByteArray := prog_10_method_26_code
def yX8_canBe : MethodName := ⟨RX8, "canBe", "(II)Z"⟩
abbrev cX8_put : ByteArray := prog_10_method_27_code
def yX8_put : MethodName := ⟨RX8, "put", "(III)I"⟩
abbrev cX8_at : ByteArray := prog_10_method_28_code
def yX8_at : MethodName := ⟨RX8, "at", "(II)I"⟩
abbrev cX8_asks : ByteArray := prog_10_method_29_code
def yX8_asks : MethodName := ⟨RX8, "asks", "(III)I"⟩
abbrev cX8_foe : ByteArray := prog_10_method_30_code
def yX8_foe : MethodName := ⟨RX8, "foe", "(I)I"⟩
abbrev cX8_peace : ByteArray := prog_10_method_31_code
def yX8_peace : MethodName := ⟨RX8, "peace", "()I"⟩
abbrev cX8_terms : ByteArray := prog_10_method_32_code
def yX8_terms : MethodName := ⟨RX8, "terms", "(II)I"⟩
abbrev cX8_row : ByteArray := prog_10_method_33_code
def yX8_row : MethodName := ⟨RX8, "row", "()I"⟩
abbrev cX8_foam : ByteArray := prog_10_method_34_code
def yX8_foam : MethodName := ⟨RX8, "foam", "()I"⟩
abbrev cX8_four : ByteArray := prog_10_method_35_code
def yX8_four : MethodName := ⟨RX8, "four", "(I)V"⟩
abbrev cX8_feed : ByteArray := prog_10_method_36_code
def yX8_feed : MethodName := ⟨RX8, "feed", "(IIIII)I"⟩
abbrev cX8_end : ByteArray := prog_10_method_37_code
def yX8_end : MethodName := ⟨RX8, "end", "(I)I"⟩
abbrev cX8_isSmall : ByteArray := prog_10_method_38_code
def yX8_isSmall : MethodName := ⟨RX8, "isSmall", "(I)Z"⟩
abbrev cX8_isDigit : ByteArray := prog_10_method_39_code
def yX8_isDigit : MethodName := ⟨RX8, "isDigit", "(I)Z"⟩
abbrev cX8_begin : ByteArray := prog_10_method_40_code
def yX8_begin : MethodName := ⟨RX8, "begin", "()V"⟩
abbrev cX8_next : ByteArray := prog_10_method_41_code
def yX8_next : MethodName := ⟨RX8, "next", "()V"⟩
abbrev cX8_isWord : ByteArray := prog_10_method_42_code
def yX8_isWord : MethodName := ⟨RX8, "isWord", "(J)Z"⟩
abbrev cX8_isSign : ByteArray := prog_10_method_43_code
def yX8_isSign : MethodName := ⟨RX8, "isSign", "(I)Z"⟩
abbrev cX8_must : ByteArray := prog_10_method_44_code
def yX8_must : MethodName := ⟨RX8, "must", "(Z)V"⟩
abbrev cX8_number : ByteArray := prog_10_method_45_code
def yX8_number : MethodName := ⟨RX8, "number", "(JJ)I"⟩
abbrev cX8_fault : ByteArray := prog_10_method_46_code
def yX8_fault : MethodName := ⟨RX8, "fault", "()I"⟩
abbrev cX8_emit : ByteArray := prog_10_method_47_code
def yX8_emit : MethodName := ⟨RX8, "emit", "(II)V"⟩
abbrev cX8_push : ByteArray := prog_10_method_48_code
def yX8_push : MethodName := ⟨RX8, "push", "(II)V"⟩
abbrev cX8_binds : ByteArray := prog_10_method_49_code
def yX8_binds : MethodName := ⟨RX8, "binds", "(I)I"⟩
abbrev cX8_settle : ByteArray := prog_10_method_50_code
def yX8_settle : MethodName := ⟨RX8, "settle", "(I)V"⟩
abbrev cX8_inner : ByteArray := prog_10_method_51_code
def yX8_inner : MethodName := ⟨RX8, "inner", "()I"⟩
abbrev cX8_isCompared : ByteArray := prog_10_method_52_code
def yX8_isCompared : MethodName := ⟨RX8, "isCompared", "()Z"⟩
abbrev cX8_partAt : ByteArray := prog_10_method_53_code
def yX8_partAt : MethodName := ⟨RX8, "partAt", "()I"⟩
abbrev cX8_orderPartAt : ByteArray := prog_10_method_54_code
def yX8_orderPartAt : MethodName := ⟨RX8, "orderPartAt", "()I"⟩
abbrev cX8_openBracket : ByteArray := prog_10_method_55_code
def yX8_openBracket : MethodName := ⟨RX8, "openBracket", "(I)V"⟩
abbrev cX8_leaf : ByteArray := prog_10_method_56_code
def yX8_leaf : MethodName := ⟨RX8, "leaf", "(ZII)V"⟩
abbrev cX8_readPart : ByteArray := prog_10_method_57_code
def yX8_readPart : MethodName := ⟨RX8, "readPart", "()I"⟩
abbrev cX8_readPlain : ByteArray := prog_10_method_58_code
def yX8_readPlain : MethodName := ⟨RX8, "readPlain", "()I"⟩
abbrev cX8_behindSum : ByteArray := prog_10_method_59_code
def yX8_behindSum : MethodName := ⟨RX8, "behindSum", "(Z)I"⟩
abbrev cX8_behindTest : ByteArray := prog_10_method_60_code
def yX8_behindTest : MethodName := ⟨RX8, "behindTest", "()I"⟩
abbrev cX8_readExpression : ByteArray := prog_10_method_61_code
def yX8_readExpression : MethodName := ⟨RX8, "readExpression", "(Z)V"⟩
abbrev cX8_beginText : ByteArray := prog_10_method_62_code
def yX8_beginText : MethodName := ⟨RX8, "beginText", "(Z)V"⟩
abbrev cX8_endText : ByteArray := prog_10_method_63_code
def yX8_endText : MethodName := ⟨RX8, "endText", "()V"⟩
abbrev cX8_readLaw : ByteArray := prog_10_method_64_code
def yX8_readLaw : MethodName := ⟨RX8, "readLaw", "()V"⟩
abbrev cX8_law : ByteArray := prog_10_method_65_code
def yX8_law : MethodName := ⟨RX8, "law", "()I"⟩
abbrev cX8_force : ByteArray := prog_10_method_66_code
def yX8_force : MethodName := ⟨RX8, "force", "(I)I"⟩
abbrev cX8_reckon : ByteArray := prog_10_method_67_code
def yX8_reckon : MethodName := ⟨RX8, "reckon", "(IJJ)J"⟩
abbrev cX8_reckonAll : ByteArray := prog_10_method_68_code
def yX8_reckonAll : MethodName := ⟨RX8, "reckonAll", "(II)V"⟩
abbrev cX8_isSo : ByteArray := prog_10_method_69_code
def yX8_isSo : MethodName := ⟨RX8, "isSo", "(I)Z"⟩
abbrev cX8_tells : ByteArray := prog_10_method_70_code
def yX8_tells : MethodName := ⟨RX8, "tells", "(IIIIIIJ)J"⟩
abbrev cX8_tellsFits : ByteArray := prog_10_method_71_code
def yX8_tellsFits : MethodName := ⟨RX8, "tellsFits", "()Z"⟩
abbrev cX8_catches : ByteArray := prog_10_method_72_code
def yX8_catches : MethodName := ⟨RX8, "catches", "(IIII)I"⟩
abbrev cX8_slams : ByteArray := prog_10_method_73_code
def yX8_slams : MethodName := ⟨RX8, "slams", "(II)I"⟩
abbrev cX8_fits : ByteArray := prog_10_method_74_code
def yX8_fits : MethodName := ⟨RX8, "fits", "(II)Z"⟩
abbrev cX8_isBarred : ByteArray := prog_10_method_75_code
def yX8_isBarred : MethodName := ⟨RX8, "isBarred", "(I)Z"⟩
abbrev cX8_launchNow : ByteArray := prog_10_method_76_code
def yX8_launchNow : MethodName := ⟨RX8, "launchNow", "(I)I"⟩
abbrev cX8_launch : ByteArray := prog_10_method_77_code
def yX8_launch : MethodName := ⟨RX8, "launch", "(I)I"⟩
abbrev cX8_sailNow : ByteArray := prog_10_method_78_code
def yX8_sailNow : MethodName := ⟨RX8, "sailNow", "(II)I"⟩
abbrev cX8_sail : ByteArray := prog_10_method_79_code
def yX8_sail : MethodName := ⟨RX8, "sail", "(II)I"⟩
abbrev cX8_fishIt : ByteArray := prog_10_method_80_code
def yX8_fishIt : MethodName := ⟨RX8, "fishIt", "(I)I"⟩
abbrev cX8_fishNow : ByteArray := prog_10_method_81_code
def yX8_fishNow : MethodName := ⟨RX8, "fishNow", "(I)I"⟩
abbrev cX8_fish : ByteArray := prog_10_method_82_code
def yX8_fish : MethodName := ⟨RX8, "fish", "(I)I"⟩
abbrev cX8_hangNow : ByteArray := prog_10_method_83_code
def yX8_hangNow : MethodName := ⟨RX8, "hangNow", "(II)I"⟩
abbrev cX8_hang : ByteArray := prog_10_method_84_code
def yX8_hang : MethodName := ⟨RX8, "hang", "(II)I"⟩
abbrev cX8_lose : ByteArray := prog_10_method_85_code
def yX8_lose : MethodName := ⟨RX8, "lose", "(I)V"⟩
abbrev cX8_tideIt : ByteArray := prog_10_method_86_code
def yX8_tideIt : MethodName := ⟨RX8, "tideIt", "()I"⟩
abbrev cX8_tideNow : ByteArray := prog_10_method_87_code
def yX8_tideNow : MethodName := ⟨RX8, "tideNow", "()I"⟩
abbrev cX8_tide : ByteArray := prog_10_method_88_code
def yX8_tide : MethodName := ⟨RX8, "tide", "()I"⟩
abbrev cX8_fleet : ByteArray := prog_10_method_89_code
def yX8_fleet : MethodName := ⟨RX8, "fleet", "(II)I"⟩
abbrev cX8_worthOf : ByteArray := prog_10_method_90_code
def yX8_worthOf : MethodName := ⟨RX8, "worthOf", "(ZII)I"⟩
abbrev cX8_layMost : ByteArray := prog_10_method_91_code
def yX8_layMost : MethodName := ⟨RX8, "layMost", "(Z)V"⟩
abbrev cX8_rowAt : ByteArray := prog_10_method_92_code
def yX8_rowAt : MethodName := ⟨RX8, "rowAt", "(ZI)I"⟩
abbrev cX8_hanging : ByteArray := prog_10_method_93_code
def yX8_hanging : MethodName := ⟨RX8, "hanging", "(I)I"⟩
abbrev cX8_battle : ByteArray := prog_10_method_94_code
def yX8_battle : MethodName := ⟨RX8, "battle", "(I)I"⟩
abbrev cX8_leadsRing : ByteArray := prog_10_method_95_code
def yX8_leadsRing : MethodName := ⟨RX8, "leadsRing", "(I)Z"⟩
abbrev cX8_right : ByteArray := prog_10_method_96_code
def yX8_right : MethodName := ⟨RX8, "right", "()I"⟩
abbrev cX8_heard : ByteArray := prog_10_method_97_code
def yX8_heard : MethodName := ⟨RX8, "heard", "(II)I"⟩
abbrev cX8_knock : ByteArray := prog_10_method_98_code
def yX8_knock : MethodName := ⟨RX8, "knock", "(I)I"⟩
abbrev cX8_wreck : ByteArray := prog_10_method_99_code
def yX8_wreck : MethodName := ⟨RX8, "wreck", "(II)I"⟩
abbrev cX8_steps : ByteArray := prog_10_method_100_code
def yX8_steps : MethodName := ⟨RX8, "steps", "(II)I"⟩
abbrev cX8_isFresh : ByteArray := prog_10_method_101_code
def yX8_isFresh : MethodName := ⟨RX8, "isFresh", "(I)Z"⟩
abbrev cX8_stepsOf : ByteArray := prog_10_method_102_code
def yX8_stepsOf : MethodName := ⟨RX8, "stepsOf", "(I)I"⟩
abbrev cX8_findSearch : ByteArray := prog_10_method_103_code
def yX8_findSearch : MethodName := ⟨RX8, "findSearch", "(I)I"⟩
abbrev cX8_search : ByteArray := prog_10_method_104_code
def yX8_search : MethodName := ⟨RX8, "search", "(II)I"⟩
abbrev cX8_afloat : ByteArray := prog_10_method_105_code
def yX8_afloat : MethodName := ⟨RX8, "afloat", "(II)J"⟩
abbrev cX8_guards : ByteArray := prog_10_method_106_code
def yX8_guards : MethodName := ⟨RX8, "guards", "(I)I"⟩
abbrev cX8_share : ByteArray := prog_10_method_107_code
def yX8_share : MethodName := ⟨RX8, "share", "(II)I"⟩
abbrev cX8_readSum : ByteArray := prog_10_method_108_code
def yX8_readSum : MethodName := ⟨RX8, "readSum", "(I)V"⟩
abbrev cX8_readOrder : ByteArray := prog_10_method_109_code
def yX8_readOrder : MethodName := ⟨RX8, "readOrder", "()V"⟩
abbrev cX8_sumOf : ByteArray := prog_10_method_110_code
def yX8_sumOf : MethodName := ⟨RX8, "sumOf", "(I)I"⟩
abbrev cX8_openHouses : ByteArray := prog_10_method_111_code
def yX8_openHouses : MethodName := ⟨RX8, "openHouses", "()I"⟩
abbrev cX8_act : ByteArray := prog_10_method_112_code
def yX8_act : MethodName := ⟨RX8, "act", "(III)I"⟩
abbrev cX8_run : ByteArray := prog_10_method_113_code
def yX8_run : MethodName := ⟨RX8, "run", "(I)I"⟩
abbrev cX8_orders : ByteArray := prog_10_method_114_code
def yX8_orders : MethodName := ⟨RX8, "orders", "()I"⟩
abbrev cX8_giveBack : ByteArray := prog_10_method_115_code
def yX8_giveBack : MethodName := ⟨RX8, "giveBack", "(I)V"⟩
abbrev cX8_stopped : ByteArray := prog_10_method_116_code
def yX8_stopped : MethodName := ⟨RX8, "stopped", "()I"⟩
abbrev cX8_draw : ByteArray := prog_10_method_117_code
def yX8_draw : MethodName := ⟨RX8, "draw", "(I)I"⟩
abbrev cX8_summers : ByteArray := prog_10_method_118_code
def yX8_summers : MethodName := ⟨RX8, "summers", "(II)I"⟩
abbrev cX8_drawn : ByteArray := prog_10_method_119_code
def yX8_drawn : MethodName := ⟨RX8, "drawn", "(II)I"⟩
abbrev cX8_lostDoors : ByteArray := prog_10_method_120_code
def yX8_lostDoors : MethodName := ⟨RX8, "lostDoors", "()I"⟩
abbrev cX8_count : ByteArray := prog_10_method_121_code
def yX8_count : MethodName := ⟨RX8, "count", "(I)I"⟩
abbrev cX8_status : ByteArray := prog_10_method_122_code
def yX8_status : MethodName := ⟨RX8, "status", "()I"⟩
def RJx145de : String := "java/io/Serializable"
def RJx9f9b0 : String := "java/lang/CharSequence"
def RJx8e188 : String := "java/lang/Cloneable"
def RJxb160c : String := "java/lang/Comparable"
def RJ6 : String := "java/lang/Integer"
abbrev cJ6_bitCount_0f7a4 : ByteArray := prog_12_method_49_code
def yJ6_bitCount_0f7a4 : MethodName := ⟨RJ6, "bitCount", "(I)I"⟩
def RJ9 : String := "java/lang/Math"
abbrev cJ9_abs_0f7a4 : ByteArray := prog_13_method_59_code
def yJ9_abs_0f7a4 : MethodName := ⟨RJ9, "abs", "(I)I"⟩
abbrev cJ9_max_7cf53 : ByteArray := prog_13_method_65_code
def yJ9_max_7cf53 : MethodName := ⟨RJ9, "max", "(II)I"⟩
abbrev cJ9_min_7cf53 : ByteArray := prog_13_method_69_code
def yJ9_min_7cf53 : MethodName := ⟨RJ9, "min", "(II)I"⟩
def RJ0 : String := "java/lang/String"
abbrev cJ0_length_8abf5 : ByteArray := prog_14_method_54_code
def yJ0_length_8abf5 : MethodName := ⟨RJ0, "length", "()I"⟩
abbrev cJ0_charAt_5068e : ByteArray := prog_14_method_56_code
def yJ0_charAt_5068e : MethodName := ⟨RJ0, "charAt", "(I)C"⟩
abbrev cJ0_coder_7d493 : ByteArray := prog_14_method_152_code
def yJ0_coder_7d493 : MethodName := ⟨RJ0, "coder", "()B"⟩
abbrev cJ0_isLatin1_aae02 : ByteArray := prog_14_method_154_code
def yJ0_isLatin1_aae02 : MethodName := ⟨RJ0, "isLatin1", "()Z"⟩
abbrev cJ0_checkIndex_df160 : ByteArray := prog_14_method_155_code
def yJ0_checkIndex_df160 : MethodName := ⟨RJ0, "checkIndex", "(II)V"⟩
def RJ1 : String := "java/lang/StringLatin1"
abbrev cJ1_charAt_3b067 : ByteArray := prog_15_method_2_code
def yJ1_charAt_3b067 : MethodName := ⟨RJ1, "charAt", "([BI)C"⟩
def RJ2 : String := "java/lang/StringUTF16"
abbrev cJ2_getChar_3b067 : ByteArray := prog_16_method_5_code
def yJ2_getChar_3b067 : MethodName := ⟨RJ2, "getChar", "([BI)C"⟩
abbrev cJ2_length_9d52b : ByteArray := prog_16_method_6_code
def yJ2_length_9d52b : MethodName := ⟨RJ2, "length", "([B)I"⟩
abbrev cJ2_charAt_3b067 : ByteArray := prog_16_method_83_code
def yJ2_charAt_3b067 : MethodName := ⟨RJ2, "charAt", "([BI)C"⟩
abbrev cJ2_checkIndex_2214a : ByteArray := prog_16_method_91_code
def yJ2_checkIndex_2214a : MethodName := ⟨RJ2, "checkIndex", "(I[B)V"⟩
def RJ10 : String := "java/lang/System"
def RJxfd54e : String := "java/lang/constant/Constable"
def RJx3cf43 : String := "java/lang/constant/ConstantDesc"
def RJ7 : String := "java/util/Arrays"
abbrev cJ7_fill_53178 : ByteArray := prog_18_method_103_code
def yJ7_fill_53178 : MethodName := ⟨RJ7, "fill", "([II)V"⟩
abbrev cJ7_copyOf_59c91 : ByteArray := prog_18_method_123_code
def yJ7_copyOf_59c91 : MethodName := ⟨RJ7, "copyOf", "([II)[I"⟩
def RJ3 : String := "jdk/internal/util/Preconditions"
abbrev cJ3_checkIndex_8e157 : ByteArray := prog_19_method_11_code
def yJ3_checkIndex_8e157 : MethodName := ⟨RJ3, "checkIndex", "(IILjava/util/function/BiFunction;)I"⟩
def RL : String := "DoorFleetLaw"
abbrev cL_law : ByteArray := code
def yL_law : MethodName := ⟨RL, "law", "([I)Z"⟩
abbrev vwCl : List vw_C := [(RX0, TX0, 19), (RX1, TX1, 2), (RX2, TX2, 6), (RX3, TX3, 10), (RX4, TX4, 2), (RX5, TX5, 4), (RX6, TX6, 2), (RX7, TX7, 17), (RX8, TX8, 58)]
