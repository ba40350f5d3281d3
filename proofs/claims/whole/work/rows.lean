section
-- ===== PART A: goes FIRST, ahead of the names: the tables' words, and 'selects' of the private methods out of them =====
/-- a private method of a class that the tables say can be made, by its rows of tables_1 -/
def lw_okq (q : MethodName × Nat) : Prop := (q.1.cls ≠ "java/lang/invoke/MethodHandle" ∧ q.1.cls ≠ "java/lang/invoke/VarHandle") ∧ Cond.instantiable q.1.cls q.2 ∈ tables_1 ∧ Cond.privateMethod q.1 ∈ tables_1 ∧ Cond.instanceMethod q.1 ∈ tables_1
theorem lw_p0 : lw_okq (⟨"OneMirror$Tape", "append", "(I)V"⟩, 10) := ⟨⟨by decide +kernel, by decide +kernel⟩, List.mem_of_getElem? (i := 30) (by decide +kernel), List.mem_of_getElem? (i := 348) (by decide +kernel), List.mem_of_getElem? (i := 349) (by decide +kernel)⟩
theorem lw_p1 : lw_okq (⟨"OneMirror$Isle", "clear", "()V"⟩, 15) := ⟨⟨by decide +kernel, by decide +kernel⟩, List.mem_of_getElem? (i := 110) (by decide +kernel), List.mem_of_getElem? (i := 363) (by decide +kernel), List.mem_of_getElem? (i := 364) (by decide +kernel)⟩
theorem lw_p2 : lw_okq (⟨"OneMirror$Rows", "cutTo", "(I)V"⟩, 4) := ⟨⟨by decide +kernel, by decide +kernel⟩, List.mem_of_getElem? (i := 116) (by decide +kernel), List.mem_of_getElem? (i := 367) (by decide +kernel), List.mem_of_getElem? (i := 368) (by decide +kernel)⟩
theorem lw_p3 : lw_okq (⟨"OneMirror$Tape", "scan", "()V"⟩, 10) := ⟨⟨by decide +kernel, by decide +kernel⟩, List.mem_of_getElem? (i := 30) (by decide +kernel), List.mem_of_getElem? (i := 371) (by decide +kernel), List.mem_of_getElem? (i := 372) (by decide +kernel)⟩
theorem lw_p4 : lw_okq (⟨"OneMirror$Tape", "scanOne", "(I)I"⟩, 10) := ⟨⟨by decide +kernel, by decide +kernel⟩, List.mem_of_getElem? (i := 30) (by decide +kernel), List.mem_of_getElem? (i := 375) (by decide +kernel), List.mem_of_getElem? (i := 376) (by decide +kernel)⟩
theorem lw_p5 : lw_okq (⟨"OneMirror$Tape", "byteAt", "(I)I"⟩, 10) := ⟨⟨by decide +kernel, by decide +kernel⟩, List.mem_of_getElem? (i := 30) (by decide +kernel), List.mem_of_getElem? (i := 379) (by decide +kernel), List.mem_of_getElem? (i := 380) (by decide +kernel)⟩
theorem lw_p6 : lw_okq (⟨"OneMirror$Tape", "scanNumber", "(I)I"⟩, 10) := ⟨⟨by decide +kernel, by decide +kernel⟩, List.mem_of_getElem? (i := 30) (by decide +kernel), List.mem_of_getElem? (i := 386) (by decide +kernel), List.mem_of_getElem? (i := 387) (by decide +kernel)⟩
theorem lw_p7 : lw_okq (⟨"OneMirror$Tape", "addToken", "(III)V"⟩, 10) := ⟨⟨by decide +kernel, by decide +kernel⟩, List.mem_of_getElem? (i := 30) (by decide +kernel), List.mem_of_getElem? (i := 390) (by decide +kernel), List.mem_of_getElem? (i := 391) (by decide +kernel)⟩
theorem lw_p8 : lw_okq (⟨"OneMirror$Tape", "scanWord", "(I)I"⟩, 10) := ⟨⟨by decide +kernel, by decide +kernel⟩, List.mem_of_getElem? (i := 30) (by decide +kernel), List.mem_of_getElem? (i := 397) (by decide +kernel), List.mem_of_getElem? (i := 398) (by decide +kernel)⟩
theorem lw_p9 : lw_okq (⟨"OneMirror$Tape", "wordOf", "(II)I"⟩, 10) := ⟨⟨by decide +kernel, by decide +kernel⟩, List.mem_of_getElem? (i := 30) (by decide +kernel), List.mem_of_getElem? (i := 401) (by decide +kernel), List.mem_of_getElem? (i := 402) (by decide +kernel)⟩
theorem lw_p10 : lw_okq (⟨"OneMirror$Tape", "isWordAt", "(III)Z"⟩, 10) := ⟨⟨by decide +kernel, by decide +kernel⟩, List.mem_of_getElem? (i := 30) (by decide +kernel), List.mem_of_getElem? (i := 454) (by decide +kernel), List.mem_of_getElem? (i := 455) (by decide +kernel)⟩
theorem lw_p11 : lw_okq (⟨"OneMirror$Tape", "refuse", "(I)V"⟩, 10) := ⟨⟨by decide +kernel, by decide +kernel⟩, List.mem_of_getElem? (i := 30) (by decide +kernel), List.mem_of_getElem? (i := 461) (by decide +kernel), List.mem_of_getElem? (i := 462) (by decide +kernel)⟩
theorem lw_p12 : lw_okq (⟨"OneMirror$Tape", "step", "()V"⟩, 10) := ⟨⟨by decide +kernel, by decide +kernel⟩, List.mem_of_getElem? (i := 30) (by decide +kernel), List.mem_of_getElem? (i := 465) (by decide +kernel), List.mem_of_getElem? (i := 466) (by decide +kernel)⟩
theorem lw_p13 : lw_okq (⟨"OneMirror$Tape", "takeNumber", "(II)I"⟩, 10) := ⟨⟨by decide +kernel, by decide +kernel⟩, List.mem_of_getElem? (i := 30) (by decide +kernel), List.mem_of_getElem? (i := 469) (by decide +kernel), List.mem_of_getElem? (i := 470) (by decide +kernel)⟩
theorem lw_p14 : lw_okq (⟨"OneMirror$Isle", "lastFace", "()I"⟩, 15) := ⟨⟨by decide +kernel, by decide +kernel⟩, List.mem_of_getElem? (i := 110) (by decide +kernel), List.mem_of_getElem? (i := 478) (by decide +kernel), List.mem_of_getElem? (i := 479) (by decide +kernel)⟩
theorem lw_p15 : lw_okq (⟨"OneMirror$Isle", "hasTwo", "(II)Z"⟩, 15) := ⟨⟨by decide +kernel, by decide +kernel⟩, List.mem_of_getElem? (i := 110) (by decide +kernel), List.mem_of_getElem? (i := 488) (by decide +kernel), List.mem_of_getElem? (i := 489) (by decide +kernel)⟩
def lw_privs_1 : List (MethodName × Nat) := [(⟨"OneMirror$Tape", "append", "(I)V"⟩, 10), (⟨"OneMirror$Isle", "clear", "()V"⟩, 15), (⟨"OneMirror$Rows", "cutTo", "(I)V"⟩, 4), (⟨"OneMirror$Tape", "scan", "()V"⟩, 10), (⟨"OneMirror$Tape", "scanOne", "(I)I"⟩, 10), (⟨"OneMirror$Tape", "byteAt", "(I)I"⟩, 10), (⟨"OneMirror$Tape", "scanNumber", "(I)I"⟩, 10), (⟨"OneMirror$Tape", "addToken", "(III)V"⟩, 10), (⟨"OneMirror$Tape", "scanWord", "(I)I"⟩, 10), (⟨"OneMirror$Tape", "wordOf", "(II)I"⟩, 10), (⟨"OneMirror$Tape", "isWordAt", "(III)Z"⟩, 10), (⟨"OneMirror$Tape", "refuse", "(I)V"⟩, 10), (⟨"OneMirror$Tape", "step", "()V"⟩, 10), (⟨"OneMirror$Tape", "takeNumber", "(II)I"⟩, 10), (⟨"OneMirror$Isle", "lastFace", "()I"⟩, 15), (⟨"OneMirror$Isle", "hasTwo", "(II)Z"⟩, 15)]
theorem lw_r1 : ∀ q ∈ lw_privs_1, lw_okq q := List.forall_mem_cons.mpr ⟨lw_p0, List.forall_mem_cons.mpr ⟨lw_p1, List.forall_mem_cons.mpr ⟨lw_p2, List.forall_mem_cons.mpr ⟨lw_p3, List.forall_mem_cons.mpr ⟨lw_p4, List.forall_mem_cons.mpr ⟨lw_p5, List.forall_mem_cons.mpr ⟨lw_p6, List.forall_mem_cons.mpr ⟨lw_p7, List.forall_mem_cons.mpr ⟨lw_p8, List.forall_mem_cons.mpr ⟨lw_p9, List.forall_mem_cons.mpr ⟨lw_p10, List.forall_mem_cons.mpr ⟨lw_p11, List.forall_mem_cons.mpr ⟨lw_p12, List.forall_mem_cons.mpr ⟨lw_p13, List.forall_mem_cons.mpr ⟨lw_p14, List.forall_mem_cons.mpr ⟨lw_p15, fun _ h => absurd h List.not_mem_nil⟩⟩⟩⟩⟩⟩⟩⟩⟩⟩⟩⟩⟩⟩⟩⟩
theorem lw_p16 : lw_okq (⟨"OneMirror$Isle", "has", "(I)Z"⟩, 15) := ⟨⟨by decide +kernel, by decide +kernel⟩, List.mem_of_getElem? (i := 110) (by decide +kernel), List.mem_of_getElem? (i := 492) (by decide +kernel), List.mem_of_getElem? (i := 493) (by decide +kernel)⟩
theorem lw_p17 : lw_okq (⟨"OneMirror$History", "forget", "()V"⟩, 3) := ⟨⟨by decide +kernel, by decide +kernel⟩, List.mem_of_getElem? (i := 222) (by decide +kernel), List.mem_of_getElem? (i := 499) (by decide +kernel), List.mem_of_getElem? (i := 500) (by decide +kernel)⟩
theorem lw_p18 : lw_okq (⟨"OneMirror$Rule", "clear", "()V"⟩, 8) := ⟨⟨by decide +kernel, by decide +kernel⟩, List.mem_of_getElem? (i := 76) (by decide +kernel), List.mem_of_getElem? (i := 511) (by decide +kernel), List.mem_of_getElem? (i := 512) (by decide +kernel)⟩
theorem lw_p19 : lw_okq (⟨"OneMirror$Rule", "addCode", "(I)V"⟩, 8) := ⟨⟨by decide +kernel, by decide +kernel⟩, List.mem_of_getElem? (i := 76) (by decide +kernel), List.mem_of_getElem? (i := 527) (by decide +kernel), List.mem_of_getElem? (i := 528) (by decide +kernel)⟩
theorem lw_p20 : lw_okq (⟨"OneMirror$Rule", "addClause", "(III)V"⟩, 8) := ⟨⟨by decide +kernel, by decide +kernel⟩, List.mem_of_getElem? (i := 76) (by decide +kernel), List.mem_of_getElem? (i := 543) (by decide +kernel), List.mem_of_getElem? (i := 544) (by decide +kernel)⟩
theorem lw_p21 : lw_okq (⟨"OneMirror", "isRuleOrNone", "(I)Z"⟩, 12) := ⟨⟨by decide +kernel, by decide +kernel⟩, List.mem_of_getElem? (i := 22) (by decide +kernel), List.mem_of_getElem? (i := 551) (by decide +kernel), List.mem_of_getElem? (i := 552) (by decide +kernel)⟩
theorem lw_p22 : lw_okq (⟨"OneMirror", "isRule", "(I)Z"⟩, 12) := ⟨⟨by decide +kernel, by decide +kernel⟩, List.mem_of_getElem? (i := 22) (by decide +kernel), List.mem_of_getElem? (i := 555) (by decide +kernel), List.mem_of_getElem? (i := 556) (by decide +kernel)⟩
theorem lw_p23 : lw_okq (⟨"OneMirror$Isle", "looksOf", "(I)I"⟩, 15) := ⟨⟨by decide +kernel, by decide +kernel⟩, List.mem_of_getElem? (i := 110) (by decide +kernel), List.mem_of_getElem? (i := 564) (by decide +kernel), List.mem_of_getElem? (i := 565) (by decide +kernel)⟩
theorem lw_p24 : lw_okq (⟨"OneMirror$Isle", "isLook", "(I)Z"⟩, 15) := ⟨⟨by decide +kernel, by decide +kernel⟩, List.mem_of_getElem? (i := 110) (by decide +kernel), List.mem_of_getElem? (i := 568) (by decide +kernel), List.mem_of_getElem? (i := 569) (by decide +kernel)⟩
theorem lw_p25 : lw_okq (⟨"OneMirror$Rows", "at", "(II)I"⟩, 4) := ⟨⟨by decide +kernel, by decide +kernel⟩, List.mem_of_getElem? (i := 116) (by decide +kernel), List.mem_of_getElem? (i := 572) (by decide +kernel), List.mem_of_getElem? (i := 573) (by decide +kernel)⟩
theorem lw_p26 : lw_okq (⟨"OneMirror$Rows", "has", "(I)Z"⟩, 4) := ⟨⟨by decide +kernel, by decide +kernel⟩, List.mem_of_getElem? (i := 116) (by decide +kernel), List.mem_of_getElem? (i := 576) (by decide +kernel), List.mem_of_getElem? (i := 577) (by decide +kernel)⟩
theorem lw_p27 : lw_okq (⟨"OneMirror", "inForce", "()LOneMirror$Rule;"⟩, 12) := ⟨⟨by decide +kernel, by decide +kernel⟩, List.mem_of_getElem? (i := 22) (by decide +kernel), List.mem_of_getElem? (i := 580) (by decide +kernel), List.mem_of_getElem? (i := 581) (by decide +kernel)⟩
theorem lw_p28 : lw_okq (⟨"OneMirror", "ruleAt", "(I)LOneMirror$Rule;"⟩, 12) := ⟨⟨by decide +kernel, by decide +kernel⟩, List.mem_of_getElem? (i := 22) (by decide +kernel), List.mem_of_getElem? (i := 584) (by decide +kernel), List.mem_of_getElem? (i := 585) (by decide +kernel)⟩
theorem lw_p29 : lw_okq (⟨"OneMirror$Mind", "believed", "(LOneMirror$Isle;LOneMirror$Rule;I)I"⟩, 2) := ⟨⟨by decide +kernel, by decide +kernel⟩, List.mem_of_getElem? (i := 240) (by decide +kernel), List.mem_of_getElem? (i := 588) (by decide +kernel), List.mem_of_getElem? (i := 589) (by decide +kernel)⟩
theorem lw_p30 : lw_okq (⟨"OneMirror$Mind", "addUp", "(LOneMirror$Isle;LOneMirror$Rule;I)V"⟩, 2) := ⟨⟨by decide +kernel, by decide +kernel⟩, List.mem_of_getElem? (i := 240) (by decide +kernel), List.mem_of_getElem? (i := 592) (by decide +kernel), List.mem_of_getElem? (i := 593) (by decide +kernel)⟩
theorem lw_p31 : lw_okq (⟨"OneMirror$Mind", "clearSums", "()V"⟩, 2) := ⟨⟨by decide +kernel, by decide +kernel⟩, List.mem_of_getElem? (i := 240) (by decide +kernel), List.mem_of_getElem? (i := 596) (by decide +kernel), List.mem_of_getElem? (i := 597) (by decide +kernel)⟩
def lw_privs_2 : List (MethodName × Nat) := [(⟨"OneMirror$Isle", "has", "(I)Z"⟩, 15), (⟨"OneMirror$History", "forget", "()V"⟩, 3), (⟨"OneMirror$Rule", "clear", "()V"⟩, 8), (⟨"OneMirror$Rule", "addCode", "(I)V"⟩, 8), (⟨"OneMirror$Rule", "addClause", "(III)V"⟩, 8), (⟨"OneMirror", "isRuleOrNone", "(I)Z"⟩, 12), (⟨"OneMirror", "isRule", "(I)Z"⟩, 12), (⟨"OneMirror$Isle", "looksOf", "(I)I"⟩, 15), (⟨"OneMirror$Isle", "isLook", "(I)Z"⟩, 15), (⟨"OneMirror$Rows", "at", "(II)I"⟩, 4), (⟨"OneMirror$Rows", "has", "(I)Z"⟩, 4), (⟨"OneMirror", "inForce", "()LOneMirror$Rule;"⟩, 12), (⟨"OneMirror", "ruleAt", "(I)LOneMirror$Rule;"⟩, 12), (⟨"OneMirror$Mind", "believed", "(LOneMirror$Isle;LOneMirror$Rule;I)I"⟩, 2), (⟨"OneMirror$Mind", "addUp", "(LOneMirror$Isle;LOneMirror$Rule;I)V"⟩, 2), (⟨"OneMirror$Mind", "clearSums", "()V"⟩, 2)]
theorem lw_r2 : ∀ q ∈ lw_privs_2, lw_okq q := List.forall_mem_cons.mpr ⟨lw_p16, List.forall_mem_cons.mpr ⟨lw_p17, List.forall_mem_cons.mpr ⟨lw_p18, List.forall_mem_cons.mpr ⟨lw_p19, List.forall_mem_cons.mpr ⟨lw_p20, List.forall_mem_cons.mpr ⟨lw_p21, List.forall_mem_cons.mpr ⟨lw_p22, List.forall_mem_cons.mpr ⟨lw_p23, List.forall_mem_cons.mpr ⟨lw_p24, List.forall_mem_cons.mpr ⟨lw_p25, List.forall_mem_cons.mpr ⟨lw_p26, List.forall_mem_cons.mpr ⟨lw_p27, List.forall_mem_cons.mpr ⟨lw_p28, List.forall_mem_cons.mpr ⟨lw_p29, List.forall_mem_cons.mpr ⟨lw_p30, List.forall_mem_cons.mpr ⟨lw_p31, fun _ h => absurd h List.not_mem_nil⟩⟩⟩⟩⟩⟩⟩⟩⟩⟩⟩⟩⟩⟩⟩⟩
theorem lw_p32 : lw_okq (⟨"OneMirror$Mind", "weightOf", "(LOneMirror$Isle;LOneMirror$Rule;I)I"⟩, 2) := ⟨⟨by decide +kernel, by decide +kernel⟩, List.mem_of_getElem? (i := 240) (by decide +kernel), List.mem_of_getElem? (i := 601) (by decide +kernel), List.mem_of_getElem? (i := 602) (by decide +kernel)⟩
theorem lw_p33 : lw_okq (⟨"OneMirror$Scene", "setAs", "(LOneMirror$Isle;I)V"⟩, 2) := ⟨⟨by decide +kernel, by decide +kernel⟩, List.mem_of_getElem? (i := 246) (by decide +kernel), List.mem_of_getElem? (i := 605) (by decide +kernel), List.mem_of_getElem? (i := 606) (by decide +kernel)⟩
theorem lw_p34 : lw_okq (⟨"OneMirror$Scene", "set", "(LOneMirror$Isle;IIII)V"⟩, 2) := ⟨⟨by decide +kernel, by decide +kernel⟩, List.mem_of_getElem? (i := 246) (by decide +kernel), List.mem_of_getElem? (i := 610) (by decide +kernel), List.mem_of_getElem? (i := 611) (by decide +kernel)⟩
theorem lw_p35 : lw_okq (⟨"OneMirror$Isle", "heed", "(II)I"⟩, 15) := ⟨⟨by decide +kernel, by decide +kernel⟩, List.mem_of_getElem? (i := 110) (by decide +kernel), List.mem_of_getElem? (i := 614) (by decide +kernel), List.mem_of_getElem? (i := 615) (by decide +kernel)⟩
theorem lw_p36 : lw_okq (⟨"OneMirror$Rule", "chosen", "(ILOneMirror$Scene;II)I"⟩, 8) := ⟨⟨by decide +kernel, by decide +kernel⟩, List.mem_of_getElem? (i := 76) (by decide +kernel), List.mem_of_getElem? (i := 619) (by decide +kernel), List.mem_of_getElem? (i := 620) (by decide +kernel)⟩
theorem lw_p37 : lw_okq (⟨"OneMirror$Rule", "reckoned", "(IILOneMirror$Scene;)J"⟩, 8) := ⟨⟨by decide +kernel, by decide +kernel⟩, List.mem_of_getElem? (i := 76) (by decide +kernel), List.mem_of_getElem? (i := 623) (by decide +kernel), List.mem_of_getElem? (i := 624) (by decide +kernel)⟩
theorem lw_p38 : lw_okq (⟨"OneMirror$Mind", "addFace", "(LOneMirror$Isle;II)V"⟩, 2) := ⟨⟨by decide +kernel, by decide +kernel⟩, List.mem_of_getElem? (i := 240) (by decide +kernel), List.mem_of_getElem? (i := 639) (by decide +kernel), List.mem_of_getElem? (i := 640) (by decide +kernel)⟩
theorem lw_p39 : lw_okq (⟨"OneMirror$Mind", "marksAbove", "(LOneMirror$Isle;)I"⟩, 2) := ⟨⟨by decide +kernel, by decide +kernel⟩, List.mem_of_getElem? (i := 240) (by decide +kernel), List.mem_of_getElem? (i := 643) (by decide +kernel), List.mem_of_getElem? (i := 644) (by decide +kernel)⟩
theorem lw_p40 : lw_okq (⟨"OneMirror$Mind", "open", "(LOneMirror$Isle;LOneMirror$Rule;I)I"⟩, 2) := ⟨⟨by decide +kernel, by decide +kernel⟩, List.mem_of_getElem? (i := 240) (by decide +kernel), List.mem_of_getElem? (i := 647) (by decide +kernel), List.mem_of_getElem? (i := 648) (by decide +kernel)⟩
theorem lw_p41 : lw_okq (⟨"OneMirror$Mind", "marksEven", "(LOneMirror$Isle;)I"⟩, 2) := ⟨⟨by decide +kernel, by decide +kernel⟩, List.mem_of_getElem? (i := 240) (by decide +kernel), List.mem_of_getElem? (i := 651) (by decide +kernel), List.mem_of_getElem? (i := 652) (by decide +kernel)⟩
theorem lw_p42 : lw_okq (⟨"OneMirror$Isle", "hasMark", "(I)Z"⟩, 15) := ⟨⟨by decide +kernel, by decide +kernel⟩, List.mem_of_getElem? (i := 110) (by decide +kernel), List.mem_of_getElem? (i := 659) (by decide +kernel), List.mem_of_getElem? (i := 660) (by decide +kernel)⟩
theorem lw_p43 : lw_okq (⟨"OneMirror", "canTell", "()Z"⟩, 12) := ⟨⟨by decide +kernel, by decide +kernel⟩, List.mem_of_getElem? (i := 22) (by decide +kernel), List.mem_of_getElem? (i := 682) (by decide +kernel), List.mem_of_getElem? (i := 683) (by decide +kernel)⟩
theorem lw_p44 : lw_okq (⟨"OneMirror", "canAct", "()Z"⟩, 12) := ⟨⟨by decide +kernel, by decide +kernel⟩, List.mem_of_getElem? (i := 22) (by decide +kernel), List.mem_of_getElem? (i := 686) (by decide +kernel), List.mem_of_getElem? (i := 687) (by decide +kernel)⟩
theorem lw_p45 : lw_okq (⟨"OneMirror$Rows", "isFull", "()Z"⟩, 4) := ⟨⟨by decide +kernel, by decide +kernel⟩, List.mem_of_getElem? (i := 116) (by decide +kernel), List.mem_of_getElem? (i := 690) (by decide +kernel), List.mem_of_getElem? (i := 691) (by decide +kernel)⟩
theorem lw_p46 : lw_okq (⟨"OneMirror$Isle", "faceOf", "(I)I"⟩, 15) := ⟨⟨by decide +kernel, by decide +kernel⟩, List.mem_of_getElem? (i := 110) (by decide +kernel), List.mem_of_getElem? (i := 694) (by decide +kernel), List.mem_of_getElem? (i := 695) (by decide +kernel)⟩
theorem lw_p47 : lw_okq (⟨"OneMirror$Mind", "told", "(LOneMirror$Isle;LOneMirror$Rule;IIII)I"⟩, 2) := ⟨⟨by decide +kernel, by decide +kernel⟩, List.mem_of_getElem? (i := 240) (by decide +kernel), List.mem_of_getElem? (i := 698) (by decide +kernel), List.mem_of_getElem? (i := 699) (by decide +kernel)⟩
def lw_privs_3 : List (MethodName × Nat) := [(⟨"OneMirror$Mind", "weightOf", "(LOneMirror$Isle;LOneMirror$Rule;I)I"⟩, 2), (⟨"OneMirror$Scene", "setAs", "(LOneMirror$Isle;I)V"⟩, 2), (⟨"OneMirror$Scene", "set", "(LOneMirror$Isle;IIII)V"⟩, 2), (⟨"OneMirror$Isle", "heed", "(II)I"⟩, 15), (⟨"OneMirror$Rule", "chosen", "(ILOneMirror$Scene;II)I"⟩, 8), (⟨"OneMirror$Rule", "reckoned", "(IILOneMirror$Scene;)J"⟩, 8), (⟨"OneMirror$Mind", "addFace", "(LOneMirror$Isle;II)V"⟩, 2), (⟨"OneMirror$Mind", "marksAbove", "(LOneMirror$Isle;)I"⟩, 2), (⟨"OneMirror$Mind", "open", "(LOneMirror$Isle;LOneMirror$Rule;I)I"⟩, 2), (⟨"OneMirror$Mind", "marksEven", "(LOneMirror$Isle;)I"⟩, 2), (⟨"OneMirror$Isle", "hasMark", "(I)Z"⟩, 15), (⟨"OneMirror", "canTell", "()Z"⟩, 12), (⟨"OneMirror", "canAct", "()Z"⟩, 12), (⟨"OneMirror$Rows", "isFull", "()Z"⟩, 4), (⟨"OneMirror$Isle", "faceOf", "(I)I"⟩, 15), (⟨"OneMirror$Mind", "told", "(LOneMirror$Isle;LOneMirror$Rule;IIII)I"⟩, 2)]
theorem lw_r3 : ∀ q ∈ lw_privs_3, lw_okq q := List.forall_mem_cons.mpr ⟨lw_p32, List.forall_mem_cons.mpr ⟨lw_p33, List.forall_mem_cons.mpr ⟨lw_p34, List.forall_mem_cons.mpr ⟨lw_p35, List.forall_mem_cons.mpr ⟨lw_p36, List.forall_mem_cons.mpr ⟨lw_p37, List.forall_mem_cons.mpr ⟨lw_p38, List.forall_mem_cons.mpr ⟨lw_p39, List.forall_mem_cons.mpr ⟨lw_p40, List.forall_mem_cons.mpr ⟨lw_p41, List.forall_mem_cons.mpr ⟨lw_p42, List.forall_mem_cons.mpr ⟨lw_p43, List.forall_mem_cons.mpr ⟨lw_p44, List.forall_mem_cons.mpr ⟨lw_p45, List.forall_mem_cons.mpr ⟨lw_p46, List.forall_mem_cons.mpr ⟨lw_p47, fun _ h => absurd h List.not_mem_nil⟩⟩⟩⟩⟩⟩⟩⟩⟩⟩⟩⟩⟩⟩⟩⟩
theorem lw_p48 : lw_okq (⟨"OneMirror$History", "remember", "(LOneMirror$Isle;)V"⟩, 3) := ⟨⟨by decide +kernel, by decide +kernel⟩, List.mem_of_getElem? (i := 222) (by decide +kernel), List.mem_of_getElem? (i := 704) (by decide +kernel), List.mem_of_getElem? (i := 705) (by decide +kernel)⟩
theorem lw_p49 : lw_okq (⟨"OneMirror$History", "startOfNewest", "()I"⟩, 3) := ⟨⟨by decide +kernel, by decide +kernel⟩, List.mem_of_getElem? (i := 222) (by decide +kernel), List.mem_of_getElem? (i := 714) (by decide +kernel), List.mem_of_getElem? (i := 715) (by decide +kernel)⟩
theorem lw_p50 : lw_okq (⟨"OneMirror$Isle", "addTelling", "(IIIII)V"⟩, 15) := ⟨⟨by decide +kernel, by decide +kernel⟩, List.mem_of_getElem? (i := 110) (by decide +kernel), List.mem_of_getElem? (i := 721) (by decide +kernel), List.mem_of_getElem? (i := 722) (by decide +kernel)⟩
theorem lw_p51 : lw_okq (⟨"OneMirror$Rows", "addRow", "()V"⟩, 4) := ⟨⟨by decide +kernel, by decide +kernel⟩, List.mem_of_getElem? (i := 116) (by decide +kernel), List.mem_of_getElem? (i := 725) (by decide +kernel), List.mem_of_getElem? (i := 726) (by decide +kernel)⟩
theorem lw_p52 : lw_okq (⟨"OneMirror$Rows", "put", "(II)V"⟩, 4) := ⟨⟨by decide +kernel, by decide +kernel⟩, List.mem_of_getElem? (i := 116) (by decide +kernel), List.mem_of_getElem? (i := 729) (by decide +kernel), List.mem_of_getElem? (i := 730) (by decide +kernel)⟩
theorem lw_p53 : lw_okq (⟨"OneMirror$Isle", "isFace", "(I)Z"⟩, 15) := ⟨⟨by decide +kernel, by decide +kernel⟩, List.mem_of_getElem? (i := 110) (by decide +kernel), List.mem_of_getElem? (i := 737) (by decide +kernel), List.mem_of_getElem? (i := 738) (by decide +kernel)⟩
theorem lw_p54 : lw_okq (⟨"OneMirror$Isle", "addLook", "()V"⟩, 15) := ⟨⟨by decide +kernel, by decide +kernel⟩, List.mem_of_getElem? (i := 110) (by decide +kernel), List.mem_of_getElem? (i := 746) (by decide +kernel), List.mem_of_getElem? (i := 747) (by decide +kernel)⟩
theorem lw_p55 : lw_okq (⟨"OneMirror$Isle", "hasBoat", "(II)Z"⟩, 15) := ⟨⟨by decide +kernel, by decide +kernel⟩, List.mem_of_getElem? (i := 110) (by decide +kernel), List.mem_of_getElem? (i := 756) (by decide +kernel), List.mem_of_getElem? (i := 757) (by decide +kernel)⟩
theorem lw_p56 : lw_okq (⟨"OneMirror$History", "restore", "(LOneMirror$Isle;)V"⟩, 3) := ⟨⟨by decide +kernel, by decide +kernel⟩, List.mem_of_getElem? (i := 222) (by decide +kernel), List.mem_of_getElem? (i := 785) (by decide +kernel), List.mem_of_getElem? (i := 786) (by decide +kernel)⟩
theorem lw_p57 : lw_okq (⟨"OneMirror", "runHour", "(LOneMirror$Rule;)V"⟩, 12) := ⟨⟨by decide +kernel, by decide +kernel⟩, List.mem_of_getElem? (i := 22) (by decide +kernel), List.mem_of_getElem? (i := 795) (by decide +kernel), List.mem_of_getElem? (i := 796) (by decide +kernel)⟩
theorem lw_p58 : lw_okq (⟨"OneMirror$Isle", "lookers", "()I"⟩, 15) := ⟨⟨by decide +kernel, by decide +kernel⟩, List.mem_of_getElem? (i := 110) (by decide +kernel), List.mem_of_getElem? (i := 799) (by decide +kernel), List.mem_of_getElem? (i := 800) (by decide +kernel)⟩
theorem lw_p59 : lw_okq (⟨"OneMirror", "tellWhoHeedsMost", "(LOneMirror$Rule;)V"⟩, 12) := ⟨⟨by decide +kernel, by decide +kernel⟩, List.mem_of_getElem? (i := 22) (by decide +kernel), List.mem_of_getElem? (i := 803) (by decide +kernel), List.mem_of_getElem? (i := 804) (by decide +kernel)⟩
theorem lw_p60 : lw_okq (⟨"OneMirror$Isle", "whoHeedsMost", "(I)I"⟩, 15) := ⟨⟨by decide +kernel, by decide +kernel⟩, List.mem_of_getElem? (i := 110) (by decide +kernel), List.mem_of_getElem? (i := 807) (by decide +kernel), List.mem_of_getElem? (i := 808) (by decide +kernel)⟩
theorem lw_p61 : lw_okq (⟨"OneMirror$Isle", "nextToLook", "(I)I"⟩, 15) := ⟨⟨by decide +kernel, by decide +kernel⟩, List.mem_of_getElem? (i := 110) (by decide +kernel), List.mem_of_getElem? (i := 812) (by decide +kernel), List.mem_of_getElem? (i := 813) (by decide +kernel)⟩
theorem lw_p62 : lw_okq (⟨"OneMirror$Isle", "leanOf", "(I)I"⟩, 15) := ⟨⟨by decide +kernel, by decide +kernel⟩, List.mem_of_getElem? (i := 110) (by decide +kernel), List.mem_of_getElem? (i := 821) (by decide +kernel), List.mem_of_getElem? (i := 822) (by decide +kernel)⟩
theorem lw_p63 : lw_okq (⟨"OneMirror$Mind", "addLeans", "(LOneMirror$Isle;I)V"⟩, 2) := ⟨⟨by decide +kernel, by decide +kernel⟩, List.mem_of_getElem? (i := 240) (by decide +kernel), List.mem_of_getElem? (i := 835) (by decide +kernel), List.mem_of_getElem? (i := 836) (by decide +kernel)⟩
def lw_privs_4 : List (MethodName × Nat) := [(⟨"OneMirror$History", "remember", "(LOneMirror$Isle;)V"⟩, 3), (⟨"OneMirror$History", "startOfNewest", "()I"⟩, 3), (⟨"OneMirror$Isle", "addTelling", "(IIIII)V"⟩, 15), (⟨"OneMirror$Rows", "addRow", "()V"⟩, 4), (⟨"OneMirror$Rows", "put", "(II)V"⟩, 4), (⟨"OneMirror$Isle", "isFace", "(I)Z"⟩, 15), (⟨"OneMirror$Isle", "addLook", "()V"⟩, 15), (⟨"OneMirror$Isle", "hasBoat", "(II)Z"⟩, 15), (⟨"OneMirror$History", "restore", "(LOneMirror$Isle;)V"⟩, 3), (⟨"OneMirror", "runHour", "(LOneMirror$Rule;)V"⟩, 12), (⟨"OneMirror$Isle", "lookers", "()I"⟩, 15), (⟨"OneMirror", "tellWhoHeedsMost", "(LOneMirror$Rule;)V"⟩, 12), (⟨"OneMirror$Isle", "whoHeedsMost", "(I)I"⟩, 15), (⟨"OneMirror$Isle", "nextToLook", "(I)I"⟩, 15), (⟨"OneMirror$Isle", "leanOf", "(I)I"⟩, 15), (⟨"OneMirror$Mind", "addLeans", "(LOneMirror$Isle;I)V"⟩, 2)]
theorem lw_r4 : ∀ q ∈ lw_privs_4, lw_okq q := List.forall_mem_cons.mpr ⟨lw_p48, List.forall_mem_cons.mpr ⟨lw_p49, List.forall_mem_cons.mpr ⟨lw_p50, List.forall_mem_cons.mpr ⟨lw_p51, List.forall_mem_cons.mpr ⟨lw_p52, List.forall_mem_cons.mpr ⟨lw_p53, List.forall_mem_cons.mpr ⟨lw_p54, List.forall_mem_cons.mpr ⟨lw_p55, List.forall_mem_cons.mpr ⟨lw_p56, List.forall_mem_cons.mpr ⟨lw_p57, List.forall_mem_cons.mpr ⟨lw_p58, List.forall_mem_cons.mpr ⟨lw_p59, List.forall_mem_cons.mpr ⟨lw_p60, List.forall_mem_cons.mpr ⟨lw_p61, List.forall_mem_cons.mpr ⟨lw_p62, List.forall_mem_cons.mpr ⟨lw_p63, fun _ h => absurd h List.not_mem_nil⟩⟩⟩⟩⟩⟩⟩⟩⟩⟩⟩⟩⟩⟩⟩⟩
theorem lw_p64 : lw_okq (⟨"OneMirror$Isle", "flatteryOf", "(I)I"⟩, 15) := ⟨⟨by decide +kernel, by decide +kernel⟩, List.mem_of_getElem? (i := 110) (by decide +kernel), List.mem_of_getElem? (i := 846) (by decide +kernel), List.mem_of_getElem? (i := 847) (by decide +kernel)⟩
theorem lw_p65 : lw_okq (⟨"OneMirror$Isle", "flatterer", "()I"⟩, 15) := ⟨⟨by decide +kernel, by decide +kernel⟩, List.mem_of_getElem? (i := 110) (by decide +kernel), List.mem_of_getElem? (i := 850) (by decide +kernel), List.mem_of_getElem? (i := 851) (by decide +kernel)⟩
theorem lw_p66 : lw_okq (⟨"OneMirror$Mind", "marksTurnedBy", "(LOneMirror$Isle;LOneMirror$Rule;II)I"⟩, 2) := ⟨⟨by decide +kernel, by decide +kernel⟩, List.mem_of_getElem? (i := 240) (by decide +kernel), List.mem_of_getElem? (i := 859) (by decide +kernel), List.mem_of_getElem? (i := 860) (by decide +kernel)⟩
theorem lw_p67 : lw_okq (⟨"OneMirror$Isle", "firstOf", "(I)I"⟩, 15) := ⟨⟨by decide +kernel, by decide +kernel⟩, List.mem_of_getElem? (i := 110) (by decide +kernel), List.mem_of_getElem? (i := 870) (by decide +kernel), List.mem_of_getElem? (i := 871) (by decide +kernel)⟩
theorem lw_p68 : lw_okq (⟨"OneMirror$Isle", "slippedAt", "(II)I"⟩, 15) := ⟨⟨by decide +kernel, by decide +kernel⟩, List.mem_of_getElem? (i := 110) (by decide +kernel), List.mem_of_getElem? (i := 878) (by decide +kernel), List.mem_of_getElem? (i := 879) (by decide +kernel)⟩
theorem lw_p69 : lw_okq (⟨"OneMirror$Isle", "addWish", "(IIII)V"⟩, 15) := ⟨⟨by decide +kernel, by decide +kernel⟩, List.mem_of_getElem? (i := 110) (by decide +kernel), List.mem_of_getElem? (i := 887) (by decide +kernel), List.mem_of_getElem? (i := 888) (by decide +kernel)⟩
theorem lw_p70 : lw_okq (⟨"OneMirror$Rounds", "plan", "(LOneMirror$Isle;I)V"⟩, 5) := ⟨⟨by decide +kernel, by decide +kernel⟩, List.mem_of_getElem? (i := 270) (by decide +kernel), List.mem_of_getElem? (i := 895) (by decide +kernel), List.mem_of_getElem? (i := 896) (by decide +kernel)⟩
theorem lw_p71 : lw_okq (⟨"OneMirror$Rounds", "addWorths", "(LOneMirror$Isle;)V"⟩, 5) := ⟨⟨by decide +kernel, by decide +kernel⟩, List.mem_of_getElem? (i := 270) (by decide +kernel), List.mem_of_getElem? (i := 901) (by decide +kernel), List.mem_of_getElem? (i := 902) (by decide +kernel)⟩
theorem lw_p72 : lw_okq (⟨"OneMirror$Rounds", "gather", "(LOneMirror$Isle;IIZ)V"⟩, 5) := ⟨⟨by decide +kernel, by decide +kernel⟩, List.mem_of_getElem? (i := 270) (by decide +kernel), List.mem_of_getElem? (i := 906) (by decide +kernel), List.mem_of_getElem? (i := 907) (by decide +kernel)⟩
theorem lw_p73 : lw_okq (⟨"OneMirror$Rounds", "serve", "(II)V"⟩, 5) := ⟨⟨by decide +kernel, by decide +kernel⟩, List.mem_of_getElem? (i := 270) (by decide +kernel), List.mem_of_getElem? (i := 920) (by decide +kernel), List.mem_of_getElem? (i := 921) (by decide +kernel)⟩
theorem lw_p74 : lw_okq (⟨"OneMirror$Rounds", "serveWithinWords", "(II)V"⟩, 5) := ⟨⟨by decide +kernel, by decide +kernel⟩, List.mem_of_getElem? (i := 270) (by decide +kernel), List.mem_of_getElem? (i := 924) (by decide +kernel), List.mem_of_getElem? (i := 925) (by decide +kernel)⟩
theorem lw_p75 : lw_okq (⟨"OneMirror$Rounds", "serveByWords", "(II)V"⟩, 5) := ⟨⟨by decide +kernel, by decide +kernel⟩, List.mem_of_getElem? (i := 270) (by decide +kernel), List.mem_of_getElem? (i := 931) (by decide +kernel), List.mem_of_getElem? (i := 932) (by decide +kernel)⟩
theorem lw_p76 : lw_okq (⟨"OneMirror$Rounds", "follow", "(LOneMirror$Isle;I)V"⟩, 5) := ⟨⟨by decide +kernel, by decide +kernel⟩, List.mem_of_getElem? (i := 270) (by decide +kernel), List.mem_of_getElem? (i := 935) (by decide +kernel), List.mem_of_getElem? (i := 936) (by decide +kernel)⟩
theorem lw_p77 : lw_okq (⟨"OneMirror$Rounds", "mostWith", "(II)I"⟩, 5) := ⟨⟨by decide +kernel, by decide +kernel⟩, List.mem_of_getElem? (i := 270) (by decide +kernel), List.mem_of_getElem? (i := 939) (by decide +kernel), List.mem_of_getElem? (i := 940) (by decide +kernel)⟩
theorem lw_p78 : lw_okq (⟨"OneMirror$Isle", "addView", "(II)V"⟩, 15) := ⟨⟨by decide +kernel, by decide +kernel⟩, List.mem_of_getElem? (i := 110) (by decide +kernel), List.mem_of_getElem? (i := 947) (by decide +kernel), List.mem_of_getElem? (i := 948) (by decide +kernel)⟩
theorem lw_p79 : lw_okq (⟨"OneMirror$Isle", "peopleFitting", "(I)I"⟩, 15) := ⟨⟨by decide +kernel, by decide +kernel⟩, List.mem_of_getElem? (i := 110) (by decide +kernel), List.mem_of_getElem? (i := 955) (by decide +kernel), List.mem_of_getElem? (i := 956) (by decide +kernel)⟩
def lw_privs_5 : List (MethodName × Nat) := [(⟨"OneMirror$Isle", "flatteryOf", "(I)I"⟩, 15), (⟨"OneMirror$Isle", "flatterer", "()I"⟩, 15), (⟨"OneMirror$Mind", "marksTurnedBy", "(LOneMirror$Isle;LOneMirror$Rule;II)I"⟩, 2), (⟨"OneMirror$Isle", "firstOf", "(I)I"⟩, 15), (⟨"OneMirror$Isle", "slippedAt", "(II)I"⟩, 15), (⟨"OneMirror$Isle", "addWish", "(IIII)V"⟩, 15), (⟨"OneMirror$Rounds", "plan", "(LOneMirror$Isle;I)V"⟩, 5), (⟨"OneMirror$Rounds", "addWorths", "(LOneMirror$Isle;)V"⟩, 5), (⟨"OneMirror$Rounds", "gather", "(LOneMirror$Isle;IIZ)V"⟩, 5), (⟨"OneMirror$Rounds", "serve", "(II)V"⟩, 5), (⟨"OneMirror$Rounds", "serveWithinWords", "(II)V"⟩, 5), (⟨"OneMirror$Rounds", "serveByWords", "(II)V"⟩, 5), (⟨"OneMirror$Rounds", "follow", "(LOneMirror$Isle;I)V"⟩, 5), (⟨"OneMirror$Rounds", "mostWith", "(II)I"⟩, 5), (⟨"OneMirror$Isle", "addView", "(II)V"⟩, 15), (⟨"OneMirror$Isle", "peopleFitting", "(I)I"⟩, 15)]
theorem lw_r5 : ∀ q ∈ lw_privs_5, lw_okq q := List.forall_mem_cons.mpr ⟨lw_p64, List.forall_mem_cons.mpr ⟨lw_p65, List.forall_mem_cons.mpr ⟨lw_p66, List.forall_mem_cons.mpr ⟨lw_p67, List.forall_mem_cons.mpr ⟨lw_p68, List.forall_mem_cons.mpr ⟨lw_p69, List.forall_mem_cons.mpr ⟨lw_p70, List.forall_mem_cons.mpr ⟨lw_p71, List.forall_mem_cons.mpr ⟨lw_p72, List.forall_mem_cons.mpr ⟨lw_p73, List.forall_mem_cons.mpr ⟨lw_p74, List.forall_mem_cons.mpr ⟨lw_p75, List.forall_mem_cons.mpr ⟨lw_p76, List.forall_mem_cons.mpr ⟨lw_p77, List.forall_mem_cons.mpr ⟨lw_p78, List.forall_mem_cons.mpr ⟨lw_p79, fun _ h => absurd h List.not_mem_nil⟩⟩⟩⟩⟩⟩⟩⟩⟩⟩⟩⟩⟩⟩⟩⟩
theorem lw_p80 : lw_okq (⟨"OneMirror$Isle", "canBeOf", "(II)Z"⟩, 15) := ⟨⟨by decide +kernel, by decide +kernel⟩, List.mem_of_getElem? (i := 110) (by decide +kernel), List.mem_of_getElem? (i := 959) (by decide +kernel), List.mem_of_getElem? (i := 960) (by decide +kernel)⟩
theorem lw_p81 : lw_okq (⟨"OneMirror$Faces", "fewestFor", "(LOneMirror$Isle;)I"⟩, 2) := ⟨⟨by decide +kernel, by decide +kernel⟩, List.mem_of_getElem? (i := 294) (by decide +kernel), List.mem_of_getElem? (i := 967) (by decide +kernel), List.mem_of_getElem? (i := 968) (by decide +kernel)⟩
theorem lw_p82 : lw_okq (⟨"OneMirror$Isle", "viewsOf", "(I)I"⟩, 15) := ⟨⟨by decide +kernel, by decide +kernel⟩, List.mem_of_getElem? (i := 110) (by decide +kernel), List.mem_of_getElem? (i := 973) (by decide +kernel), List.mem_of_getElem? (i := 974) (by decide +kernel)⟩
theorem lw_p83 : lw_okq (⟨"OneMirror$Faces", "fewestOf", "(II)I"⟩, 2) := ⟨⟨by decide +kernel, by decide +kernel⟩, List.mem_of_getElem? (i := 294) (by decide +kernel), List.mem_of_getElem? (i := 977) (by decide +kernel), List.mem_of_getElem? (i := 978) (by decide +kernel)⟩
theorem lw_p84 : lw_okq (⟨"OneMirror$Isle", "mostViewsOfOne", "()I"⟩, 15) := ⟨⟨by decide +kernel, by decide +kernel⟩, List.mem_of_getElem? (i := 110) (by decide +kernel), List.mem_of_getElem? (i := 981) (by decide +kernel), List.mem_of_getElem? (i := 982) (by decide +kernel)⟩
theorem lw_p85 : lw_okq (⟨"OneMirror$Isle", "sworn", "(I)I"⟩, 15) := ⟨⟨by decide +kernel, by decide +kernel⟩, List.mem_of_getElem? (i := 110) (by decide +kernel), List.mem_of_getElem? (i := 987) (by decide +kernel), List.mem_of_getElem? (i := 988) (by decide +kernel)⟩
theorem lw_p86 : lw_okq (⟨"OneMirror$Isle", "copyFrom", "(LOneMirror$Isle;)V"⟩, 15) := ⟨⟨by decide +kernel, by decide +kernel⟩, List.mem_of_getElem? (i := 110) (by decide +kernel), List.mem_of_getElem? (i := 999) (by decide +kernel), List.mem_of_getElem? (i := 1000) (by decide +kernel)⟩
theorem lw_p87 : lw_okq (⟨"OneMirror$Rows", "copyFrom", "(LOneMirror$Rows;)V"⟩, 4) := ⟨⟨by decide +kernel, by decide +kernel⟩, List.mem_of_getElem? (i := 116) (by decide +kernel), List.mem_of_getElem? (i := 1004) (by decide +kernel), List.mem_of_getElem? (i := 1005) (by decide +kernel)⟩
theorem lw_p88 : lw_okq (⟨"OneMirror", "drawHour", "(LOneMirror$Isle;LOneMirror$Rule;I)V"⟩, 12) := ⟨⟨by decide +kernel, by decide +kernel⟩, List.mem_of_getElem? (i := 22) (by decide +kernel), List.mem_of_getElem? (i := 1010) (by decide +kernel), List.mem_of_getElem? (i := 1011) (by decide +kernel)⟩
theorem lw_p89 : lw_okq (⟨"OneMirror$Isle", "nextDraw", "()I"⟩, 15) := ⟨⟨by decide +kernel, by decide +kernel⟩, List.mem_of_getElem? (i := 110) (by decide +kernel), List.mem_of_getElem? (i := 1014) (by decide +kernel), List.mem_of_getElem? (i := 1015) (by decide +kernel)⟩
theorem lw_p90 : lw_okq (⟨"OneMirror", "drawSlips", "(LOneMirror$Isle;I)I"⟩, 12) := ⟨⟨by decide +kernel, by decide +kernel⟩, List.mem_of_getElem? (i := 22) (by decide +kernel), List.mem_of_getElem? (i := 1022) (by decide +kernel), List.mem_of_getElem? (i := 1023) (by decide +kernel)⟩
theorem lw_p91 : lw_okq (⟨"OneMirror", "peopleWhoKnow", "(LOneMirror$Isle;)I"⟩, 12) := ⟨⟨by decide +kernel, by decide +kernel⟩, List.mem_of_getElem? (i := 22) (by decide +kernel), List.mem_of_getElem? (i := 1026) (by decide +kernel), List.mem_of_getElem? (i := 1027) (by decide +kernel)⟩
theorem lw_p92 : lw_okq (⟨"OneMirror", "marksOpen", "(LOneMirror$Isle;)I"⟩, 12) := ⟨⟨by decide +kernel, by decide +kernel⟩, List.mem_of_getElem? (i := 22) (by decide +kernel), List.mem_of_getElem? (i := 1030) (by decide +kernel), List.mem_of_getElem? (i := 1031) (by decide +kernel)⟩
theorem lw_p93 : lw_okq (⟨"OneMirrorModel", "four", "(I)V"⟩, 34) := ⟨⟨by decide +kernel, by decide +kernel⟩, List.mem_of_getElem? (i := 1047) (by decide +kernel), List.mem_of_getElem? (i := 1161) (by decide +kernel), List.mem_of_getElem? (i := 1162) (by decide +kernel)⟩
theorem lw_p94 : lw_okq (⟨"OneMirrorModel", "readsAll", "()Z"⟩, 34) := ⟨⟨by decide +kernel, by decide +kernel⟩, List.mem_of_getElem? (i := 1047) (by decide +kernel), List.mem_of_getElem? (i := 1173) (by decide +kernel), List.mem_of_getElem? (i := 1174) (by decide +kernel)⟩
theorem lw_p95 : lw_okq (⟨"OneMirrorModel", "clauseHere", "()Z"⟩, 34) := ⟨⟨by decide +kernel, by decide +kernel⟩, List.mem_of_getElem? (i := 1047) (by decide +kernel), List.mem_of_getElem? (i := 1177) (by decide +kernel), List.mem_of_getElem? (i := 1178) (by decide +kernel)⟩
def lw_privs_6 : List (MethodName × Nat) := [(⟨"OneMirror$Isle", "canBeOf", "(II)Z"⟩, 15), (⟨"OneMirror$Faces", "fewestFor", "(LOneMirror$Isle;)I"⟩, 2), (⟨"OneMirror$Isle", "viewsOf", "(I)I"⟩, 15), (⟨"OneMirror$Faces", "fewestOf", "(II)I"⟩, 2), (⟨"OneMirror$Isle", "mostViewsOfOne", "()I"⟩, 15), (⟨"OneMirror$Isle", "sworn", "(I)I"⟩, 15), (⟨"OneMirror$Isle", "copyFrom", "(LOneMirror$Isle;)V"⟩, 15), (⟨"OneMirror$Rows", "copyFrom", "(LOneMirror$Rows;)V"⟩, 4), (⟨"OneMirror", "drawHour", "(LOneMirror$Isle;LOneMirror$Rule;I)V"⟩, 12), (⟨"OneMirror$Isle", "nextDraw", "()I"⟩, 15), (⟨"OneMirror", "drawSlips", "(LOneMirror$Isle;I)I"⟩, 12), (⟨"OneMirror", "peopleWhoKnow", "(LOneMirror$Isle;)I"⟩, 12), (⟨"OneMirror", "marksOpen", "(LOneMirror$Isle;)I"⟩, 12), (⟨"OneMirrorModel", "four", "(I)V"⟩, 34), (⟨"OneMirrorModel", "readsAll", "()Z"⟩, 34), (⟨"OneMirrorModel", "clauseHere", "()Z"⟩, 34)]
theorem lw_r6 : ∀ q ∈ lw_privs_6, lw_okq q := List.forall_mem_cons.mpr ⟨lw_p80, List.forall_mem_cons.mpr ⟨lw_p81, List.forall_mem_cons.mpr ⟨lw_p82, List.forall_mem_cons.mpr ⟨lw_p83, List.forall_mem_cons.mpr ⟨lw_p84, List.forall_mem_cons.mpr ⟨lw_p85, List.forall_mem_cons.mpr ⟨lw_p86, List.forall_mem_cons.mpr ⟨lw_p87, List.forall_mem_cons.mpr ⟨lw_p88, List.forall_mem_cons.mpr ⟨lw_p89, List.forall_mem_cons.mpr ⟨lw_p90, List.forall_mem_cons.mpr ⟨lw_p91, List.forall_mem_cons.mpr ⟨lw_p92, List.forall_mem_cons.mpr ⟨lw_p93, List.forall_mem_cons.mpr ⟨lw_p94, List.forall_mem_cons.mpr ⟨lw_p95, fun _ h => absurd h List.not_mem_nil⟩⟩⟩⟩⟩⟩⟩⟩⟩⟩⟩⟩⟩⟩⟩⟩
theorem lw_p96 : lw_okq (⟨"OneMirrorModel", "see", "()I"⟩, 34) := ⟨⟨by decide +kernel, by decide +kernel⟩, List.mem_of_getElem? (i := 1047) (by decide +kernel), List.mem_of_getElem? (i := 1181) (by decide +kernel), List.mem_of_getElem? (i := 1182) (by decide +kernel)⟩
theorem lw_p97 : lw_okq (⟨"OneMirrorModel", "isIslandWord", "()Z"⟩, 34) := ⟨⟨by decide +kernel, by decide +kernel⟩, List.mem_of_getElem? (i := 1047) (by decide +kernel), List.mem_of_getElem? (i := 1185) (by decide +kernel), List.mem_of_getElem? (i := 1186) (by decide +kernel)⟩
theorem lw_p98 : lw_okq (⟨"OneMirrorModel", "isWord", "(J)Z"⟩, 34) := ⟨⟨by decide +kernel, by decide +kernel⟩, List.mem_of_getElem? (i := 1047) (by decide +kernel), List.mem_of_getElem? (i := 1190) (by decide +kernel), List.mem_of_getElem? (i := 1191) (by decide +kernel)⟩
theorem lw_p99 : lw_okq (⟨"OneMirrorModel", "isLetter", "(I)Z"⟩, 34) := ⟨⟨by decide +kernel, by decide +kernel⟩, List.mem_of_getElem? (i := 1047) (by decide +kernel), List.mem_of_getElem? (i := 1194) (by decide +kernel), List.mem_of_getElem? (i := 1195) (by decide +kernel)⟩
theorem lw_p100 : lw_okq (⟨"OneMirrorModel", "fails", "(II)Z"⟩, 34) := ⟨⟨by decide +kernel, by decide +kernel⟩, List.mem_of_getElem? (i := 1047) (by decide +kernel), List.mem_of_getElem? (i := 1204) (by decide +kernel), List.mem_of_getElem? (i := 1205) (by decide +kernel)⟩
theorem lw_p101 : lw_okq (⟨"OneMirrorModel", "islandLineHere", "(I)Z"⟩, 34) := ⟨⟨by decide +kernel, by decide +kernel⟩, List.mem_of_getElem? (i := 1047) (by decide +kernel), List.mem_of_getElem? (i := 1208) (by decide +kernel), List.mem_of_getElem? (i := 1209) (by decide +kernel)⟩
theorem lw_p102 : lw_okq (⟨"OneMirrorModel", "areMarksHere", "(I)Z"⟩, 34) := ⟨⟨by decide +kernel, by decide +kernel⟩, List.mem_of_getElem? (i := 1047) (by decide +kernel), List.mem_of_getElem? (i := 1212) (by decide +kernel), List.mem_of_getElem? (i := 1213) (by decide +kernel)⟩
theorem lw_p103 : lw_okq (⟨"OneMirrorModel", "passWord", "()V"⟩, 34) := ⟨⟨by decide +kernel, by decide +kernel⟩, List.mem_of_getElem? (i := 1047) (by decide +kernel), List.mem_of_getElem? (i := 1216) (by decide +kernel), List.mem_of_getElem? (i := 1217) (by decide +kernel)⟩
theorem lw_p104 : lw_okq (⟨"OneMirrorModel", "cellHere", "(III)Z"⟩, 34) := ⟨⟨by decide +kernel, by decide +kernel⟩, List.mem_of_getElem? (i := 1047) (by decide +kernel), List.mem_of_getElem? (i := 1220) (by decide +kernel), List.mem_of_getElem? (i := 1221) (by decide +kernel)⟩
theorem lw_p105 : lw_okq (⟨"OneMirrorModel", "numberHere", "(II)Z"⟩, 34) := ⟨⟨by decide +kernel, by decide +kernel⟩, List.mem_of_getElem? (i := 1047) (by decide +kernel), List.mem_of_getElem? (i := 1224) (by decide +kernel), List.mem_of_getElem? (i := 1225) (by decide +kernel)⟩
theorem lw_p106 : lw_okq (⟨"OneMirrorModel", "isDigit", "(I)Z"⟩, 34) := ⟨⟨by decide +kernel, by decide +kernel⟩, List.mem_of_getElem? (i := 1047) (by decide +kernel), List.mem_of_getElem? (i := 1228) (by decide +kernel), List.mem_of_getElem? (i := 1229) (by decide +kernel)⟩
theorem lw_p107 : lw_okq (⟨"OneMirrorModel", "isPersonHere", "(I)Z"⟩, 34) := ⟨⟨by decide +kernel, by decide +kernel⟩, List.mem_of_getElem? (i := 1047) (by decide +kernel), List.mem_of_getElem? (i := 1235) (by decide +kernel), List.mem_of_getElem? (i := 1236) (by decide +kernel)⟩
theorem lw_p108 : lw_okq (⟨"OneMirrorModel", "isTieHere", "()Z"⟩, 34) := ⟨⟨by decide +kernel, by decide +kernel⟩, List.mem_of_getElem? (i := 1047) (by decide +kernel), List.mem_of_getElem? (i := 1239) (by decide +kernel), List.mem_of_getElem? (i := 1240) (by decide +kernel)⟩
theorem lw_p109 : lw_okq (⟨"OneMirrorModel", "twoHere", "()Z"⟩, 34) := ⟨⟨by decide +kernel, by decide +kernel⟩, List.mem_of_getElem? (i := 1047) (by decide +kernel), List.mem_of_getElem? (i := 1243) (by decide +kernel), List.mem_of_getElem? (i := 1244) (by decide +kernel)⟩
theorem lw_p110 : lw_okq (⟨"OneMirrorModel", "isBoatHere", "()Z"⟩, 34) := ⟨⟨by decide +kernel, by decide +kernel⟩, List.mem_of_getElem? (i := 1047) (by decide +kernel), List.mem_of_getElem? (i := 1247) (by decide +kernel), List.mem_of_getElem? (i := 1248) (by decide +kernel)⟩
theorem lw_p111 : lw_okq (⟨"OneMirrorModel", "isGlassHere", "()Z"⟩, 34) := ⟨⟨by decide +kernel, by decide +kernel⟩, List.mem_of_getElem? (i := 1047) (by decide +kernel), List.mem_of_getElem? (i := 1251) (by decide +kernel), List.mem_of_getElem? (i := 1252) (by decide +kernel)⟩
def lw_privs_7 : List (MethodName × Nat) := [(⟨"OneMirrorModel", "see", "()I"⟩, 34), (⟨"OneMirrorModel", "isIslandWord", "()Z"⟩, 34), (⟨"OneMirrorModel", "isWord", "(J)Z"⟩, 34), (⟨"OneMirrorModel", "isLetter", "(I)Z"⟩, 34), (⟨"OneMirrorModel", "fails", "(II)Z"⟩, 34), (⟨"OneMirrorModel", "islandLineHere", "(I)Z"⟩, 34), (⟨"OneMirrorModel", "areMarksHere", "(I)Z"⟩, 34), (⟨"OneMirrorModel", "passWord", "()V"⟩, 34), (⟨"OneMirrorModel", "cellHere", "(III)Z"⟩, 34), (⟨"OneMirrorModel", "numberHere", "(II)Z"⟩, 34), (⟨"OneMirrorModel", "isDigit", "(I)Z"⟩, 34), (⟨"OneMirrorModel", "isPersonHere", "(I)Z"⟩, 34), (⟨"OneMirrorModel", "isTieHere", "()Z"⟩, 34), (⟨"OneMirrorModel", "twoHere", "()Z"⟩, 34), (⟨"OneMirrorModel", "isBoatHere", "()Z"⟩, 34), (⟨"OneMirrorModel", "isGlassHere", "()Z"⟩, 34)]
theorem lw_r7 : ∀ q ∈ lw_privs_7, lw_okq q := List.forall_mem_cons.mpr ⟨lw_p96, List.forall_mem_cons.mpr ⟨lw_p97, List.forall_mem_cons.mpr ⟨lw_p98, List.forall_mem_cons.mpr ⟨lw_p99, List.forall_mem_cons.mpr ⟨lw_p100, List.forall_mem_cons.mpr ⟨lw_p101, List.forall_mem_cons.mpr ⟨lw_p102, List.forall_mem_cons.mpr ⟨lw_p103, List.forall_mem_cons.mpr ⟨lw_p104, List.forall_mem_cons.mpr ⟨lw_p105, List.forall_mem_cons.mpr ⟨lw_p106, List.forall_mem_cons.mpr ⟨lw_p107, List.forall_mem_cons.mpr ⟨lw_p108, List.forall_mem_cons.mpr ⟨lw_p109, List.forall_mem_cons.mpr ⟨lw_p110, List.forall_mem_cons.mpr ⟨lw_p111, fun _ h => absurd h List.not_mem_nil⟩⟩⟩⟩⟩⟩⟩⟩⟩⟩⟩⟩⟩⟩⟩⟩
theorem lw_p112 : lw_okq (⟨"OneMirrorModel", "isDoingHere", "(I)Z"⟩, 34) := ⟨⟨by decide +kernel, by decide +kernel⟩, List.mem_of_getElem? (i := 1047) (by decide +kernel), List.mem_of_getElem? (i := 1255) (by decide +kernel), List.mem_of_getElem? (i := 1256) (by decide +kernel)⟩
theorem lw_p113 : lw_okq (⟨"OneMirrorModel", "summed", "()Z"⟩, 34) := ⟨⟨by decide +kernel, by decide +kernel⟩, List.mem_of_getElem? (i := 1047) (by decide +kernel), List.mem_of_getElem? (i := 1259) (by decide +kernel), List.mem_of_getElem? (i := 1260) (by decide +kernel)⟩
theorem lw_p114 : lw_okq (⟨"OneMirrorModel", "term", "()Z"⟩, 34) := ⟨⟨by decide +kernel, by decide +kernel⟩, List.mem_of_getElem? (i := 1047) (by decide +kernel), List.mem_of_getElem? (i := 1263) (by decide +kernel), List.mem_of_getElem? (i := 1264) (by decide +kernel)⟩
theorem lw_p115 : lw_okq (⟨"OneMirrorModel", "value", "()Z"⟩, 34) := ⟨⟨by decide +kernel, by decide +kernel⟩, List.mem_of_getElem? (i := 1047) (by decide +kernel), List.mem_of_getElem? (i := 1267) (by decide +kernel), List.mem_of_getElem? (i := 1268) (by decide +kernel)⟩
theorem lw_p116 : lw_okq (⟨"OneMirrorModel", "makes", "(I)Z"⟩, 34) := ⟨⟨by decide +kernel, by decide +kernel⟩, List.mem_of_getElem? (i := 1047) (by decide +kernel), List.mem_of_getElem? (i := 1272) (by decide +kernel), List.mem_of_getElem? (i := 1273) (by decide +kernel)⟩
theorem lw_p117 : lw_okq (⟨"OneMirrorModel", "puts", "(II)V"⟩, 34) := ⟨⟨by decide +kernel, by decide +kernel⟩, List.mem_of_getElem? (i := 1047) (by decide +kernel), List.mem_of_getElem? (i := 1276) (by decide +kernel), List.mem_of_getElem? (i := 1277) (by decide +kernel)⟩
theorem lw_p118 : lw_okq (⟨"OneMirrorModel", "wordHere", "()I"⟩, 34) := ⟨⟨by decide +kernel, by decide +kernel⟩, List.mem_of_getElem? (i := 1047) (by decide +kernel), List.mem_of_getElem? (i := 1280) (by decide +kernel), List.mem_of_getElem? (i := 1281) (by decide +kernel)⟩
theorem lw_p119 : lw_okq (⟨"OneMirrorModel", "takesWord", "(J)Z"⟩, 34) := ⟨⟨by decide +kernel, by decide +kernel⟩, List.mem_of_getElem? (i := 1047) (by decide +kernel), List.mem_of_getElem? (i := 1292) (by decide +kernel), List.mem_of_getElem? (i := 1293) (by decide +kernel)⟩
theorem lw_p120 : lw_okq (⟨"OneMirrorModel", "tested", "()Z"⟩, 34) := ⟨⟨by decide +kernel, by decide +kernel⟩, List.mem_of_getElem? (i := 1047) (by decide +kernel), List.mem_of_getElem? (i := 1296) (by decide +kernel), List.mem_of_getElem? (i := 1297) (by decide +kernel)⟩
theorem lw_p121 : lw_okq (⟨"OneMirrorModel", "fact", "()Z"⟩, 34) := ⟨⟨by decide +kernel, by decide +kernel⟩, List.mem_of_getElem? (i := 1047) (by decide +kernel), List.mem_of_getElem? (i := 1300) (by decide +kernel), List.mem_of_getElem? (i := 1301) (by decide +kernel)⟩
theorem lw_p122 : lw_okq (⟨"OneMirrorModel", "opens", "(I)Z"⟩, 34) := ⟨⟨by decide +kernel, by decide +kernel⟩, List.mem_of_getElem? (i := 1047) (by decide +kernel), List.mem_of_getElem? (i := 1305) (by decide +kernel), List.mem_of_getElem? (i := 1306) (by decide +kernel)⟩
theorem lw_p123 : lw_okq (⟨"OneMirrorModel", "compare", "()Z"⟩, 34) := ⟨⟨by decide +kernel, by decide +kernel⟩, List.mem_of_getElem? (i := 1047) (by decide +kernel), List.mem_of_getElem? (i := 1309) (by decide +kernel), List.mem_of_getElem? (i := 1310) (by decide +kernel)⟩
theorem lw_p124 : lw_okq (⟨"OneMirrorModel", "closes", "()V"⟩, 34) := ⟨⟨by decide +kernel, by decide +kernel⟩, List.mem_of_getElem? (i := 1047) (by decide +kernel), List.mem_of_getElem? (i := 1313) (by decide +kernel), List.mem_of_getElem? (i := 1314) (by decide +kernel)⟩
theorem lw_p125 : lw_okq (⟨"OneMirrorModel", "settles", "(I)V"⟩, 34) := ⟨⟨by decide +kernel, by decide +kernel⟩, List.mem_of_getElem? (i := 1047) (by decide +kernel), List.mem_of_getElem? (i := 1317) (by decide +kernel), List.mem_of_getElem? (i := 1318) (by decide +kernel)⟩
theorem lw_p126 : lw_okq (⟨"OneMirrorModel", "isInside", "()Z"⟩, 34) := ⟨⟨by decide +kernel, by decide +kernel⟩, List.mem_of_getElem? (i := 1047) (by decide +kernel), List.mem_of_getElem? (i := 1324) (by decide +kernel), List.mem_of_getElem? (i := 1325) (by decide +kernel)⟩
theorem lw_p127 : lw_okq (⟨"OneMirrorModel", "isRule", "(I)Z"⟩, 34) := ⟨⟨by decide +kernel, by decide +kernel⟩, List.mem_of_getElem? (i := 1047) (by decide +kernel), List.mem_of_getElem? (i := 1338) (by decide +kernel), List.mem_of_getElem? (i := 1339) (by decide +kernel)⟩
def lw_privs_8 : List (MethodName × Nat) := [(⟨"OneMirrorModel", "isDoingHere", "(I)Z"⟩, 34), (⟨"OneMirrorModel", "summed", "()Z"⟩, 34), (⟨"OneMirrorModel", "term", "()Z"⟩, 34), (⟨"OneMirrorModel", "value", "()Z"⟩, 34), (⟨"OneMirrorModel", "makes", "(I)Z"⟩, 34), (⟨"OneMirrorModel", "puts", "(II)V"⟩, 34), (⟨"OneMirrorModel", "wordHere", "()I"⟩, 34), (⟨"OneMirrorModel", "takesWord", "(J)Z"⟩, 34), (⟨"OneMirrorModel", "tested", "()Z"⟩, 34), (⟨"OneMirrorModel", "fact", "()Z"⟩, 34), (⟨"OneMirrorModel", "opens", "(I)Z"⟩, 34), (⟨"OneMirrorModel", "compare", "()Z"⟩, 34), (⟨"OneMirrorModel", "closes", "()V"⟩, 34), (⟨"OneMirrorModel", "settles", "(I)V"⟩, 34), (⟨"OneMirrorModel", "isInside", "()Z"⟩, 34), (⟨"OneMirrorModel", "isRule", "(I)Z"⟩, 34)]
theorem lw_r8 : ∀ q ∈ lw_privs_8, lw_okq q := List.forall_mem_cons.mpr ⟨lw_p112, List.forall_mem_cons.mpr ⟨lw_p113, List.forall_mem_cons.mpr ⟨lw_p114, List.forall_mem_cons.mpr ⟨lw_p115, List.forall_mem_cons.mpr ⟨lw_p116, List.forall_mem_cons.mpr ⟨lw_p117, List.forall_mem_cons.mpr ⟨lw_p118, List.forall_mem_cons.mpr ⟨lw_p119, List.forall_mem_cons.mpr ⟨lw_p120, List.forall_mem_cons.mpr ⟨lw_p121, List.forall_mem_cons.mpr ⟨lw_p122, List.forall_mem_cons.mpr ⟨lw_p123, List.forall_mem_cons.mpr ⟨lw_p124, List.forall_mem_cons.mpr ⟨lw_p125, List.forall_mem_cons.mpr ⟨lw_p126, List.forall_mem_cons.mpr ⟨lw_p127, fun _ h => absurd h List.not_mem_nil⟩⟩⟩⟩⟩⟩⟩⟩⟩⟩⟩⟩⟩⟩⟩⟩
theorem lw_p128 : lw_okq (⟨"OneMirrorModel", "isPerson", "(I)Z"⟩, 34) := ⟨⟨by decide +kernel, by decide +kernel⟩, List.mem_of_getElem? (i := 1047) (by decide +kernel), List.mem_of_getElem? (i := 1346) (by decide +kernel), List.mem_of_getElem? (i := 1347) (by decide +kernel)⟩
theorem lw_p129 : lw_okq (⟨"OneMirrorModel", "personOf", "(II)I"⟩, 34) := ⟨⟨by decide +kernel, by decide +kernel⟩, List.mem_of_getElem? (i := 1047) (by decide +kernel), List.mem_of_getElem? (i := 1350) (by decide +kernel), List.mem_of_getElem? (i := 1351) (by decide +kernel)⟩
theorem lw_p130 : lw_okq (⟨"OneMirrorModel", "believedBy", "(I)I"⟩, 34) := ⟨⟨by decide +kernel, by decide +kernel⟩, List.mem_of_getElem? (i := 1047) (by decide +kernel), List.mem_of_getElem? (i := 1354) (by decide +kernel), List.mem_of_getElem? (i := 1355) (by decide +kernel)⟩
theorem lw_p131 : lw_okq (⟨"OneMirrorModel", "sumOf", "(II)I"⟩, 34) := ⟨⟨by decide +kernel, by decide +kernel⟩, List.mem_of_getElem? (i := 1047) (by decide +kernel), List.mem_of_getElem? (i := 1358) (by decide +kernel), List.mem_of_getElem? (i := 1359) (by decide +kernel)⟩
theorem lw_p132 : lw_okq (⟨"OneMirrorModel", "tellingOf", "(II)I"⟩, 34) := ⟨⟨by decide +kernel, by decide +kernel⟩, List.mem_of_getElem? (i := 1047) (by decide +kernel), List.mem_of_getElem? (i := 1362) (by decide +kernel), List.mem_of_getElem? (i := 1363) (by decide +kernel)⟩
theorem lw_p133 : lw_okq (⟨"OneMirrorModel", "weightOf", "(I)I"⟩, 34) := ⟨⟨by decide +kernel, by decide +kernel⟩, List.mem_of_getElem? (i := 1047) (by decide +kernel), List.mem_of_getElem? (i := 1369) (by decide +kernel), List.mem_of_getElem? (i := 1370) (by decide +kernel)⟩
theorem lw_p134 : lw_okq (⟨"OneMirrorModel", "stepsOf", "(I)I"⟩, 34) := ⟨⟨by decide +kernel, by decide +kernel⟩, List.mem_of_getElem? (i := 1047) (by decide +kernel), List.mem_of_getElem? (i := 1373) (by decide +kernel), List.mem_of_getElem? (i := 1374) (by decide +kernel)⟩
theorem lw_p135 : lw_okq (⟨"OneMirrorModel", "words", "(IIIIII)V"⟩, 34) := ⟨⟨by decide +kernel, by decide +kernel⟩, List.mem_of_getElem? (i := 1047) (by decide +kernel), List.mem_of_getElem? (i := 1377) (by decide +kernel), List.mem_of_getElem? (i := 1378) (by decide +kernel)⟩
theorem lw_p136 : lw_okq (⟨"OneMirrorModel", "tieOf", "(II)I"⟩, 34) := ⟨⟨by decide +kernel, by decide +kernel⟩, List.mem_of_getElem? (i := 1047) (by decide +kernel), List.mem_of_getElem? (i := 1381) (by decide +kernel), List.mem_of_getElem? (i := 1382) (by decide +kernel)⟩
theorem lw_p137 : lw_okq (⟨"OneMirrorModel", "clauseFor", "(II)I"⟩, 34) := ⟨⟨by decide +kernel, by decide +kernel⟩, List.mem_of_getElem? (i := 1047) (by decide +kernel), List.mem_of_getElem? (i := 1385) (by decide +kernel), List.mem_of_getElem? (i := 1386) (by decide +kernel)⟩
theorem lw_p138 : lw_okq (⟨"OneMirrorModel", "reckons", "(III)J"⟩, 34) := ⟨⟨by decide +kernel, by decide +kernel⟩, List.mem_of_getElem? (i := 1047) (by decide +kernel), List.mem_of_getElem? (i := 1389) (by decide +kernel), List.mem_of_getElem? (i := 1390) (by decide +kernel)⟩
theorem lw_p139 : lw_okq (⟨"OneMirrorModel", "push", "(J)V"⟩, 34) := ⟨⟨by decide +kernel, by decide +kernel⟩, List.mem_of_getElem? (i := 1047) (by decide +kernel), List.mem_of_getElem? (i := 1393) (by decide +kernel), List.mem_of_getElem? (i := 1394) (by decide +kernel)⟩
theorem lw_p140 : lw_okq (⟨"OneMirrorModel", "pop", "()J"⟩, 34) := ⟨⟨by decide +kernel, by decide +kernel⟩, List.mem_of_getElem? (i := 1047) (by decide +kernel), List.mem_of_getElem? (i := 1397) (by decide +kernel), List.mem_of_getElem? (i := 1398) (by decide +kernel)⟩
theorem lw_p141 : lw_okq (⟨"OneMirrorModel", "heldSum", "(III)I"⟩, 34) := ⟨⟨by decide +kernel, by decide +kernel⟩, List.mem_of_getElem? (i := 1047) (by decide +kernel), List.mem_of_getElem? (i := 1404) (by decide +kernel), List.mem_of_getElem? (i := 1405) (by decide +kernel)⟩
theorem lw_p142 : lw_okq (⟨"OneMirrorModel", "isLook", "(I)Z"⟩, 34) := ⟨⟨by decide +kernel, by decide +kernel⟩, List.mem_of_getElem? (i := 1047) (by decide +kernel), List.mem_of_getElem? (i := 1408) (by decide +kernel), List.mem_of_getElem? (i := 1409) (by decide +kernel)⟩
theorem lw_p143 : lw_okq (⟨"OneMirrorModel", "openOf", "(I)I"⟩, 34) := ⟨⟨by decide +kernel, by decide +kernel⟩, List.mem_of_getElem? (i := 1047) (by decide +kernel), List.mem_of_getElem? (i := 1412) (by decide +kernel), List.mem_of_getElem? (i := 1413) (by decide +kernel)⟩
def lw_privs_9 : List (MethodName × Nat) := [(⟨"OneMirrorModel", "isPerson", "(I)Z"⟩, 34), (⟨"OneMirrorModel", "personOf", "(II)I"⟩, 34), (⟨"OneMirrorModel", "believedBy", "(I)I"⟩, 34), (⟨"OneMirrorModel", "sumOf", "(II)I"⟩, 34), (⟨"OneMirrorModel", "tellingOf", "(II)I"⟩, 34), (⟨"OneMirrorModel", "weightOf", "(I)I"⟩, 34), (⟨"OneMirrorModel", "stepsOf", "(I)I"⟩, 34), (⟨"OneMirrorModel", "words", "(IIIIII)V"⟩, 34), (⟨"OneMirrorModel", "tieOf", "(II)I"⟩, 34), (⟨"OneMirrorModel", "clauseFor", "(II)I"⟩, 34), (⟨"OneMirrorModel", "reckons", "(III)J"⟩, 34), (⟨"OneMirrorModel", "push", "(J)V"⟩, 34), (⟨"OneMirrorModel", "pop", "()J"⟩, 34), (⟨"OneMirrorModel", "heldSum", "(III)I"⟩, 34), (⟨"OneMirrorModel", "isLook", "(I)Z"⟩, 34), (⟨"OneMirrorModel", "openOf", "(I)I"⟩, 34)]
theorem lw_r9 : ∀ q ∈ lw_privs_9, lw_okq q := List.forall_mem_cons.mpr ⟨lw_p128, List.forall_mem_cons.mpr ⟨lw_p129, List.forall_mem_cons.mpr ⟨lw_p130, List.forall_mem_cons.mpr ⟨lw_p131, List.forall_mem_cons.mpr ⟨lw_p132, List.forall_mem_cons.mpr ⟨lw_p133, List.forall_mem_cons.mpr ⟨lw_p134, List.forall_mem_cons.mpr ⟨lw_p135, List.forall_mem_cons.mpr ⟨lw_p136, List.forall_mem_cons.mpr ⟨lw_p137, List.forall_mem_cons.mpr ⟨lw_p138, List.forall_mem_cons.mpr ⟨lw_p139, List.forall_mem_cons.mpr ⟨lw_p140, List.forall_mem_cons.mpr ⟨lw_p141, List.forall_mem_cons.mpr ⟨lw_p142, List.forall_mem_cons.mpr ⟨lw_p143, fun _ h => absurd h List.not_mem_nil⟩⟩⟩⟩⟩⟩⟩⟩⟩⟩⟩⟩⟩⟩⟩⟩
theorem lw_p144 : lw_okq (⟨"OneMirrorModel", "isTelling", "(I)Z"⟩, 34) := ⟨⟨by decide +kernel, by decide +kernel⟩, List.mem_of_getElem? (i := 1047) (by decide +kernel), List.mem_of_getElem? (i := 1429) (by decide +kernel), List.mem_of_getElem? (i := 1430) (by decide +kernel)⟩
theorem lw_p145 : lw_okq (⟨"OneMirrorModel", "mayBe", "(I)Z"⟩, 34) := ⟨⟨by decide +kernel, by decide +kernel⟩, List.mem_of_getElem? (i := 1047) (by decide +kernel), List.mem_of_getElem? (i := 1442) (by decide +kernel), List.mem_of_getElem? (i := 1443) (by decide +kernel)⟩
theorem lw_p146 : lw_okq (⟨"OneMirrorModel", "isHourLeft", "()Z"⟩, 34) := ⟨⟨by decide +kernel, by decide +kernel⟩, List.mem_of_getElem? (i := 1047) (by decide +kernel), List.mem_of_getElem? (i := 1446) (by decide +kernel), List.mem_of_getElem? (i := 1447) (by decide +kernel)⟩
theorem lw_p147 : lw_okq (⟨"OneMirrorModel", "isIsland", "()Z"⟩, 34) := ⟨⟨by decide +kernel, by decide +kernel⟩, List.mem_of_getElem? (i := 1047) (by decide +kernel), List.mem_of_getElem? (i := 1450) (by decide +kernel), List.mem_of_getElem? (i := 1451) (by decide +kernel)⟩
theorem lw_p148 : lw_okq (⟨"OneMirrorModel", "keepsAct", "()V"⟩, 34) := ⟨⟨by decide +kernel, by decide +kernel⟩, List.mem_of_getElem? (i := 1047) (by decide +kernel), List.mem_of_getElem? (i := 1454) (by decide +kernel), List.mem_of_getElem? (i := 1455) (by decide +kernel)⟩
theorem lw_p149 : lw_okq (⟨"OneMirrorModel", "faceBy", "(IIII)I"⟩, 34) := ⟨⟨by decide +kernel, by decide +kernel⟩, List.mem_of_getElem? (i := 1047) (by decide +kernel), List.mem_of_getElem? (i := 1458) (by decide +kernel), List.mem_of_getElem? (i := 1459) (by decide +kernel)⟩
theorem lw_p150 : lw_okq (⟨"OneMirrorModel", "allMarks", "()I"⟩, 34) := ⟨⟨by decide +kernel, by decide +kernel⟩, List.mem_of_getElem? (i := 1047) (by decide +kernel), List.mem_of_getElem? (i := 1462) (by decide +kernel), List.mem_of_getElem? (i := 1463) (by decide +kernel)⟩
theorem lw_p151 : lw_okq (⟨"OneMirrorModel", "comes", "(IIIII)V"⟩, 34) := ⟨⟨by decide +kernel, by decide +kernel⟩, List.mem_of_getElem? (i := 1047) (by decide +kernel), List.mem_of_getElem? (i := 1466) (by decide +kernel), List.mem_of_getElem? (i := 1467) (by decide +kernel)⟩
theorem lw_p152 : lw_okq (⟨"OneMirrorModel", "looks", "()V"⟩, 34) := ⟨⟨by decide +kernel, by decide +kernel⟩, List.mem_of_getElem? (i := 1047) (by decide +kernel), List.mem_of_getElem? (i := 1478) (by decide +kernel), List.mem_of_getElem? (i := 1479) (by decide +kernel)⟩
theorem lw_p153 : lw_okq (⟨"OneMirrorModel", "glassGoes", "(I)V"⟩, 34) := ⟨⟨by decide +kernel, by decide +kernel⟩, List.mem_of_getElem? (i := 1047) (by decide +kernel), List.mem_of_getElem? (i := 1486) (by decide +kernel), List.mem_of_getElem? (i := 1487) (by decide +kernel)⟩
theorem lw_p154 : lw_okq (⟨"OneMirrorModel", "passes", "(I)V"⟩, 34) := ⟨⟨by decide +kernel, by decide +kernel⟩, List.mem_of_getElem? (i := 1047) (by decide +kernel), List.mem_of_getElem? (i := 1515) (by decide +kernel), List.mem_of_getElem? (i := 1516) (by decide +kernel)⟩
theorem lw_p155 : lw_okq (⟨"OneMirrorModel", "heeding", "(I)I"⟩, 34) := ⟨⟨by decide +kernel, by decide +kernel⟩, List.mem_of_getElem? (i := 1047) (by decide +kernel), List.mem_of_getElem? (i := 1519) (by decide +kernel), List.mem_of_getElem? (i := 1520) (by decide +kernel)⟩
theorem lw_p156 : lw_okq (⟨"OneMirrorModel", "leanOf", "(I)I"⟩, 34) := ⟨⟨by decide +kernel, by decide +kernel⟩, List.mem_of_getElem? (i := 1047) (by decide +kernel), List.mem_of_getElem? (i := 1527) (by decide +kernel), List.mem_of_getElem? (i := 1528) (by decide +kernel)⟩
theorem lw_p157 : lw_okq (⟨"OneMirrorModel", "countFor", "(II)I"⟩, 34) := ⟨⟨by decide +kernel, by decide +kernel⟩, List.mem_of_getElem? (i := 1047) (by decide +kernel), List.mem_of_getElem? (i := 1538) (by decide +kernel), List.mem_of_getElem? (i := 1539) (by decide +kernel)⟩
theorem lw_p158 : lw_okq (⟨"OneMirrorModel", "flatteryOf", "(I)I"⟩, 34) := ⟨⟨by decide +kernel, by decide +kernel⟩, List.mem_of_getElem? (i := 1047) (by decide +kernel), List.mem_of_getElem? (i := 1546) (by decide +kernel), List.mem_of_getElem? (i := 1547) (by decide +kernel)⟩
theorem lw_p159 : lw_okq (⟨"OneMirrorModel", "turnedBy", "(II)I"⟩, 34) := ⟨⟨by decide +kernel, by decide +kernel⟩, List.mem_of_getElem? (i := 1047) (by decide +kernel), List.mem_of_getElem? (i := 1554) (by decide +kernel), List.mem_of_getElem? (i := 1555) (by decide +kernel)⟩
def lw_privs_10 : List (MethodName × Nat) := [(⟨"OneMirrorModel", "isTelling", "(I)Z"⟩, 34), (⟨"OneMirrorModel", "mayBe", "(I)Z"⟩, 34), (⟨"OneMirrorModel", "isHourLeft", "()Z"⟩, 34), (⟨"OneMirrorModel", "isIsland", "()Z"⟩, 34), (⟨"OneMirrorModel", "keepsAct", "()V"⟩, 34), (⟨"OneMirrorModel", "faceBy", "(IIII)I"⟩, 34), (⟨"OneMirrorModel", "allMarks", "()I"⟩, 34), (⟨"OneMirrorModel", "comes", "(IIIII)V"⟩, 34), (⟨"OneMirrorModel", "looks", "()V"⟩, 34), (⟨"OneMirrorModel", "glassGoes", "(I)V"⟩, 34), (⟨"OneMirrorModel", "passes", "(I)V"⟩, 34), (⟨"OneMirrorModel", "heeding", "(I)I"⟩, 34), (⟨"OneMirrorModel", "leanOf", "(I)I"⟩, 34), (⟨"OneMirrorModel", "countFor", "(II)I"⟩, 34), (⟨"OneMirrorModel", "flatteryOf", "(I)I"⟩, 34), (⟨"OneMirrorModel", "turnedBy", "(II)I"⟩, 34)]
theorem lw_r10 : ∀ q ∈ lw_privs_10, lw_okq q := List.forall_mem_cons.mpr ⟨lw_p144, List.forall_mem_cons.mpr ⟨lw_p145, List.forall_mem_cons.mpr ⟨lw_p146, List.forall_mem_cons.mpr ⟨lw_p147, List.forall_mem_cons.mpr ⟨lw_p148, List.forall_mem_cons.mpr ⟨lw_p149, List.forall_mem_cons.mpr ⟨lw_p150, List.forall_mem_cons.mpr ⟨lw_p151, List.forall_mem_cons.mpr ⟨lw_p152, List.forall_mem_cons.mpr ⟨lw_p153, List.forall_mem_cons.mpr ⟨lw_p154, List.forall_mem_cons.mpr ⟨lw_p155, List.forall_mem_cons.mpr ⟨lw_p156, List.forall_mem_cons.mpr ⟨lw_p157, List.forall_mem_cons.mpr ⟨lw_p158, List.forall_mem_cons.mpr ⟨lw_p159, fun _ h => absurd h List.not_mem_nil⟩⟩⟩⟩⟩⟩⟩⟩⟩⟩⟩⟩⟩⟩⟩⟩
theorem lw_p160 : lw_okq (⟨"OneMirrorModel", "fillsRounds", "(I)V"⟩, 34) := ⟨⟨by decide +kernel, by decide +kernel⟩, List.mem_of_getElem? (i := 1047) (by decide +kernel), List.mem_of_getElem? (i := 1579) (by decide +kernel), List.mem_of_getElem? (i := 1580) (by decide +kernel)⟩
theorem lw_p161 : lw_okq (⟨"OneMirrorModel", "mostFrom", "(IIII)I"⟩, 34) := ⟨⟨by decide +kernel, by decide +kernel⟩, List.mem_of_getElem? (i := 1047) (by decide +kernel), List.mem_of_getElem? (i := 1586) (by decide +kernel), List.mem_of_getElem? (i := 1587) (by decide +kernel)⟩
theorem lw_p162 : lw_okq (⟨"OneMirrorModel", "servedAt", "(III)I"⟩, 34) := ⟨⟨by decide +kernel, by decide +kernel⟩, List.mem_of_getElem? (i := 1047) (by decide +kernel), List.mem_of_getElem? (i := 1590) (by decide +kernel), List.mem_of_getElem? (i := 1591) (by decide +kernel)⟩
theorem lw_p163 : lw_okq (⟨"OneMirrorModel", "worthOf", "(I)I"⟩, 34) := ⟨⟨by decide +kernel, by decide +kernel⟩, List.mem_of_getElem? (i := 1047) (by decide +kernel), List.mem_of_getElem? (i := 1594) (by decide +kernel), List.mem_of_getElem? (i := 1595) (by decide +kernel)⟩
theorem lw_p164 : lw_okq (⟨"OneMirrorModel", "viewsOf", "(I)I"⟩, 34) := ⟨⟨by decide +kernel, by decide +kernel⟩, List.mem_of_getElem? (i := 1047) (by decide +kernel), List.mem_of_getElem? (i := 1606) (by decide +kernel), List.mem_of_getElem? (i := 1607) (by decide +kernel)⟩
theorem lw_p165 : lw_okq (⟨"OneMirrorModel", "fewestFaces", "()I"⟩, 34) := ⟨⟨by decide +kernel, by decide +kernel⟩, List.mem_of_getElem? (i := 1047) (by decide +kernel), List.mem_of_getElem? (i := 1614) (by decide +kernel), List.mem_of_getElem? (i := 1615) (by decide +kernel)⟩
theorem lw_p166 : lw_okq (⟨"OneMirrorModel", "drawsHour", "(II)V"⟩, 34) := ⟨⟨by decide +kernel, by decide +kernel⟩, List.mem_of_getElem? (i := 1047) (by decide +kernel), List.mem_of_getElem? (i := 1628) (by decide +kernel), List.mem_of_getElem? (i := 1629) (by decide +kernel)⟩
theorem lw_p167 : lw_okq (⟨"OneMirrorModel", "draw", "(I)I"⟩, 34) := ⟨⟨by decide +kernel, by decide +kernel⟩, List.mem_of_getElem? (i := 1047) (by decide +kernel), List.mem_of_getElem? (i := 1632) (by decide +kernel), List.mem_of_getElem? (i := 1633) (by decide +kernel)⟩
def lw_privs_11 : List (MethodName × Nat) := [(⟨"OneMirrorModel", "fillsRounds", "(I)V"⟩, 34), (⟨"OneMirrorModel", "mostFrom", "(IIII)I"⟩, 34), (⟨"OneMirrorModel", "servedAt", "(III)I"⟩, 34), (⟨"OneMirrorModel", "worthOf", "(I)I"⟩, 34), (⟨"OneMirrorModel", "viewsOf", "(I)I"⟩, 34), (⟨"OneMirrorModel", "fewestFaces", "()I"⟩, 34), (⟨"OneMirrorModel", "drawsHour", "(II)V"⟩, 34), (⟨"OneMirrorModel", "draw", "(I)I"⟩, 34)]
theorem lw_r11 : ∀ q ∈ lw_privs_11, lw_okq q := List.forall_mem_cons.mpr ⟨lw_p160, List.forall_mem_cons.mpr ⟨lw_p161, List.forall_mem_cons.mpr ⟨lw_p162, List.forall_mem_cons.mpr ⟨lw_p163, List.forall_mem_cons.mpr ⟨lw_p164, List.forall_mem_cons.mpr ⟨lw_p165, List.forall_mem_cons.mpr ⟨lw_p166, List.forall_mem_cons.mpr ⟨lw_p167, fun _ h => absurd h List.not_mem_nil⟩⟩⟩⟩⟩⟩⟩⟩
def lw_privs : List (MethodName × Nat) := lw_privs_1 ++ (lw_privs_2 ++ (lw_privs_3 ++ (lw_privs_4 ++ (lw_privs_5 ++ (lw_privs_6 ++ (lw_privs_7 ++ (lw_privs_8 ++ (lw_privs_9 ++ (lw_privs_10 ++ (lw_privs_11))))))))))
def lw_tbl : List Cond := k2_sels lw_privs ++ tables_1
theorem lw_privs_ok : ∀ q ∈ lw_privs, lw_okq q := by
  show ∀ q ∈ lw_privs_1 ++ (lw_privs_2 ++ (lw_privs_3 ++ (lw_privs_4 ++ (lw_privs_5 ++ (lw_privs_6 ++ (lw_privs_7 ++ (lw_privs_8 ++ (lw_privs_9 ++ (lw_privs_10 ++ (lw_privs_11)))))))))), lw_okq q
  exact List.forall_mem_append.mpr ⟨lw_r1, List.forall_mem_append.mpr ⟨lw_r2, List.forall_mem_append.mpr ⟨lw_r3, List.forall_mem_append.mpr ⟨lw_r4, List.forall_mem_append.mpr ⟨lw_r5, List.forall_mem_append.mpr ⟨lw_r6, List.forall_mem_append.mpr ⟨lw_r7, List.forall_mem_append.mpr ⟨lw_r8, List.forall_mem_append.mpr ⟨lw_r9, List.forall_mem_append.mpr ⟨lw_r10, lw_r11⟩⟩⟩⟩⟩⟩⟩⟩⟩⟩
-- ===== end of PART A; then your names; then what follows =====
end
section

/-! ===== BEGIN printed: names, fields, word lists, decode rows ===== -/
def RX0 : String := "OneMirror$Faces"
def TX0 : u_T := fun k => match k with
  | 0 => ("OneMirror$Faces", "covers", "[I", true)
  | _ => ("OneMirror$Faces", "fewest", "[I", true)
def tyX0 : Nat → FieldType := fun k => match k with
  | 0 => .array .int
  | _ => .array .int
abbrev wsX00 : List Cond := u_ws RX0 TX0 2
theorem nmX0 : ∀ a, a < 2 → ∀ b, b < 2 → a ≠ b → (TX0 a).2.1 ≠ (TX0 b).2.1 := by decide +kernel
theorem tyX0_ok : ∀ k, k < 2 → parseFieldDescriptor (TX0 k).2.2.1 = some (tyX0 k) := by decide +kernel
abbrev cX0_init : ByteArray := prog_2_method_1_code
def yX0_init : MethodName := ⟨RX0, "<init>", "()V"⟩
abbrev cX0_fewestFor : ByteArray := prog_2_method_2_code
def yX0_fewestFor : MethodName := ⟨RX0, "fewestFor", "(LOneMirror$Isle;)I"⟩
abbrev cX0_fewestOf : ByteArray := prog_2_method_3_code
def yX0_fewestOf : MethodName := ⟨RX0, "fewestOf", "(II)I"⟩
def RX1 : String := "OneMirror$History"
def TX1 : u_T := fun k => match k with
  | 0 => ("OneMirror$History", "cells", "[I", true)
  | 1 => ("OneMirror$History", "newest", "I", false)
  | _ => ("OneMirror$History", "size", "I", false)
def tyX1 : Nat → FieldType := fun k => match k with
  | 0 => .array .int
  | 1 => .int
  | _ => .int
abbrev wsX10 : List Cond := u_ws RX1 TX1 3
theorem nmX1 : ∀ a, a < 3 → ∀ b, b < 3 → a ≠ b → (TX1 a).2.1 ≠ (TX1 b).2.1 := by decide +kernel
theorem tyX1_ok : ∀ k, k < 3 → parseFieldDescriptor (TX1 k).2.2.1 = some (tyX1 k) := by decide +kernel
abbrev cX1_init : ByteArray := prog_3_method_1_code
def yX1_init : MethodName := ⟨RX1, "<init>", "()V"⟩
abbrev cX1_forget : ByteArray := prog_3_method_2_code
def yX1_forget : MethodName := ⟨RX1, "forget", "()V"⟩
abbrev cX1_startOfNewest : ByteArray := prog_3_method_3_code
def yX1_startOfNewest : MethodName := ⟨RX1, "startOfNewest", "()I"⟩
abbrev cX1_remember : ByteArray := prog_3_method_4_code
def yX1_remember : MethodName := ⟨RX1, "remember", "(LOneMirror$Isle;)V"⟩
abbrev cX1_restore : ByteArray := prog_3_method_5_code
def yX1_restore : MethodName := ⟨RX1, "restore", "(LOneMirror$Isle;)V"⟩
def RX2 : String := "OneMirror$Isle"
def TX2 : u_T := fun k => match k with
  | 0 => ("OneMirror$Isle", "faces", "[I", true)
  | 1 => ("OneMirror$Isle", "coins", "[I", true)
  | 2 => ("OneMirror$Isle", "turns", "[I", true)
  | 3 => ("OneMirror$Isle", "boats", "[I", true)
  | 4 => ("OneMirror$Isle", "ties", "[I", true)
  | 5 => ("OneMirror$Isle", "tellings", "LOneMirror$Rows;", true)
  | 6 => ("OneMirror$Isle", "wishes", "LOneMirror$Rows;", true)
  | 7 => ("OneMirror$Isle", "views", "LOneMirror$Rows;", true)
  | 8 => ("OneMirror$Isle", "marks", "I", false)
  | 9 => ("OneMirror$Isle", "people", "I", false)
  | 10 => ("OneMirror$Isle", "glass", "I", false)
  | 11 => ("OneMirror$Isle", "isKept", "Z", false)
  | 12 => ("OneMirror$Isle", "hour", "I", false)
  | 13 => ("OneMirror$Isle", "inForce", "I", false)
  | _ => ("OneMirror$Isle", "x", "I", false)
def tyX2 : Nat → FieldType := fun k => match k with
  | 0 => .array .int
  | 1 => .array .int
  | 2 => .array .int
  | 3 => .array .int
  | 4 => .array .int
  | 5 => .object "OneMirror$Rows"
  | 6 => .object "OneMirror$Rows"
  | 7 => .object "OneMirror$Rows"
  | 8 => .int
  | 9 => .int
  | 10 => .int
  | 11 => .boolean
  | 12 => .int
  | 13 => .int
  | _ => .int
abbrev wsX20 : List Cond := u_ws RX2 TX2 15
theorem nmX2 : ∀ a, a < 15 → ∀ b, b < 15 → a ≠ b → (TX2 a).2.1 ≠ (TX2 b).2.1 := by decide +kernel
theorem tyX2_ok : ∀ k, k < 15 → parseFieldDescriptor (TX2 k).2.2.1 = some (tyX2 k) := by decide +kernel
abbrev cX2_init : ByteArray := prog_4_method_1_code
def yX2_init : MethodName := ⟨RX2, "<init>", "()V"⟩
abbrev cX2_clear : ByteArray := prog_4_method_2_code
def yX2_clear : MethodName := ⟨RX2, "clear", "()V"⟩
abbrev cX2_copyFrom : ByteArray := prog_4_method_3_code
def yX2_copyFrom : MethodName := ⟨RX2, "copyFrom", "(LOneMirror$Isle;)V"⟩
abbrev cX2_has : ByteArray := prog_4_method_4_code
def yX2_has : MethodName := ⟨RX2, "has", "(I)Z"⟩
abbrev cX2_hasTwo : ByteArray := prog_4_method_5_code
def yX2_hasTwo : MethodName := ⟨RX2, "hasTwo", "(II)Z"⟩
abbrev cX2_hasMark : ByteArray := prog_4_method_6_code
def yX2_hasMark : MethodName := ⟨RX2, "hasMark", "(I)Z"⟩
abbrev cX2_lastFace : ByteArray := prog_4_method_7_code
def yX2_lastFace : MethodName := ⟨RX2, "lastFace", "()I"⟩
abbrev cX2_isFace : ByteArray := prog_4_method_8_code
def yX2_isFace : MethodName := ⟨RX2, "isFace", "(I)Z"⟩
abbrev cX2_faceOf : ByteArray := prog_4_method_9_code
def yX2_faceOf : MethodName := ⟨RX2, "faceOf", "(I)I"⟩
abbrev cX2_hasBoat : ByteArray := prog_4_method_10_code
def yX2_hasBoat : MethodName := ⟨RX2, "hasBoat", "(II)Z"⟩
abbrev cX2_heed : ByteArray := prog_4_method_11_code
def yX2_heed : MethodName := ⟨RX2, "heed", "(II)I"⟩
abbrev cX2_whoHeedsMost : ByteArray := prog_4_method_12_code
def yX2_whoHeedsMost : MethodName := ⟨RX2, "whoHeedsMost", "(I)I"⟩
abbrev cX2_nextDraw : ByteArray := prog_4_method_13_code
def yX2_nextDraw : MethodName := ⟨RX2, "nextDraw", "()I"⟩
abbrev cX2_addTelling : ByteArray := prog_4_method_14_code
def yX2_addTelling : MethodName := ⟨RX2, "addTelling", "(IIIII)V"⟩
abbrev cX2_addLook : ByteArray := prog_4_method_15_code
def yX2_addLook : MethodName := ⟨RX2, "addLook", "()V"⟩
abbrev cX2_addWish : ByteArray := prog_4_method_16_code
def yX2_addWish : MethodName := ⟨RX2, "addWish", "(IIII)V"⟩
abbrev cX2_addView : ByteArray := prog_4_method_17_code
def yX2_addView : MethodName := ⟨RX2, "addView", "(II)V"⟩
abbrev cX2_isLook : ByteArray := prog_4_method_18_code
def yX2_isLook : MethodName := ⟨RX2, "isLook", "(I)Z"⟩
abbrev cX2_looksOf : ByteArray := prog_4_method_19_code
def yX2_looksOf : MethodName := ⟨RX2, "looksOf", "(I)I"⟩
abbrev cX2_lookers : ByteArray := prog_4_method_20_code
def yX2_lookers : MethodName := ⟨RX2, "lookers", "()I"⟩
abbrev cX2_nextToLook : ByteArray := prog_4_method_21_code
def yX2_nextToLook : MethodName := ⟨RX2, "nextToLook", "(I)I"⟩
abbrev cX2_leanOf : ByteArray := prog_4_method_22_code
def yX2_leanOf : MethodName := ⟨RX2, "leanOf", "(I)I"⟩
abbrev cX2_flatteryOf : ByteArray := prog_4_method_23_code
def yX2_flatteryOf : MethodName := ⟨RX2, "flatteryOf", "(I)I"⟩
abbrev cX2_flatterer : ByteArray := prog_4_method_24_code
def yX2_flatterer : MethodName := ⟨RX2, "flatterer", "()I"⟩
abbrev cX2_firstOf : ByteArray := prog_4_method_25_code
def yX2_firstOf : MethodName := ⟨RX2, "firstOf", "(I)I"⟩
abbrev cX2_slippedAt : ByteArray := prog_4_method_26_code
def yX2_slippedAt : MethodName := ⟨RX2, "slippedAt", "(II)I"⟩
abbrev cX2_canBeOf : ByteArray := prog_4_method_27_code
def yX2_canBeOf : MethodName := ⟨RX2, "canBeOf", "(II)Z"⟩
abbrev cX2_peopleFitting : ByteArray := prog_4_method_28_code
def yX2_peopleFitting : MethodName := ⟨RX2, "peopleFitting", "(I)I"⟩
abbrev cX2_viewsOf : ByteArray := prog_4_method_29_code
def yX2_viewsOf : MethodName := ⟨RX2, "viewsOf", "(I)I"⟩
abbrev cX2_mostViewsOfOne : ByteArray := prog_4_method_30_code
def yX2_mostViewsOfOne : MethodName := ⟨RX2, "mostViewsOfOne", "()I"⟩
abbrev cX2_sworn : ByteArray := prog_4_method_31_code
def yX2_sworn : MethodName := ⟨RX2, "sworn", "(I)I"⟩
def RX3 : String := "OneMirror$IsleReader"
def TX3 : u_T := fun k => match k with
  | _ => ("", "", "", false)
def tyX3 : Nat → FieldType := fun k => match k with
  | _ => .int
abbrev wsX30 : List Cond := u_ws RX3 TX3 0
theorem nmX3 : ∀ a, a < 0 → ∀ b, b < 0 → a ≠ b → (TX3 a).2.1 ≠ (TX3 b).2.1 := by decide +kernel
theorem tyX3_ok : ∀ k, k < 0 → parseFieldDescriptor (TX3 k).2.2.1 = some (tyX3 k) := by decide +kernel
abbrev cX3_readAll : ByteArray := prog_5_method_2_code
def yX3_readAll : MethodName := ⟨RX3, "readAll", "(LOneMirror$Tape;LOneMirror$Isle;)V"⟩
abbrev cX3_readClause : ByteArray := prog_5_method_3_code
def yX3_readClause : MethodName := ⟨RX3, "readClause", "(LOneMirror$Tape;LOneMirror$Isle;I)V"⟩
abbrev cX3_readPerson : ByteArray := prog_5_method_4_code
def yX3_readPerson : MethodName := ⟨RX3, "readPerson", "(LOneMirror$Tape;LOneMirror$Isle;)V"⟩
abbrev cX3_readTie : ByteArray := prog_5_method_5_code
def yX3_readTie : MethodName := ⟨RX3, "readTie", "(LOneMirror$Tape;LOneMirror$Isle;)V"⟩
abbrev cX3_readBoat : ByteArray := prog_5_method_6_code
def yX3_readBoat : MethodName := ⟨RX3, "readBoat", "(LOneMirror$Tape;LOneMirror$Isle;)V"⟩
abbrev cX3_takeOther : ByteArray := prog_5_method_7_code
def yX3_takeOther : MethodName := ⟨RX3, "takeOther", "(LOneMirror$Tape;LOneMirror$Isle;I)I"⟩
def RX4 : String := "OneMirror$Mind"
def TX4 : u_T := fun k => match k with
  | 0 => ("OneMirror$Mind", "scene", "LOneMirror$Scene;", true)
  | _ => ("OneMirror$Mind", "sums", "[I", true)
def tyX4 : Nat → FieldType := fun k => match k with
  | 0 => .object "OneMirror$Scene"
  | _ => .array .int
abbrev wsX40 : List Cond := u_ws RX4 TX4 2
theorem nmX4 : ∀ a, a < 2 → ∀ b, b < 2 → a ≠ b → (TX4 a).2.1 ≠ (TX4 b).2.1 := by decide +kernel
theorem tyX4_ok : ∀ k, k < 2 → parseFieldDescriptor (TX4 k).2.2.1 = some (tyX4 k) := by decide +kernel
abbrev cX4_init : ByteArray := prog_6_method_1_code
def yX4_init : MethodName := ⟨RX4, "<init>", "()V"⟩
abbrev cX4_told : ByteArray := prog_6_method_2_code
def yX4_told : MethodName := ⟨RX4, "told", "(LOneMirror$Isle;LOneMirror$Rule;IIII)I"⟩
abbrev cX4_weightOf : ByteArray := prog_6_method_3_code
def yX4_weightOf : MethodName := ⟨RX4, "weightOf", "(LOneMirror$Isle;LOneMirror$Rule;I)I"⟩
abbrev cX4_addUp : ByteArray := prog_6_method_4_code
def yX4_addUp : MethodName := ⟨RX4, "addUp", "(LOneMirror$Isle;LOneMirror$Rule;I)V"⟩
abbrev cX4_addLeans : ByteArray := prog_6_method_5_code
def yX4_addLeans : MethodName := ⟨RX4, "addLeans", "(LOneMirror$Isle;I)V"⟩
abbrev cX4_clearSums : ByteArray := prog_6_method_6_code
def yX4_clearSums : MethodName := ⟨RX4, "clearSums", "()V"⟩
abbrev cX4_addFace : ByteArray := prog_6_method_7_code
def yX4_addFace : MethodName := ⟨RX4, "addFace", "(LOneMirror$Isle;II)V"⟩
abbrev cX4_believed : ByteArray := prog_6_method_8_code
def yX4_believed : MethodName := ⟨RX4, "believed", "(LOneMirror$Isle;LOneMirror$Rule;I)I"⟩
abbrev cX4_open : ByteArray := prog_6_method_9_code
def yX4_open : MethodName := ⟨RX4, "open", "(LOneMirror$Isle;LOneMirror$Rule;I)I"⟩
abbrev cX4_marksAbove : ByteArray := prog_6_method_10_code
def yX4_marksAbove : MethodName := ⟨RX4, "marksAbove", "(LOneMirror$Isle;)I"⟩
abbrev cX4_marksEven : ByteArray := prog_6_method_11_code
def yX4_marksEven : MethodName := ⟨RX4, "marksEven", "(LOneMirror$Isle;)I"⟩
abbrev cX4_marksTurnedBy : ByteArray := prog_6_method_12_code
def yX4_marksTurnedBy : MethodName := ⟨RX4, "marksTurnedBy", "(LOneMirror$Isle;LOneMirror$Rule;II)I"⟩
def RX5 : String := "OneMirror$Rounds"
def TX5 : u_T := fun k => match k with
  | 0 => ("OneMirror$Rounds", "reach", "[J", true)
  | 1 => ("OneMirror$Rounds", "worths", "[I", true)
  | 2 => ("OneMirror$Rounds", "seats", "[I", true)
  | 3 => ("OneMirror$Rounds", "words", "I", false)
  | _ => ("OneMirror$Rounds", "best", "I", false)
def tyX5 : Nat → FieldType := fun k => match k with
  | 0 => .array .long
  | 1 => .array .int
  | 2 => .array .int
  | 3 => .int
  | _ => .int
abbrev wsX50 : List Cond := u_ws RX5 TX5 5
theorem nmX5 : ∀ a, a < 5 → ∀ b, b < 5 → a ≠ b → (TX5 a).2.1 ≠ (TX5 b).2.1 := by decide +kernel
theorem tyX5_ok : ∀ k, k < 5 → parseFieldDescriptor (TX5 k).2.2.1 = some (tyX5 k) := by decide +kernel
abbrev cX5_init : ByteArray := prog_7_method_1_code
def yX5_init : MethodName := ⟨RX5, "<init>", "()V"⟩
abbrev cX5_plan : ByteArray := prog_7_method_2_code
def yX5_plan : MethodName := ⟨RX5, "plan", "(LOneMirror$Isle;I)V"⟩
abbrev cX5_addWorths : ByteArray := prog_7_method_3_code
def yX5_addWorths : MethodName := ⟨RX5, "addWorths", "(LOneMirror$Isle;)V"⟩
abbrev cX5_start : ByteArray := prog_7_method_4_code
def yX5_start : MethodName := ⟨RX5, "start", "(II)I"⟩
abbrev cX5_served : ByteArray := prog_7_method_5_code
def yX5_served : MethodName := ⟨RX5, "served", "(LOneMirror$Isle;II)I"⟩
abbrev cX5_canGo : ByteArray := prog_7_method_6_code
def yX5_canGo : MethodName := ⟨RX5, "canGo", "(LOneMirror$Isle;II)Z"⟩
abbrev cX5_gather : ByteArray := prog_7_method_7_code
def yX5_gather : MethodName := ⟨RX5, "gather", "(LOneMirror$Isle;IIZ)V"⟩
abbrev cX5_serve : ByteArray := prog_7_method_8_code
def yX5_serve : MethodName := ⟨RX5, "serve", "(II)V"⟩
abbrev cX5_serveWithinWords : ByteArray := prog_7_method_9_code
def yX5_serveWithinWords : MethodName := ⟨RX5, "serveWithinWords", "(II)V"⟩
abbrev cX5_serveByWords : ByteArray := prog_7_method_10_code
def yX5_serveByWords : MethodName := ⟨RX5, "serveByWords", "(II)V"⟩
abbrev cX5_mostWith : ByteArray := prog_7_method_11_code
def yX5_mostWith : MethodName := ⟨RX5, "mostWith", "(II)I"⟩
abbrev cX5_follow : ByteArray := prog_7_method_12_code
def yX5_follow : MethodName := ⟨RX5, "follow", "(LOneMirror$Isle;I)V"⟩
def RX6 : String := "OneMirror$Rows"
def TX6 : u_T := fun k => match k with
  | 0 => ("OneMirror$Rows", "cells", "[I", true)
  | 1 => ("OneMirror$Rows", "width", "I", true)
  | 2 => ("OneMirror$Rows", "room", "I", true)
  | _ => ("OneMirror$Rows", "size", "I", false)
def tyX6 : Nat → FieldType := fun k => match k with
  | 0 => .array .int
  | 1 => .int
  | 2 => .int
  | _ => .int
abbrev wsX60 : List Cond := u_ws RX6 TX6 4
theorem nmX6 : ∀ a, a < 4 → ∀ b, b < 4 → a ≠ b → (TX6 a).2.1 ≠ (TX6 b).2.1 := by decide +kernel
theorem tyX6_ok : ∀ k, k < 4 → parseFieldDescriptor (TX6 k).2.2.1 = some (tyX6 k) := by decide +kernel
abbrev cX6_init : ByteArray := prog_8_method_1_code
def yX6_init : MethodName := ⟨RX6, "<init>", "(II)V"⟩
abbrev cX6_has : ByteArray := prog_8_method_2_code
def yX6_has : MethodName := ⟨RX6, "has", "(I)Z"⟩
abbrev cX6_isFull : ByteArray := prog_8_method_3_code
def yX6_isFull : MethodName := ⟨RX6, "isFull", "()Z"⟩
abbrev cX6_at : ByteArray := prog_8_method_4_code
def yX6_at : MethodName := ⟨RX6, "at", "(II)I"⟩
abbrev cX6_addRow : ByteArray := prog_8_method_5_code
def yX6_addRow : MethodName := ⟨RX6, "addRow", "()V"⟩
abbrev cX6_put : ByteArray := prog_8_method_6_code
def yX6_put : MethodName := ⟨RX6, "put", "(II)V"⟩
abbrev cX6_cutTo : ByteArray := prog_8_method_7_code
def yX6_cutTo : MethodName := ⟨RX6, "cutTo", "(I)V"⟩
abbrev cX6_copyFrom : ByteArray := prog_8_method_8_code
def yX6_copyFrom : MethodName := ⟨RX6, "copyFrom", "(LOneMirror$Rows;)V"⟩
def RX7 : String := "OneMirror$Rule"
def TX7 : u_T := fun k => match k with
  | 0 => ("OneMirror$Rule", "code", "[I", true)
  | 1 => ("OneMirror$Rule", "clauseKinds", "[I", true)
  | 2 => ("OneMirror$Rule", "starts", "[I", true)
  | 3 => ("OneMirror$Rule", "middles", "[I", true)
  | 4 => ("OneMirror$Rule", "stops", "[I", true)
  | 5 => ("OneMirror$Rule", "length", "I", false)
  | 6 => ("OneMirror$Rule", "clauses", "I", false)
  | _ => ("OneMirror$Rule", "parts", "I", false)
def tyX7 : Nat → FieldType := fun k => match k with
  | 0 => .array .int
  | 1 => .array .int
  | 2 => .array .int
  | 3 => .array .int
  | 4 => .array .int
  | 5 => .int
  | 6 => .int
  | _ => .int
abbrev wsX70 : List Cond := u_ws RX7 TX7 8
theorem nmX7 : ∀ a, a < 8 → ∀ b, b < 8 → a ≠ b → (TX7 a).2.1 ≠ (TX7 b).2.1 := by decide +kernel
theorem tyX7_ok : ∀ k, k < 8 → parseFieldDescriptor (TX7 k).2.2.1 = some (tyX7 k) := by decide +kernel
abbrev cX7_init : ByteArray := prog_9_method_1_code
def yX7_init : MethodName := ⟨RX7, "<init>", "()V"⟩
abbrev cX7_clear : ByteArray := prog_9_method_2_code
def yX7_clear : MethodName := ⟨RX7, "clear", "()V"⟩
abbrev cX7_addCode : ByteArray := prog_9_method_3_code
def yX7_addCode : MethodName := ⟨RX7, "addCode", "(I)V"⟩
abbrev cX7_addClause : ByteArray := prog_9_method_4_code
def yX7_addClause : MethodName := ⟨RX7, "addClause", "(III)V"⟩
abbrev cX7_chosen : ByteArray := prog_9_method_5_code
def yX7_chosen : MethodName := ⟨RX7, "chosen", "(ILOneMirror$Scene;II)I"⟩
abbrev cX7_reckoned : ByteArray := prog_9_method_6_code
def yX7_reckoned : MethodName := ⟨RX7, "reckoned", "(IILOneMirror$Scene;)J"⟩
abbrev cX7_joined : ByteArray := prog_9_method_7_code
def yX7_joined : MethodName := ⟨RX7, "joined", "(IJJ)J"⟩
def RX8 : String := "OneMirror$RuleReader"
def TX8 : u_T := fun k => match k with
  | _ => ("", "", "", false)
def tyX8 : Nat → FieldType := fun k => match k with
  | _ => .int
abbrev wsX80 : List Cond := u_ws RX8 TX8 0
theorem nmX8 : ∀ a, a < 0 → ∀ b, b < 0 → a ≠ b → (TX8 a).2.1 ≠ (TX8 b).2.1 := by decide +kernel
theorem tyX8_ok : ∀ k, k < 0 → parseFieldDescriptor (TX8 k).2.2.1 = some (tyX8 k) := by decide +kernel
abbrev cX8_readAll : ByteArray := prog_10_method_2_code
def yX8_readAll : MethodName := ⟨RX8, "readAll", "(LOneMirror$Tape;LOneMirror$Rule;)V"⟩
abbrev cX8_readClause : ByteArray := prog_10_method_3_code
def yX8_readClause : MethodName := ⟨RX8, "readClause", "(LOneMirror$Tape;LOneMirror$Rule;I)V"⟩
abbrev cX8_readTest : ByteArray := prog_10_method_4_code
def yX8_readTest : MethodName := ⟨RX8, "readTest", "(LOneMirror$Tape;LOneMirror$Rule;I)V"⟩
abbrev cX8_readFact : ByteArray := prog_10_method_5_code
def yX8_readFact : MethodName := ⟨RX8, "readFact", "(LOneMirror$Tape;LOneMirror$Rule;I)V"⟩
abbrev cX8_readOpened : ByteArray := prog_10_method_6_code
def yX8_readOpened : MethodName := ⟨RX8, "readOpened", "(LOneMirror$Tape;LOneMirror$Rule;I)V"⟩
abbrev cX8_isComparing : ByteArray := prog_10_method_7_code
def yX8_isComparing : MethodName := ⟨RX8, "isComparing", "(I)Z"⟩
abbrev cX8_readSum : ByteArray := prog_10_method_8_code
def yX8_readSum : MethodName := ⟨RX8, "readSum", "(LOneMirror$Tape;LOneMirror$Rule;)V"⟩
abbrev cX8_readValue : ByteArray := prog_10_method_9_code
def yX8_readValue : MethodName := ⟨RX8, "readValue", "(LOneMirror$Tape;LOneMirror$Rule;)V"⟩
def RX9 : String := "OneMirror$Scene"
def TX9 : u_T := fun k => match k with
  | 0 => ("OneMirror$Scene", "words", "[J", true)
  | _ => ("OneMirror$Scene", "stack", "[J", true)
def tyX9 : Nat → FieldType := fun k => match k with
  | 0 => .array .long
  | _ => .array .long
abbrev wsX90 : List Cond := u_ws RX9 TX9 2
theorem nmX9 : ∀ a, a < 2 → ∀ b, b < 2 → a ≠ b → (TX9 a).2.1 ≠ (TX9 b).2.1 := by decide +kernel
theorem tyX9_ok : ∀ k, k < 2 → parseFieldDescriptor (TX9 k).2.2.1 = some (tyX9 k) := by decide +kernel
abbrev cX9_init : ByteArray := prog_11_method_1_code
def yX9_init : MethodName := ⟨RX9, "<init>", "()V"⟩
abbrev cX9_set : ByteArray := prog_11_method_2_code
def yX9_set : MethodName := ⟨RX9, "set", "(LOneMirror$Isle;IIII)V"⟩
abbrev cX9_setAs : ByteArray := prog_11_method_3_code
def yX9_setAs : MethodName := ⟨RX9, "setAs", "(LOneMirror$Isle;I)V"⟩
def RX10 : String := "OneMirror$Tape"
def TX10 : u_T := fun k => match k with
  | 0 => ("OneMirror$Tape", "bytes", "[I", true)
  | 1 => ("OneMirror$Tape", "kinds", "[I", true)
  | 2 => ("OneMirror$Tape", "places", "[I", true)
  | 3 => ("OneMirror$Tape", "numbers", "[I", true)
  | 4 => ("OneMirror$Tape", "used", "I", false)
  | 5 => ("OneMirror$Tape", "tokens", "I", false)
  | 6 => ("OneMirror$Tape", "cursor", "I", false)
  | 7 => ("OneMirror$Tape", "fault", "I", false)
  | 8 => ("OneMirror$Tape", "kind", "I", false)
  | _ => ("OneMirror$Tape", "number", "I", false)
def tyX10 : Nat → FieldType := fun k => match k with
  | 0 => .array .int
  | 1 => .array .int
  | 2 => .array .int
  | 3 => .array .int
  | 4 => .int
  | 5 => .int
  | 6 => .int
  | 7 => .int
  | 8 => .int
  | _ => .int
abbrev wsX100 : List Cond := u_ws RX10 TX10 10
theorem nmX10 : ∀ a, a < 10 → ∀ b, b < 10 → a ≠ b → (TX10 a).2.1 ≠ (TX10 b).2.1 := by decide +kernel
theorem tyX10_ok : ∀ k, k < 10 → parseFieldDescriptor (TX10 k).2.2.1 = some (tyX10 k) := by decide +kernel
abbrev cX10_init : ByteArray := prog_12_method_1_code
def yX10_init : MethodName := ⟨RX10, "<init>", "()V"⟩
abbrev cX10_append : ByteArray := prog_12_method_2_code
def yX10_append : MethodName := ⟨RX10, "append", "(I)V"⟩
abbrev cX10_scan : ByteArray := prog_12_method_3_code
def yX10_scan : MethodName := ⟨RX10, "scan", "()V"⟩
abbrev cX10_scanOne : ByteArray := prog_12_method_4_code
def yX10_scanOne : MethodName := ⟨RX10, "scanOne", "(I)I"⟩
abbrev cX10_scanNumber : ByteArray := prog_12_method_5_code
def yX10_scanNumber : MethodName := ⟨RX10, "scanNumber", "(I)I"⟩
abbrev cX10_scanWord : ByteArray := prog_12_method_6_code
def yX10_scanWord : MethodName := ⟨RX10, "scanWord", "(I)I"⟩
abbrev cX10_wordOf : ByteArray := prog_12_method_7_code
def yX10_wordOf : MethodName := ⟨RX10, "wordOf", "(II)I"⟩
abbrev cX10_isWordAt : ByteArray := prog_12_method_8_code
def yX10_isWordAt : MethodName := ⟨RX10, "isWordAt", "(III)Z"⟩
abbrev cX10_byteAt : ByteArray := prog_12_method_9_code
def yX10_byteAt : MethodName := ⟨RX10, "byteAt", "(I)I"⟩
abbrev cX10_isDigit : ByteArray := prog_12_method_10_code
def yX10_isDigit : MethodName := ⟨RX10, "isDigit", "(I)Z"⟩
abbrev cX10_isLetter : ByteArray := prog_12_method_11_code
def yX10_isLetter : MethodName := ⟨RX10, "isLetter", "(I)Z"⟩
abbrev cX10_addToken : ByteArray := prog_12_method_12_code
def yX10_addToken : MethodName := ⟨RX10, "addToken", "(III)V"⟩
abbrev cX10_step : ByteArray := prog_12_method_13_code
def yX10_step : MethodName := ⟨RX10, "step", "()V"⟩
abbrev cX10_refuse : ByteArray := prog_12_method_14_code
def yX10_refuse : MethodName := ⟨RX10, "refuse", "(I)V"⟩
abbrev cX10_takeNumber : ByteArray := prog_12_method_15_code
def yX10_takeNumber : MethodName := ⟨RX10, "takeNumber", "(II)I"⟩
def RX11 : String := "OneMirror"
def TX11 : u_T := fun k => match k with
  | 0 => ("OneMirror", "tape", "LOneMirror$Tape;", true)
  | 1 => ("OneMirror", "rules", "[LOneMirror$Rule;", true)
  | 2 => ("OneMirror", "noRule", "LOneMirror$Rule;", true)
  | 3 => ("OneMirror", "images", "[LOneMirror$Isle;", true)
  | 4 => ("OneMirror", "isMade", "[Z", true)
  | 5 => ("OneMirror", "history", "LOneMirror$History;", true)
  | 6 => ("OneMirror", "mind", "LOneMirror$Mind;", true)
  | 7 => ("OneMirror", "rounds", "LOneMirror$Rounds;", true)
  | 8 => ("OneMirror", "faces", "LOneMirror$Faces;", true)
  | 9 => ("OneMirror", "isle", "LOneMirror$Isle;", false)
  | 10 => ("OneMirror", "spare", "LOneMirror$Isle;", false)
  | _ => ("OneMirror", "ruleCount", "I", false)
def tyX11 : Nat → FieldType := fun k => match k with
  | 0 => .object "OneMirror$Tape"
  | 1 => .array (.object "OneMirror$Rule")
  | 2 => .object "OneMirror$Rule"
  | 3 => .array (.object "OneMirror$Isle")
  | 4 => .array .boolean
  | 5 => .object "OneMirror$History"
  | 6 => .object "OneMirror$Mind"
  | 7 => .object "OneMirror$Rounds"
  | 8 => .object "OneMirror$Faces"
  | 9 => .object "OneMirror$Isle"
  | 10 => .object "OneMirror$Isle"
  | _ => .int
abbrev wsX110 : List Cond := u_ws RX11 TX11 12
theorem nmX11 : ∀ a, a < 12 → ∀ b, b < 12 → a ≠ b → (TX11 a).2.1 ≠ (TX11 b).2.1 := by decide +kernel
theorem tyX11_ok : ∀ k, k < 12 → parseFieldDescriptor (TX11 k).2.2.1 = some (tyX11 k) := by decide +kernel
abbrev cX11_init : ByteArray := prog_1_method_1_code
def yX11_init : MethodName := ⟨RX11, "<init>", "()V"⟩
abbrev cX11_feed : ByteArray := prog_1_method_2_code
def yX11_feed : MethodName := ⟨RX11, "feed", "(IIIII)I"⟩
abbrev cX11_end : ByteArray := prog_1_method_3_code
def yX11_end : MethodName := ⟨RX11, "end", "(I)I"⟩
abbrev cX11_island : ByteArray := prog_1_method_4_code
def yX11_island : MethodName := ⟨RX11, "island", "()I"⟩
abbrev cX11_rule : ByteArray := prog_1_method_5_code
def yX11_rule : MethodName := ⟨RX11, "rule", "()I"⟩
abbrev cX11_force : ByteArray := prog_1_method_6_code
def yX11_force : MethodName := ⟨RX11, "force", "(I)I"⟩
abbrev cX11_person : ByteArray := prog_1_method_7_code
def yX11_person : MethodName := ⟨RX11, "person", "(II)I"⟩
abbrev cX11_sum : ByteArray := prog_1_method_8_code
def yX11_sum : MethodName := ⟨RX11, "sum", "(II)I"⟩
abbrev cX11_tie : ByteArray := prog_1_method_9_code
def yX11_tie : MethodName := ⟨RX11, "tie", "(II)I"⟩
abbrev cX11_telling : ByteArray := prog_1_method_10_code
def yX11_telling : MethodName := ⟨RX11, "telling", "(II)I"⟩
abbrev cX11_tell : ByteArray := prog_1_method_11_code
def yX11_tell : MethodName := ⟨RX11, "tell", "(IIII)I"⟩
abbrev cX11_retell : ByteArray := prog_1_method_12_code
def yX11_retell : MethodName := ⟨RX11, "retell", "(III)I"⟩
abbrev cX11_look : ByteArray := prog_1_method_13_code
def yX11_look : MethodName := ⟨RX11, "look", "()I"⟩
abbrev cX11_give : ByteArray := prog_1_method_14_code
def yX11_give : MethodName := ⟨RX11, "give", "(I)I"⟩
abbrev cX11_save : ByteArray := prog_1_method_15_code
def yX11_save : MethodName := ⟨RX11, "save", "()I"⟩
abbrev cX11_sell : ByteArray := prog_1_method_16_code
def yX11_sell : MethodName := ⟨RX11, "sell", "(III)I"⟩
abbrev cX11_spend : ByteArray := prog_1_method_17_code
def yX11_spend : MethodName := ⟨RX11, "spend", "(I)I"⟩
abbrev cX11_keep : ByteArray := prog_1_method_18_code
def yX11_keep : MethodName := ⟨RX11, "keep", "(Z)Z"⟩
abbrev cX11_rest : ByteArray := prog_1_method_19_code
def yX11_rest : MethodName := ⟨RX11, "rest", "()I"⟩
abbrev cX11_undo : ByteArray := prog_1_method_20_code
def yX11_undo : MethodName := ⟨RX11, "undo", "()I"⟩
abbrev cX11_run : ByteArray := prog_1_method_21_code
def yX11_run : MethodName := ⟨RX11, "run", "(II)I"⟩
abbrev cX11_lean : ByteArray := prog_1_method_22_code
def yX11_lean : MethodName := ⟨RX11, "lean", "(I)I"⟩
abbrev cX11_likeliest : ByteArray := prog_1_method_23_code
def yX11_likeliest : MethodName := ⟨RX11, "likeliest", "(II)I"⟩
abbrev cX11_flatters : ByteArray := prog_1_method_24_code
def yX11_flatters : MethodName := ⟨RX11, "flatters", "(II)I"⟩
abbrev cX11_ask : ByteArray := prog_1_method_25_code
def yX11_ask : MethodName := ⟨RX11, "ask", "(II)I"⟩
abbrev cX11_chain : ByteArray := prog_1_method_26_code
def yX11_chain : MethodName := ⟨RX11, "chain", "(II)I"⟩
abbrev cX11_slip : ByteArray := prog_1_method_27_code
def yX11_slip : MethodName := ⟨RX11, "slip", "(II)I"⟩
abbrev cX11_wish : ByteArray := prog_1_method_28_code
def yX11_wish : MethodName := ⟨RX11, "wish", "(IIII)I"⟩
abbrev cX11_round : ByteArray := prog_1_method_29_code
def yX11_round : MethodName := ⟨RX11, "round", "(II)I"⟩
abbrev cX11_view : ByteArray := prog_1_method_30_code
def yX11_view : MethodName := ⟨RX11, "view", "(II)I"⟩
abbrev cX11_fits : ByteArray := prog_1_method_31_code
def yX11_fits : MethodName := ⟨RX11, "fits", "(I)I"⟩
abbrev cX11_views : ByteArray := prog_1_method_32_code
def yX11_views : MethodName := ⟨RX11, "views", "(I)I"⟩
abbrev cX11_seed : ByteArray := prog_1_method_33_code
def yX11_seed : MethodName := ⟨RX11, "seed", "(I)I"⟩
abbrev cX11_drawn : ByteArray := prog_1_method_34_code
def yX11_drawn : MethodName := ⟨RX11, "drawn", "(IIIII)I"⟩
abbrev cX11_count : ByteArray := prog_1_method_35_code
def yX11_count : MethodName := ⟨RX11, "count", "(I)I"⟩
abbrev cX11_image : ByteArray := prog_1_method_36_code
def yX11_image : MethodName := ⟨RX11, "image", "(I)I"⟩
abbrev cX11_back : ByteArray := prog_1_method_37_code
def yX11_back : MethodName := ⟨RX11, "back", "(I)I"⟩
abbrev cX11_isRule : ByteArray := prog_1_method_38_code
def yX11_isRule : MethodName := ⟨RX11, "isRule", "(I)Z"⟩
abbrev cX11_isRuleOrNone : ByteArray := prog_1_method_39_code
def yX11_isRuleOrNone : MethodName := ⟨RX11, "isRuleOrNone", "(I)Z"⟩
abbrev cX11_ruleAt : ByteArray := prog_1_method_40_code
def yX11_ruleAt : MethodName := ⟨RX11, "ruleAt", "(I)LOneMirror$Rule;"⟩
abbrev cX11_inForce : ByteArray := prog_1_method_41_code
def yX11_inForce : MethodName := ⟨RX11, "inForce", "()LOneMirror$Rule;"⟩
abbrev cX11_canAct : ByteArray := prog_1_method_42_code
def yX11_canAct : MethodName := ⟨RX11, "canAct", "()Z"⟩
abbrev cX11_canTell : ByteArray := prog_1_method_43_code
def yX11_canTell : MethodName := ⟨RX11, "canTell", "()Z"⟩
abbrev cX11_runHour : ByteArray := prog_1_method_44_code
def yX11_runHour : MethodName := ⟨RX11, "runHour", "(LOneMirror$Rule;)V"⟩
abbrev cX11_tellWhoHeedsMost : ByteArray := prog_1_method_45_code
def yX11_tellWhoHeedsMost : MethodName := ⟨RX11, "tellWhoHeedsMost", "(LOneMirror$Rule;)V"⟩
abbrev cX11_drawHour : ByteArray := prog_1_method_46_code
def yX11_drawHour : MethodName := ⟨RX11, "drawHour", "(LOneMirror$Isle;LOneMirror$Rule;I)V"⟩
abbrev cX11_drawSlips : ByteArray := prog_1_method_47_code
def yX11_drawSlips : MethodName := ⟨RX11, "drawSlips", "(LOneMirror$Isle;I)I"⟩
abbrev cX11_peopleWhoKnow : ByteArray := prog_1_method_48_code
def yX11_peopleWhoKnow : MethodName := ⟨RX11, "peopleWhoKnow", "(LOneMirror$Isle;)I"⟩
abbrev cX11_marksOpen : ByteArray := prog_1_method_49_code
def yX11_marksOpen : MethodName := ⟨RX11, "marksOpen", "(LOneMirror$Isle;)I"⟩
def RX12 : String := "OneMirrorModel"
def TX12 : u_T := fun k => match k with
  | 0 => ("OneMirrorModel", "tape", "[B", true)
  | 1 => ("OneMirrorModel", "taped", "I", false)
  | 2 => ("OneMirrorModel", "rules", "I", false)
  | 3 => ("OneMirrorModel", "sign", "[I", true)
  | 4 => ("OneMirrorModel", "length", "[I", true)
  | 5 => ("OneMirrorModel", "clause", "[I", true)
  | 6 => ("OneMirrorModel", "clauses", "[I", true)
  | 7 => ("OneMirrorModel", "read", "[I", true)
  | 8 => ("OneMirrorModel", "next", "I", false)
  | 9 => ("OneMirrorModel", "wrong", "I", false)
  | 10 => ("OneMirrorModel", "number", "I", false)
  | 11 => ("OneMirrorModel", "text", "I", false)
  | 12 => ("OneMirrorModel", "made", "I", false)
  | 13 => ("OneMirrorModel", "deep", "I", false)
  | 14 => ("OneMirrorModel", "lines", "I", false)
  | 15 => ("OneMirrorModel", "open", "[I", true)
  | 16 => ("OneMirrorModel", "opened", "I", false)
  | 17 => ("OneMirrorModel", "firstHere", "I", false)
  | 18 => ("OneMirrorModel", "stack", "[J", true)
  | 19 => ("OneMirrorModel", "top", "I", false)
  | 20 => ("OneMirrorModel", "word", "[J", true)
  | 21 => ("OneMirrorModel", "said", "[I", true)
  | 22 => ("OneMirrorModel", "force", "I", false)
  | 23 => ("OneMirrorModel", "x", "I", false)
  | 24 => ("OneMirrorModel", "wasSaid", "[I", true)
  | 25 => ("OneMirrorModel", "undone", "I", false)
  | 26 => ("OneMirrorModel", "worthBy", "[I", true)
  | 27 => ("OneMirrorModel", "fewest", "[I", true)
  | 28 => ("OneMirrorModel", "kept", "[I", true)
  | 29 => ("OneMirrorModel", "drawX", "J", false)
  | 30 => ("OneMirrorModel", "images", "[I", true)
  | 31 => ("OneMirrorModel", "imageForce", "[I", true)
  | 32 => ("OneMirrorModel", "imageX", "[I", true)
  | _ => ("OneMirrorModel", "isMade", "[Z", true)
def tyX12 : Nat → FieldType := fun k => match k with
  | 0 => .array .byte
  | 1 => .int
  | 2 => .int
  | 3 => .array .int
  | 4 => .array .int
  | 5 => .array .int
  | 6 => .array .int
  | 7 => .array .int
  | 8 => .int
  | 9 => .int
  | 10 => .int
  | 11 => .int
  | 12 => .int
  | 13 => .int
  | 14 => .int
  | 15 => .array .int
  | 16 => .int
  | 17 => .int
  | 18 => .array .long
  | 19 => .int
  | 20 => .array .long
  | 21 => .array .int
  | 22 => .int
  | 23 => .int
  | 24 => .array .int
  | 25 => .int
  | 26 => .array .int
  | 27 => .array .int
  | 28 => .array .int
  | 29 => .long
  | 30 => .array .int
  | 31 => .array .int
  | 32 => .array .int
  | _ => .array .boolean
abbrev wsX120 : List Cond := u_ws RX12 TX12 34
theorem nmX12 : ∀ a, a < 34 → ∀ b, b < 34 → a ≠ b → (TX12 a).2.1 ≠ (TX12 b).2.1 := by decide +kernel
theorem tyX12_ok : ∀ k, k < 34 → parseFieldDescriptor (TX12 k).2.2.1 = some (tyX12 k) := by decide +kernel
abbrev cX12_init : ByteArray := prog_14_method_1_code
def yX12_init : MethodName := ⟨RX12, "<init>", "()V"⟩
abbrev cX12_in : ByteArray := prog_14_method_2_code
def yX12_in : MethodName := ⟨RX12, "in", "(JJJ)Z"⟩
abbrev cX12_isOf : ByteArray := prog_14_method_3_code
def yX12_isOf : MethodName := ⟨RX12, "isOf", "(II)Z"⟩
abbrev cX12_bits : ByteArray := prog_14_method_4_code
def yX12_bits : MethodName := ⟨RX12, "bits", "(I)I"⟩
abbrev cX12_four : ByteArray := prog_14_method_5_code
def yX12_four : MethodName := ⟨RX12, "four", "(I)V"⟩
abbrev cX12_feed : ByteArray := prog_14_method_6_code
def yX12_feed : MethodName := ⟨RX12, "feed", "(IIIII)I"⟩
abbrev cX12_end : ByteArray := prog_14_method_7_code
def yX12_end : MethodName := ⟨RX12, "end", "(I)I"⟩
abbrev cX12_fails : ByteArray := prog_14_method_8_code
def yX12_fails : MethodName := ⟨RX12, "fails", "(II)Z"⟩
abbrev cX12_see : ByteArray := prog_14_method_9_code
def yX12_see : MethodName := ⟨RX12, "see", "()I"⟩
abbrev cX12_isDigit : ByteArray := prog_14_method_10_code
def yX12_isDigit : MethodName := ⟨RX12, "isDigit", "(I)Z"⟩
abbrev cX12_isLetter : ByteArray := prog_14_method_11_code
def yX12_isLetter : MethodName := ⟨RX12, "isLetter", "(I)Z"⟩
abbrev cX12_isWord : ByteArray := prog_14_method_12_code
def yX12_isWord : MethodName := ⟨RX12, "isWord", "(J)Z"⟩
abbrev cX12_passWord : ByteArray := prog_14_method_13_code
def yX12_passWord : MethodName := ⟨RX12, "passWord", "()V"⟩
abbrev cX12_takesWord : ByteArray := prog_14_method_14_code
def yX12_takesWord : MethodName := ⟨RX12, "takesWord", "(J)Z"⟩
abbrev cX12_numberHere : ByteArray := prog_14_method_15_code
def yX12_numberHere : MethodName := ⟨RX12, "numberHere", "(II)Z"⟩
abbrev cX12_wordHere : ByteArray := prog_14_method_16_code
def yX12_wordHere : MethodName := ⟨RX12, "wordHere", "()I"⟩
abbrev cX12_puts : ByteArray := prog_14_method_17_code
def yX12_puts : MethodName := ⟨RX12, "puts", "(II)V"⟩
abbrev cX12_makes : ByteArray := prog_14_method_18_code
def yX12_makes : MethodName := ⟨RX12, "makes", "(I)Z"⟩
abbrev cX12_opens : ByteArray := prog_14_method_19_code
def yX12_opens : MethodName := ⟨RX12, "opens", "(I)Z"⟩
abbrev cX12_strength : ByteArray := prog_14_method_20_code
def yX12_strength : MethodName := ⟨RX12, "strength", "(I)I"⟩
abbrev cX12_settles : ByteArray := prog_14_method_21_code
def yX12_settles : MethodName := ⟨RX12, "settles", "(I)V"⟩
abbrev cX12_value : ByteArray := prog_14_method_22_code
def yX12_value : MethodName := ⟨RX12, "value", "()Z"⟩
abbrev cX12_term : ByteArray := prog_14_method_23_code
def yX12_term : MethodName := ⟨RX12, "term", "()Z"⟩
abbrev cX12_summed : ByteArray := prog_14_method_24_code
def yX12_summed : MethodName := ⟨RX12, "summed", "()Z"⟩
abbrev cX12_compare : ByteArray := prog_14_method_25_code
def yX12_compare : MethodName := ⟨RX12, "compare", "()Z"⟩
abbrev cX12_fact : ByteArray := prog_14_method_26_code
def yX12_fact : MethodName := ⟨RX12, "fact", "()Z"⟩
abbrev cX12_isInside : ByteArray := prog_14_method_27_code
def yX12_isInside : MethodName := ⟨RX12, "isInside", "()Z"⟩
abbrev cX12_closes : ByteArray := prog_14_method_28_code
def yX12_closes : MethodName := ⟨RX12, "closes", "()V"⟩
abbrev cX12_tested : ByteArray := prog_14_method_29_code
def yX12_tested : MethodName := ⟨RX12, "tested", "()Z"⟩
abbrev cX12_isDoingHere : ByteArray := prog_14_method_30_code
def yX12_isDoingHere : MethodName := ⟨RX12, "isDoingHere", "(I)Z"⟩
abbrev cX12_cellHere : ByteArray := prog_14_method_31_code
def yX12_cellHere : MethodName := ⟨RX12, "cellHere", "(III)Z"⟩
abbrev cX12_areMarksHere : ByteArray := prog_14_method_32_code
def yX12_areMarksHere : MethodName := ⟨RX12, "areMarksHere", "(I)Z"⟩
abbrev cX12_isPersonHere : ByteArray := prog_14_method_33_code
def yX12_isPersonHere : MethodName := ⟨RX12, "isPersonHere", "(I)Z"⟩
abbrev cX12_twoHere : ByteArray := prog_14_method_34_code
def yX12_twoHere : MethodName := ⟨RX12, "twoHere", "()Z"⟩
abbrev cX12_isTieHere : ByteArray := prog_14_method_35_code
def yX12_isTieHere : MethodName := ⟨RX12, "isTieHere", "()Z"⟩
abbrev cX12_isBoatHere : ByteArray := prog_14_method_36_code
def yX12_isBoatHere : MethodName := ⟨RX12, "isBoatHere", "()Z"⟩
abbrev cX12_isGlassHere : ByteArray := prog_14_method_37_code
def yX12_isGlassHere : MethodName := ⟨RX12, "isGlassHere", "()Z"⟩
abbrev cX12_islandLineHere : ByteArray := prog_14_method_38_code
def yX12_islandLineHere : MethodName := ⟨RX12, "islandLineHere", "(I)Z"⟩
abbrev cX12_isIslandWord : ByteArray := prog_14_method_39_code
def yX12_isIslandWord : MethodName := ⟨RX12, "isIslandWord", "()Z"⟩
abbrev cX12_clauseHere : ByteArray := prog_14_method_40_code
def yX12_clauseHere : MethodName := ⟨RX12, "clauseHere", "()Z"⟩
abbrev cX12_readsAll : ByteArray := prog_14_method_41_code
def yX12_readsAll : MethodName := ⟨RX12, "readsAll", "()Z"⟩
abbrev cX12_rule : ByteArray := prog_14_method_42_code
def yX12_rule : MethodName := ⟨RX12, "rule", "()I"⟩
abbrev cX12_island : ByteArray := prog_14_method_43_code
def yX12_island : MethodName := ⟨RX12, "island", "()I"⟩
abbrev cX12_isRule : ByteArray := prog_14_method_44_code
def yX12_isRule : MethodName := ⟨RX12, "isRule", "(I)Z"⟩
abbrev cX12_push : ByteArray := prog_14_method_45_code
def yX12_push : MethodName := ⟨RX12, "push", "(J)V"⟩
abbrev cX12_pop : ByteArray := prog_14_method_46_code
def yX12_pop : MethodName := ⟨RX12, "pop", "()J"⟩
abbrev cX12_one : ByteArray := prog_14_method_47_code
def yX12_one : MethodName := ⟨RX12, "one", "(IJJ)J"⟩
abbrev cX12_reckons : ByteArray := prog_14_method_48_code
def yX12_reckons : MethodName := ⟨RX12, "reckons", "(III)J"⟩
abbrev cX12_isIsland : ByteArray := prog_14_method_49_code
def yX12_isIsland : MethodName := ⟨RX12, "isIsland", "()Z"⟩
abbrev cX12_isPerson : ByteArray := prog_14_method_50_code
def yX12_isPerson : MethodName := ⟨RX12, "isPerson", "(I)Z"⟩
abbrev cX12_isTelling : ByteArray := prog_14_method_51_code
def yX12_isTelling : MethodName := ⟨RX12, "isTelling", "(I)Z"⟩
abbrev cX12_personOf : ByteArray := prog_14_method_52_code
def yX12_personOf : MethodName := ⟨RX12, "personOf", "(II)I"⟩
abbrev cX12_tellingOf : ByteArray := prog_14_method_53_code
def yX12_tellingOf : MethodName := ⟨RX12, "tellingOf", "(II)I"⟩
abbrev cX12_tieOf : ByteArray := prog_14_method_54_code
def yX12_tieOf : MethodName := ⟨RX12, "tieOf", "(II)I"⟩
abbrev cX12_isLook : ByteArray := prog_14_method_55_code
def yX12_isLook : MethodName := ⟨RX12, "isLook", "(I)Z"⟩
abbrev cX12_allMarks : ByteArray := prog_14_method_56_code
def yX12_allMarks : MethodName := ⟨RX12, "allMarks", "()I"⟩
abbrev cX12_stepsOf : ByteArray := prog_14_method_57_code
def yX12_stepsOf : MethodName := ⟨RX12, "stepsOf", "(I)I"⟩
abbrev cX12_force : ByteArray := prog_14_method_58_code
def yX12_force : MethodName := ⟨RX12, "force", "(I)I"⟩
abbrev cX12_words : ByteArray := prog_14_method_59_code
def yX12_words : MethodName := ⟨RX12, "words", "(IIIIII)V"⟩
abbrev cX12_clauseFor : ByteArray := prog_14_method_60_code
def yX12_clauseFor : MethodName := ⟨RX12, "clauseFor", "(II)I"⟩
abbrev cX12_heldSum : ByteArray := prog_14_method_61_code
def yX12_heldSum : MethodName := ⟨RX12, "heldSum", "(III)I"⟩
abbrev cX12_weightOf : ByteArray := prog_14_method_62_code
def yX12_weightOf : MethodName := ⟨RX12, "weightOf", "(I)I"⟩
abbrev cX12_sumOf : ByteArray := prog_14_method_63_code
def yX12_sumOf : MethodName := ⟨RX12, "sumOf", "(II)I"⟩
abbrev cX12_believedBy : ByteArray := prog_14_method_64_code
def yX12_believedBy : MethodName := ⟨RX12, "believedBy", "(I)I"⟩
abbrev cX12_openOf : ByteArray := prog_14_method_65_code
def yX12_openOf : MethodName := ⟨RX12, "openOf", "(I)I"⟩
abbrev cX12_person : ByteArray := prog_14_method_66_code
def yX12_person : MethodName := ⟨RX12, "person", "(II)I"⟩
abbrev cX12_sum : ByteArray := prog_14_method_67_code
def yX12_sum : MethodName := ⟨RX12, "sum", "(II)I"⟩
abbrev cX12_tie : ByteArray := prog_14_method_68_code
def yX12_tie : MethodName := ⟨RX12, "tie", "(II)I"⟩
abbrev cX12_telling : ByteArray := prog_14_method_69_code
def yX12_telling : MethodName := ⟨RX12, "telling", "(II)I"⟩
abbrev cX12_keepsAct : ByteArray := prog_14_method_70_code
def yX12_keepsAct : MethodName := ⟨RX12, "keepsAct", "()V"⟩
abbrev cX12_undo : ByteArray := prog_14_method_71_code
def yX12_undo : MethodName := ⟨RX12, "undo", "()I"⟩
abbrev cX12_isHourLeft : ByteArray := prog_14_method_72_code
def yX12_isHourLeft : MethodName := ⟨RX12, "isHourLeft", "()Z"⟩
abbrev cX12_comes : ByteArray := prog_14_method_73_code
def yX12_comes : MethodName := ⟨RX12, "comes", "(IIIII)V"⟩
abbrev cX12_faceBy : ByteArray := prog_14_method_74_code
def yX12_faceBy : MethodName := ⟨RX12, "faceBy", "(IIII)I"⟩
abbrev cX12_mayBe : ByteArray := prog_14_method_75_code
def yX12_mayBe : MethodName := ⟨RX12, "mayBe", "(I)Z"⟩
abbrev cX12_tell : ByteArray := prog_14_method_76_code
def yX12_tell : MethodName := ⟨RX12, "tell", "(IIII)I"⟩
abbrev cX12_retell : ByteArray := prog_14_method_77_code
def yX12_retell : MethodName := ⟨RX12, "retell", "(III)I"⟩
abbrev cX12_looks : ByteArray := prog_14_method_78_code
def yX12_looks : MethodName := ⟨RX12, "looks", "()V"⟩
abbrev cX12_look : ByteArray := prog_14_method_79_code
def yX12_look : MethodName := ⟨RX12, "look", "()I"⟩
abbrev cX12_glassGoes : ByteArray := prog_14_method_80_code
def yX12_glassGoes : MethodName := ⟨RX12, "glassGoes", "(I)V"⟩
abbrev cX12_give : ByteArray := prog_14_method_81_code
def yX12_give : MethodName := ⟨RX12, "give", "(I)I"⟩
abbrev cX12_save : ByteArray := prog_14_method_82_code
def yX12_save : MethodName := ⟨RX12, "save", "()I"⟩
abbrev cX12_sell : ByteArray := prog_14_method_83_code
def yX12_sell : MethodName := ⟨RX12, "sell", "(III)I"⟩
abbrev cX12_spend : ByteArray := prog_14_method_84_code
def yX12_spend : MethodName := ⟨RX12, "spend", "(I)I"⟩
abbrev cX12_keep : ByteArray := prog_14_method_85_code
def yX12_keep : MethodName := ⟨RX12, "keep", "(Z)Z"⟩
abbrev cX12_rest : ByteArray := prog_14_method_86_code
def yX12_rest : MethodName := ⟨RX12, "rest", "()I"⟩
abbrev cX12_heeding : ByteArray := prog_14_method_87_code
def yX12_heeding : MethodName := ⟨RX12, "heeding", "(I)I"⟩
abbrev cX12_passes : ByteArray := prog_14_method_88_code
def yX12_passes : MethodName := ⟨RX12, "passes", "(I)V"⟩
abbrev cX12_run : ByteArray := prog_14_method_89_code
def yX12_run : MethodName := ⟨RX12, "run", "(II)I"⟩
abbrev cX12_leanOf : ByteArray := prog_14_method_90_code
def yX12_leanOf : MethodName := ⟨RX12, "leanOf", "(I)I"⟩
abbrev cX12_lean : ByteArray := prog_14_method_91_code
def yX12_lean : MethodName := ⟨RX12, "lean", "(I)I"⟩
abbrev cX12_countFor : ByteArray := prog_14_method_92_code
def yX12_countFor : MethodName := ⟨RX12, "countFor", "(II)I"⟩
abbrev cX12_likeliest : ByteArray := prog_14_method_93_code
def yX12_likeliest : MethodName := ⟨RX12, "likeliest", "(II)I"⟩
abbrev cX12_flatteryOf : ByteArray := prog_14_method_94_code
def yX12_flatteryOf : MethodName := ⟨RX12, "flatteryOf", "(I)I"⟩
abbrev cX12_flatters : ByteArray := prog_14_method_95_code
def yX12_flatters : MethodName := ⟨RX12, "flatters", "(II)I"⟩
abbrev cX12_turnedBy : ByteArray := prog_14_method_96_code
def yX12_turnedBy : MethodName := ⟨RX12, "turnedBy", "(II)I"⟩
abbrev cX12_ask : ByteArray := prog_14_method_97_code
def yX12_ask : MethodName := ⟨RX12, "ask", "(II)I"⟩
abbrev cX12_chain : ByteArray := prog_14_method_98_code
def yX12_chain : MethodName := ⟨RX12, "chain", "(II)I"⟩
abbrev cX12_slip : ByteArray := prog_14_method_99_code
def yX12_slip : MethodName := ⟨RX12, "slip", "(II)I"⟩
abbrev cX12_wish : ByteArray := prog_14_method_100_code
def yX12_wish : MethodName := ⟨RX12, "wish", "(IIII)I"⟩
abbrev cX12_servedAt : ByteArray := prog_14_method_101_code
def yX12_servedAt : MethodName := ⟨RX12, "servedAt", "(III)I"⟩
abbrev cX12_worthOf : ByteArray := prog_14_method_102_code
def yX12_worthOf : MethodName := ⟨RX12, "worthOf", "(I)I"⟩
abbrev cX12_placeAt : ByteArray := prog_14_method_103_code
def yX12_placeAt : MethodName := ⟨RX12, "placeAt", "(III)I"⟩
abbrev cX12_mostFrom : ByteArray := prog_14_method_104_code
def yX12_mostFrom : MethodName := ⟨RX12, "mostFrom", "(IIII)I"⟩
abbrev cX12_fillsRounds : ByteArray := prog_14_method_105_code
def yX12_fillsRounds : MethodName := ⟨RX12, "fillsRounds", "(I)V"⟩
abbrev cX12_round : ByteArray := prog_14_method_106_code
def yX12_round : MethodName := ⟨RX12, "round", "(II)I"⟩
abbrev cX12_view : ByteArray := prog_14_method_107_code
def yX12_view : MethodName := ⟨RX12, "view", "(II)I"⟩
abbrev cX12_viewsOf : ByteArray := prog_14_method_108_code
def yX12_viewsOf : MethodName := ⟨RX12, "viewsOf", "(I)I"⟩
abbrev cX12_fits : ByteArray := prog_14_method_109_code
def yX12_fits : MethodName := ⟨RX12, "fits", "(I)I"⟩
abbrev cX12_fewestFaces : ByteArray := prog_14_method_110_code
def yX12_fewestFaces : MethodName := ⟨RX12, "fewestFaces", "()I"⟩
abbrev cX12_views : ByteArray := prog_14_method_111_code
def yX12_views : MethodName := ⟨RX12, "views", "(I)I"⟩
abbrev cX12_seed : ByteArray := prog_14_method_112_code
def yX12_seed : MethodName := ⟨RX12, "seed", "(I)I"⟩
abbrev cX12_draw : ByteArray := prog_14_method_113_code
def yX12_draw : MethodName := ⟨RX12, "draw", "(I)I"⟩
abbrev cX12_drawsHour : ByteArray := prog_14_method_114_code
def yX12_drawsHour : MethodName := ⟨RX12, "drawsHour", "(II)V"⟩
abbrev cX12_drawn : ByteArray := prog_14_method_115_code
def yX12_drawn : MethodName := ⟨RX12, "drawn", "(IIIII)I"⟩
abbrev cX12_count : ByteArray := prog_14_method_116_code
def yX12_count : MethodName := ⟨RX12, "count", "(I)I"⟩
abbrev cX12_image : ByteArray := prog_14_method_117_code
def yX12_image : MethodName := ⟨RX12, "image", "(I)I"⟩
abbrev cX12_back : ByteArray := prog_14_method_118_code
def yX12_back : MethodName := ⟨RX12, "back", "(I)I"⟩
def RJ6 : String := "java/lang/Integer"
def TJ6 : u_T := fun k => match k with
  | _ => ("", "", "", false)
def tyJ6 : Nat → FieldType := fun k => match k with
  | _ => .int
abbrev wsJ60 : List Cond := u_ws RJ6 TJ6 0
theorem nmJ6 : ∀ a, a < 0 → ∀ b, b < 0 → a ≠ b → (TJ6 a).2.1 ≠ (TJ6 b).2.1 := by decide +kernel
theorem tyJ6_ok : ∀ k, k < 0 → parseFieldDescriptor (TJ6 k).2.2.1 = some (tyJ6 k) := by decide +kernel
abbrev cJ6_bitCount_0f7a4 : ByteArray := prog_15_method_49_code
def yJ6_bitCount_0f7a4 : MethodName := ⟨RJ6, "bitCount", "(I)I"⟩
def RJ9 : String := "java/lang/Math"
def TJ9 : u_T := fun k => match k with
  | _ => ("", "", "", false)
def tyJ9 : Nat → FieldType := fun k => match k with
  | _ => .int
abbrev wsJ90 : List Cond := u_ws RJ9 TJ9 0
theorem nmJ9 : ∀ a, a < 0 → ∀ b, b < 0 → a ≠ b → (TJ9 a).2.1 ≠ (TJ9 b).2.1 := by decide +kernel
theorem tyJ9_ok : ∀ k, k < 0 → parseFieldDescriptor (TJ9 k).2.2.1 = some (tyJ9 k) := by decide +kernel
abbrev cJ9_floorMod_7cf53 : ByteArray := prog_16_method_50_code
def yJ9_floorMod_7cf53 : MethodName := ⟨RJ9, "floorMod", "(II)I"⟩
abbrev cJ9_abs_0f7a4 : ByteArray := prog_16_method_59_code
def yJ9_abs_0f7a4 : MethodName := ⟨RJ9, "abs", "(I)I"⟩
abbrev cJ9_max_7cf53 : ByteArray := prog_16_method_65_code
def yJ9_max_7cf53 : MethodName := ⟨RJ9, "max", "(II)I"⟩
abbrev cJ9_max_f86c9 : ByteArray := prog_16_method_66_code
def yJ9_max_f86c9 : MethodName := ⟨RJ9, "max", "(JJ)J"⟩
abbrev cJ9_min_7cf53 : ByteArray := prog_16_method_69_code
def yJ9_min_7cf53 : MethodName := ⟨RJ9, "min", "(II)I"⟩
abbrev cJ9_min_f86c9 : ByteArray := prog_16_method_70_code
def yJ9_min_f86c9 : MethodName := ⟨RJ9, "min", "(JJ)J"⟩
def RJ0 : String := "java/lang/String"
def TJ0 : u_T := fun k => match k with
  | _ => ("", "", "", false)
def tyJ0 : Nat → FieldType := fun k => match k with
  | _ => .int
abbrev wsJ00 : List Cond := u_ws RJ0 TJ0 0
theorem nmJ0 : ∀ a, a < 0 → ∀ b, b < 0 → a ≠ b → (TJ0 a).2.1 ≠ (TJ0 b).2.1 := by decide +kernel
theorem tyJ0_ok : ∀ k, k < 0 → parseFieldDescriptor (TJ0 k).2.2.1 = some (tyJ0 k) := by decide +kernel
abbrev cJ0_length_8abf5 : ByteArray := prog_17_method_54_code
def yJ0_length_8abf5 : MethodName := ⟨RJ0, "length", "()I"⟩
abbrev cJ0_charAt_5068e : ByteArray := prog_17_method_56_code
def yJ0_charAt_5068e : MethodName := ⟨RJ0, "charAt", "(I)C"⟩
abbrev cJ0_coder_7d493 : ByteArray := prog_17_method_152_code
def yJ0_coder_7d493 : MethodName := ⟨RJ0, "coder", "()B"⟩
abbrev cJ0_isLatin1_aae02 : ByteArray := prog_17_method_154_code
def yJ0_isLatin1_aae02 : MethodName := ⟨RJ0, "isLatin1", "()Z"⟩
abbrev cJ0_checkIndex_df160 : ByteArray := prog_17_method_155_code
def yJ0_checkIndex_df160 : MethodName := ⟨RJ0, "checkIndex", "(II)V"⟩
def RJ1 : String := "java/lang/StringLatin1"
def TJ1 : u_T := fun k => match k with
  | _ => ("", "", "", false)
def tyJ1 : Nat → FieldType := fun k => match k with
  | _ => .int
abbrev wsJ10 : List Cond := u_ws RJ1 TJ1 0
theorem nmJ1 : ∀ a, a < 0 → ∀ b, b < 0 → a ≠ b → (TJ1 a).2.1 ≠ (TJ1 b).2.1 := by decide +kernel
theorem tyJ1_ok : ∀ k, k < 0 → parseFieldDescriptor (TJ1 k).2.2.1 = some (tyJ1 k) := by decide +kernel
abbrev cJ1_charAt_3b067 : ByteArray := prog_18_method_2_code
def yJ1_charAt_3b067 : MethodName := ⟨RJ1, "charAt", "([BI)C"⟩
def RJ2 : String := "java/lang/StringUTF16"
def TJ2 : u_T := fun k => match k with
  | _ => ("", "", "", false)
def tyJ2 : Nat → FieldType := fun k => match k with
  | _ => .int
abbrev wsJ20 : List Cond := u_ws RJ2 TJ2 0
theorem nmJ2 : ∀ a, a < 0 → ∀ b, b < 0 → a ≠ b → (TJ2 a).2.1 ≠ (TJ2 b).2.1 := by decide +kernel
theorem tyJ2_ok : ∀ k, k < 0 → parseFieldDescriptor (TJ2 k).2.2.1 = some (tyJ2 k) := by decide +kernel
abbrev cJ2_getChar_3b067 : ByteArray := prog_19_method_5_code
def yJ2_getChar_3b067 : MethodName := ⟨RJ2, "getChar", "([BI)C"⟩
abbrev cJ2_length_9d52b : ByteArray := prog_19_method_6_code
def yJ2_length_9d52b : MethodName := ⟨RJ2, "length", "([B)I"⟩
abbrev cJ2_charAt_3b067 : ByteArray := prog_19_method_83_code
def yJ2_charAt_3b067 : MethodName := ⟨RJ2, "charAt", "([BI)C"⟩
abbrev cJ2_checkIndex_2214a : ByteArray := prog_19_method_91_code
def yJ2_checkIndex_2214a : MethodName := ⟨RJ2, "checkIndex", "(I[B)V"⟩
def RJ10 : String := "java/lang/System"
def TJ10 : u_T := fun k => match k with
  | _ => ("", "", "", false)
def tyJ10 : Nat → FieldType := fun k => match k with
  | _ => .int
abbrev wsJ100 : List Cond := u_ws RJ10 TJ10 0
theorem nmJ10 : ∀ a, a < 0 → ∀ b, b < 0 → a ≠ b → (TJ10 a).2.1 ≠ (TJ10 b).2.1 := by decide +kernel
theorem tyJ10_ok : ∀ k, k < 0 → parseFieldDescriptor (TJ10 k).2.2.1 = some (tyJ10 k) := by decide +kernel
def RJ3 : String := "jdk/internal/util/Preconditions"
def TJ3 : u_T := fun k => match k with
  | _ => ("", "", "", false)
def tyJ3 : Nat → FieldType := fun k => match k with
  | _ => .int
abbrev wsJ30 : List Cond := u_ws RJ3 TJ3 0
theorem nmJ3 : ∀ a, a < 0 → ∀ b, b < 0 → a ≠ b → (TJ3 a).2.1 ≠ (TJ3 b).2.1 := by decide +kernel
theorem tyJ3_ok : ∀ k, k < 0 → parseFieldDescriptor (TJ3 k).2.2.1 = some (tyJ3 k) := by decide +kernel
abbrev cJ3_checkIndex_8e157 : ByteArray := prog_21_method_11_code
def yJ3_checkIndex_8e157 : MethodName := ⟨RJ3, "checkIndex", "(IILjava/util/function/BiFunction;)I"⟩
def RL : String := "OneMirrorLaw"
abbrev cL_law : ByteArray := code
def yL_law : MethodName := ⟨RL, "law", "([I)Z"⟩
end
section
/-! ===== the abstract machine: values whose references are places in one pool, locals, the pure steps ===== -/
/-- the classes whose objects the pool holds -/
abbrev classes : List vw_C := [(RX0, TX0, 2), (RX1, TX1, 3), (RX2, TX2, 15), (RX4, TX4, 2), (RX5, TX5, 5), (RX6, TX6, 4), (RX7, TX7, 8), (RX9, TX9, 2), (RX10, TX10, 10), (RX11, TX11, 12), (RX12, TX12, 34)]
abbrev tyl (cA : FieldType → ClassId) : List (ClassId × FieldType) := [(cA .int, .int), (cA .long, .long), (cA .byte, .byte), (cA .boolean, .boolean), (cA (.object RX7), .object RX7), (cA (.object RX2), .object RX2)]
/-- places of what stands ahead of the law: the static row WITHOUT, the words' text, its bytes, the script -/
abbrev kW : Nat := 1000000
abbrev kS : Nat := 1000001
abbrev kV : Nat := 1000002
abbrev kF : Nat := 1000003
/-- a value of the abstract machine, by the addresses of the places -/
def tv (as : Nat → Nat) (v : Value) : Value := match v with
  | .ref k => .ref (as k)
  | w => w
theorem tv_cat (as : Nat → Nat) (v : Value) : (tv as v).category = v.category := by cases v <;> rfl
theorem tv_int (as : Nat → Nat) (x : Int32) : tv as (.int x) = .int x := rfl
theorem tv_long (as : Nat → Nat) (x : Int64) : tv as (.long x) = .long x := rfl
theorem tv_ref (as : Nat → Nat) (k : Nat) : tv as (.ref k) = .ref (as k) := rfl
theorem tv_null (as : Nat → Nat) : tv as .null = .null := rfl
/-- what an array holds -/
abbrev aC : Type := (Nat → Int32) ⊕ (Nat → Int64) ⊕ (Nat → UInt32) ⊕ (Nat → UInt64) ⊕ (Nat → Option Nat)
def tC (as : Nat → Nat) (c : aC) : aC := match c with
  | .inr (.inr (.inr (.inr f))) => .inr (.inr (.inr (.inr (fun j => (f j).map as))))
  | d => d
abbrev aE : Type := (FieldType × Nat × aC) ⊕ (Nat × List Value)
def tE (cA : FieldType → ClassId) (as : Nat → Nat) (e : aE) : va_E := match e with
  | .inl q => .inl (cA q.1, q.2.1, tC as q.2.2)
  | .inr q => .inr (q.1, q.2.map (tv as))
abbrev aH : Type := Nat → aE
def wsOf (cA : FieldType → ClassId) (as : Nat → Nat) (n : Nat) (h : aH) : va_W := (List.range n).map (fun k => (as k, tE cA as (h k)))
theorem wsOf_get {cA : FieldType → ClassId} {as : Nat → Nat} {n : Nat} {h : aH} {k : Nat} (hk : k < n) : (wsOf cA as n h)[k]? = some (as k, tE cA as (h k)) := by
  simp [wsOf, hk]
theorem wsOf_inv {cA : FieldType → ClassId} {as : Nat → Nat} {n : Nat} {h : aH} {k : Nat} {q : Nat × va_E} (hq : (wsOf cA as n h)[k]? = some q) : k < n ∧ q = (as k, tE cA as (h k)) := by
  have hl : k < n := by
    have := (List.getElem?_eq_some_iff.mp hq).1
    simpa [wsOf] using this
  rw [wsOf_get hl] at hq
  exact ⟨hl, (Option.some.inj hq).symm⟩
theorem wsOf_set {cA : FieldType → ClassId} {as : Nat → Nat} {n : Nat} {h : aH} {k : Nat} {e : aE} {x : Nat × va_E} (hx : x = (as k, tE cA as e)) : (wsOf cA as n h).set k x = wsOf cA as n (va_up h k e) := by
  subst hx
  apply List.ext_getElem?
  intro j
  rw [List.getElem?_set]
  by_cases hj : j < n
  · rw [wsOf_get hj, wsOf_get hj]
    by_cases e1 : k = j
    · subst e1
      simp [wsOf, hj, va_up]
    · rw [if_neg e1]
      simp [va_up, Ne.symm e1]
  · have h1 : (wsOf cA as n h)[j]? = none := by simp [wsOf]; omega
    have h2 : (wsOf cA as n (va_up h k e))[j]? = none := by simp [wsOf]; omega
    rw [h1, h2]
    by_cases e1 : k = j
    · subst e1
      simp [wsOf, hj]
    · rw [if_neg e1]
/-- the locals that are known, by their numbers -/
def asc (as : Nat → Nat) : Nat → List (Option Value) → List (Nat × Value)
  | _, [] => []
  | j, none :: w => asc as (j + 1) w
  | j, some v :: w => (j, tv as v) :: asc as (j + 1) w
def catO (w : Option Value) : Nat := match w with
  | some v => v.category
  | none => 1
def stL (i : Nat) (v : Value) : Nat → List (Option Value) → List (Option Value)
  | _, [] => []
  | j, w :: ws => (bif Nat.beq j i then some v else bif (Nat.beq j (i + 1) && Nat.beq v.category 2) then none else bif (Nat.beq (j + 1) i && Nat.beq (catO w) 2) then none else w) :: stL i v (j + 1) ws
theorem stL_length (i : Nat) (v : Value) : ∀ (j : Nat) (ls : List (Option Value)), (stL i v j ls).length = ls.length
  | _, [] => rfl
  | j, w :: ws => by simp [stL, stL_length i v (j + 1) ws]
theorem asc_mem {as : Nat → Nat} {v : Value} : ∀ {ls : List (Option Value)} {i j : Nat}, ls[i]? = some (some v) → (j + i, tv as v) ∈ asc as j ls
  | [], i, j, h => by simp at h
  | none :: w, 0, j, h => by simp at h
  | none :: w, i + 1, j, h => by
    have := asc_mem (as := as) (ls := w) (i := i) (j := j + 1) (by simpa using h)
    simpa [asc, Nat.add_assoc, Nat.add_comm 1 i] using this
  | some u :: w, 0, j, h => by
    have : u = v := by simpa using h
    subst this
    simp [asc]
  | some u :: w, i + 1, j, h => by
    have := asc_mem (as := as) (ls := w) (i := i) (j := j + 1) (by simpa using h)
    refine List.mem_cons_of_mem _ ?_
    simpa [Nat.add_assoc, Nat.add_comm 1 i] using this
theorem asc_st {as : Nat → Nat} {i : Nat} {v : Value} {q : Nat × Value} : ∀ {ls : List (Option Value)} {j : Nat}, q ∈ asc as j (stL i v j ls) → q = (i, tv as v) ∨ (q ∈ asc as j ls ∧ ¬ q.1 = i ∧ ¬ (q.1 + 1 = i ∧ q.2.category = 2) ∧ (v.category = 2 → ¬ q.1 = i + 1))
  | [], j, h => by simp [stL, asc] at h
  | w :: ws, j, h => by
    have hrec : q ∈ asc as (j + 1) (stL i v (j + 1) ws) → q = (i, tv as v) ∨ (q ∈ asc as j (w :: ws) ∧ ¬ q.1 = i ∧ ¬ (q.1 + 1 = i ∧ q.2.category = 2) ∧ (v.category = 2 → ¬ q.1 = i + 1)) := by
      intro h1
      rcases asc_st h1 with h2 | ⟨h2, h3⟩
      · exact Or.inl h2
      · refine Or.inr ⟨?_, h3⟩
        cases w with
        | none => simpa [asc] using h2
        | some u => exact List.mem_cons_of_mem _ h2
    unfold stL at h
    by_cases e1 : j = i
    · subst e1
      simp [asc] at h
      rcases h with h | h
      · exact Or.inl h
      · exact hrec h
    · have b1 : Nat.beq j i = false := Bool.eq_false_iff.mpr (fun z => e1 (Nat.eq_of_beq_eq_true z))
      rw [b1] at h
      by_cases e2 : (Nat.beq j (i + 1) && Nat.beq v.category 2) = true
      · rw [e2] at h
        exact hrec (by simpa [asc] using h)
      · have e2' : (Nat.beq j (i + 1) && Nat.beq v.category 2) = false := Bool.eq_false_iff.mpr e2
        rw [e2'] at h
        by_cases e3 : (Nat.beq (j + 1) i && Nat.beq (catO w) 2) = true
        · rw [e3] at h
          exact hrec (by simpa [asc] using h)
        · have e3' : (Nat.beq (j + 1) i && Nat.beq (catO w) 2) = false := Bool.eq_false_iff.mpr e3
          rw [e3'] at h
          cases w with
          | none => exact hrec (by simpa [asc] using h)
          | some u =>
            simp only [cond_false, asc, List.mem_cons] at h
            rcases h with h | h
            · subst h
              refine Or.inr ⟨by simp [asc], e1, ?_, ?_⟩
              · rintro ⟨z1, z2⟩
                rw [tv_cat] at z2
                apply e3
                simp [catO, z1, z2]
              · intro z1 z2
                apply e2
                have z3 : j = i + 1 := z2
                simp [z1, z3]
            · exact hrec h
/-- the locals of a frame hold what is known of them -/
def aw_loc (as : Nat → Nat) (ls : List (Option Value)) (nL : Nat) (lsA : Array Slot) : Prop := ls.length = nL ∧ lv_has lsA nL (asc as 0 ls)
theorem aw_loc.at {as : Nat → Nat} {ls : List (Option Value)} {nL : Nat} {lsA : Array Slot} (h : aw_loc as ls nL lsA) {i : Nat} {v : Value} (hi : ls[i]? = some (some v)) : lsA[i]? = some (.val (tv as v)) := by
  have := h.2.2.2 _ (asc_mem (as := as) (j := 0) hi)
  simpa using this
theorem aw_loc.st1 {as : Nat → Nat} {ls : List (Option Value)} {nL : Nat} {lsA : Array Slot} (h : aw_loc as ls nL lsA) {i : Nat} {v : Value} (hc : v.category = 1) {ls' : Array Slot} (h' : lv_has ls' nL ((i, tv as v) :: (asc as 0 ls).filter (fun q => !(q.1 == i) && !(q.1 + 1 == i && q.2.category == 2)))) : aw_loc as (stL i v 0 ls) nL ls' := by
  refine ⟨by rw [stL_length]; exact h.1, h'.1, h'.2.1, fun q hq => h'.2.2 q ?_⟩
  rcases asc_st hq with h1 | ⟨h1, h2, h3, -⟩
  · subst h1
    exact List.mem_cons_self
  · refine List.mem_cons_of_mem _ (List.mem_filter.mpr ⟨h1, ?_⟩)
    simp only [Bool.and_eq_true, Bool.not_eq_true', beq_eq_false_iff_ne, ne_eq, Bool.and_eq_false_iff]
    refine ⟨h2, ?_⟩
    by_cases z : q.1 + 1 = i
    · exact Or.inr (fun w => h3 ⟨z, w⟩)
    · exact Or.inl z
theorem aw_loc.st2 {as : Nat → Nat} {ls : List (Option Value)} {nL : Nat} {lsA : Array Slot} (h : aw_loc as ls nL lsA) {i : Nat} {v : Value} (hc : v.category = 2) {ls' : Array Slot} (h' : lv_has ls' nL ((i, tv as v) :: (asc as 0 ls).filter (fun q => !(q.1 == i) && (!(q.1 == i + 1) && !(q.1 + 1 == i && q.2.category == 2))))) : aw_loc as (stL i v 0 ls) nL ls' := by
  refine ⟨by rw [stL_length]; exact h.1, h'.1, h'.2.1, fun q hq => h'.2.2 q ?_⟩
  rcases asc_st hq with h1 | ⟨h1, h2, h3, h4⟩
  · subst h1
    exact List.mem_cons_self
  · refine List.mem_cons_of_mem _ (List.mem_filter.mpr ⟨h1, ?_⟩)
    simp only [Bool.and_eq_true, Bool.not_eq_true', beq_eq_false_iff_ne, ne_eq, Bool.and_eq_false_iff]
    refine ⟨h2, h4 hc, ?_⟩
    by_cases z : q.1 + 1 = i
    · exact Or.inr (fun w => h3 ⟨z, w⟩)
    · exact Or.inl z
/-- one step that touches locals and the operand stack alone; z: the number that the instruction writes -/
def ld (ls : List (Option Value)) (i : Nat) : Option Value := match ls[i]? with
  | some (some v) => some v
  | _ => none
def px (i : Instr) (z : Int32) (ls : List (Option Value)) (st : List Value) : Option (List (Option Value) × List Value) :=
  match i, st with
  | .iconst _, st => some (ls, .int z :: st)
  | .bipush _, st => some (ls, .int z :: st)
  | .sipush _, st => some (ls, .int z :: st)
  | .lconst k, st => some (ls, .long (bif Nat.beq k.val 0 then 0 else 1) :: st)
  | .iload_n k, st => (match ld ls k.val with | some (.int x) => some (ls, .int x :: st) | _ => none)
  | .iload k, st => (match ld ls k with | some (.int x) => some (ls, .int x :: st) | _ => none)
  | .lload_n k, st => (match ld ls k.val with | some (.long x) => some (ls, .long x :: st) | _ => none)
  | .lload k, st => (match ld ls k with | some (.long x) => some (ls, .long x :: st) | _ => none)
  | .aload_n k, st => (match ld ls k.val with | some (.ref x) => some (ls, .ref x :: st) | _ => none)
  | .aload k, st => (match ld ls k with | some (.ref x) => some (ls, .ref x :: st) | _ => none)
  | .istore_n k, .int x :: st => bif Nat.blt k.val ls.length then some (stL k.val (.int x) 0 ls, st) else none
  | .istore k, .int x :: st => bif Nat.blt k ls.length then some (stL k (.int x) 0 ls, st) else none
  | .lstore_n k, .long x :: st => bif Nat.blt (k.val + 1) ls.length then some (stL k.val (.long x) 0 ls, st) else none
  | .lstore k, .long x :: st => bif Nat.blt (k + 1) ls.length then some (stL k (.long x) 0 ls, st) else none
  | .astore_n k, .ref x :: st => bif Nat.blt k.val ls.length then some (stL k.val (.ref x) 0 ls, st) else none
  | .astore k, .ref x :: st => bif Nat.blt k ls.length then some (stL k (.ref x) 0 ls, st) else none
  | .iinc k _, st => (match ld ls k with | some (.int x) => bif Nat.blt k ls.length then some (stL k (.int (x + z)) 0 ls, st) else none | _ => none)
  | .iadd, .int y :: .int x :: st => some (ls, .int (x + y) :: st)
  | .isub, .int y :: .int x :: st => some (ls, .int (x - y) :: st)
  | .imul, .int y :: .int x :: st => some (ls, .int (x * y) :: st)
  | .iand, .int y :: .int x :: st => some (ls, .int (x &&& y) :: st)
  | .ior, .int y :: .int x :: st => some (ls, .int (x ||| y) :: st)
  | .ixor, .int y :: .int x :: st => some (ls, .int (x ^^^ y) :: st)
  | .ineg, .int x :: st => some (ls, .int (-x) :: st)
  | .ishl, .int y :: .int x :: st => some (ls, .int (x <<< (y &&& 31)) :: st)
  | .ishr, .int y :: .int x :: st => some (ls, .int (x >>> (y &&& 31)) :: st)
  | .iushr, .int y :: .int x :: st => some (ls, .int (x.toUInt32 >>> (y.toUInt32 &&& Int32.toUInt32 31)).toInt32 :: st)
  | .ladd, .long y :: .long x :: st => some (ls, .long (x + y) :: st)
  | .lsub, .long y :: .long x :: st => some (ls, .long (x - y) :: st)
  | .lmul, .long y :: .long x :: st => some (ls, .long (x * y) :: st)
  | .land, .long y :: .long x :: st => some (ls, .long (x &&& y) :: st)
  | .lor, .long y :: .long x :: st => some (ls, .long (x ||| y) :: st)
  | .lxor, .long y :: .long x :: st => some (ls, .long (x ^^^ y) :: st)
  | .lshl, .int y :: .long x :: st => some (ls, .long (x <<< (y.toInt64 &&& 63)) :: st)
  | .lushr, .int y :: .long x :: st => some (ls, .long (x.toUInt64 >>> (y.toInt64.toUInt64 &&& Int64.toUInt64 63)).toInt64 :: st)
  | .i2l, .int x :: st => some (ls, .long x.toInt64 :: st)
  | .l2i, .long x :: st => some (ls, .int x.toInt32 :: st)
  | .i2b, .int x :: st => some (ls, .int x.toInt8.toInt32 :: st)
  | .lcmp, .long y :: .long x :: st => some (ls, .int (lg_cmp x y) :: st)
  | .dup, v :: st => bif Nat.beq v.category 1 then some (ls, v :: v :: st) else none
  | .pop, v :: st => bif Nat.beq v.category 1 then some (ls, st) else none
  | .dup2, v :: w :: st => bif (Nat.beq v.category 1 && Nat.beq w.category 1) then some (ls, v :: w :: v :: w :: st) else none
  | _, _ => none
/-- the number that an instruction writes is z, as far as it writes one -/
def okI (i : Instr) (z : Int32) : Bool := match i with
  | .iconst n => Int32.ofInt n == z
  | .bipush n => (Int8.ofInt n).toInt32 == z
  | .sipush n => (Int16.ofInt n).toInt32 == z
  | .iinc _ n => Int32.ofInt n == z
  | _ => true
end
section
/-! ===== the pure steps hold of the machine ===== -/
section PXW
variable {p : Program} {l : Launch} {e : Env} {R : Room} {s : State} {m : MethodId} {args : Array Value} {below : List Frame} {meth : Method} {c : Code} {H : Heap} {locs : List Loc} {cells slots : Nat} {Q : State → Prop} {cc : ByteArray} {as : Nat → Nat} {nL : Nat}
/-- the machine from a place on, whatever the locals hold besides what is known -/
def Wst (p : Program) (l : Launch) (e : Env) (R : Room) (s : State) (m : MethodId) (args : Array Value) (below : List Frame) (meth : Method) (c : Code) (H : Heap) (locs : List Loc) (cells slots : Nat) (Q : State → Prop) (as : Nat → Nat) (nL : Nat) (pc : Nat) (ls : List (Option Value)) (st : List Value) : Prop :=
  ∀ lsA : Array Slot, aw_loc as ls nL lsA → W p l e R s m args below meth c H locs cells slots Q (F0 m pc lsA (st.map (tv as)))
theorem ld_some {ls : List (Option Value)} {i : Nat} {v : Value} (h : ld ls i = some v) : ls[i]? = some (some v) := by
  unfold ld at h
  split at h
  · rename_i w hw
    rw [hw]
    cases h
    rfl
  · cases h
theorem bif_some {α : Type} {b : Bool} {a c : α} (h : (bif b then some a else none) = some c) : b = true ∧ a = c := by
  cases b
  · cases h
  · exact ⟨rfl, Option.some.inj h⟩
theorem lc2 : ∀ k : Fin 2, Int64.ofNat k.val = bif Nat.beq k.val 0 then (0 : Int64) else 1 := by decide +kernel
def lnI (i : Instr) : Nat := match i with
  | .bipush _ => 2
  | .sipush _ => 3
  | .iload _ => 2
  | .lload _ => 2
  | .aload _ => 2
  | .istore _ => 2
  | .lstore _ => 2
  | .astore _ => 2
  | .iinc _ _ => 3
  | _ => 1
set_option maxHeartbeats 4000000 in
theorem px_ok (hx : p.tables.exec = Jvm.exec) (hb : c.code = cc) {i : Instr} {z : Int32} {pc : Nat} {ls ls' : List (Option Value)} {st st' : List Value} (hd : decode cc pc = .ok (i, lnI i)) (hz : okI i z = true) (hp : px i z ls st = some (ls', st')) (k : Wst p l e R s m args below meth c H locs cells slots Q as nL (pc + lnI i) ls' st') : Wst p l e R s m args below meth c H locs cells slots Q as nL pc ls st := by
  intro lsA hl
  unfold px at hp
  split at hp
  · cases hp
    exact lv_iconst hx hb hd (eq_of_beq hz) (k lsA hl)
  · cases hp
    exact lv_bipush hx hb hd (eq_of_beq hz) (k lsA hl)
  · cases hp
    exact lv_sipush hx hb hd (eq_of_beq hz) (k lsA hl)
  · cases hp
    exact lv_lconst hx hb hd (lc2 _) (k lsA hl)
  · split at hp
    · rename_i x hq
      cases hp
      exact lv_iload_n hx hb hd rfl (hl.at (ld_some hq)) (k lsA hl)
    · cases hp
  · split at hp
    · rename_i x hq
      cases hp
      exact lv_iload hx hb hd (hl.at (ld_some hq)) (k lsA hl)
    · cases hp
  · split at hp
    · rename_i x hq
      cases hp
      exact lv_lload_n hx hb hd rfl (hl.at (ld_some hq)) (k lsA hl)
    · cases hp
  · split at hp
    · rename_i x hq
      cases hp
      exact lv_lload hx hb hd (hl.at (ld_some hq)) (k lsA hl)
    · cases hp
  · split at hp
    · rename_i x hq
      cases hp
      exact lv_aload_n hx hb hd rfl (hl.at (ld_some hq)) (k lsA hl)
    · cases hp
  · split at hp
    · rename_i x hq
      cases hp
      exact lv_aload hx hb hd (hl.at (ld_some hq)) (k lsA hl)
    · cases hp
  · obtain ⟨h1, h2⟩ := bif_some hp
    cases h2
    exact lv_istore_n hx hb hd rfl hl.2 (by rw [← hl.1]; exact Nat.le_of_ble_eq_true h1) rfl (fun ls1 h1 => k ls1 (hl.st1 rfl h1))
  · obtain ⟨h1, h2⟩ := bif_some hp
    cases h2
    exact lv_istore hx hb hd hl.2 (by rw [← hl.1]; exact Nat.le_of_ble_eq_true h1) rfl (fun ls1 h1 => k ls1 (hl.st1 rfl h1))
  · obtain ⟨h1, h2⟩ := bif_some hp
    cases h2
    exact lv_lstore_n hx hb hd rfl hl.2 (by rw [← hl.1]; exact Nat.le_of_ble_eq_true h1) rfl (fun ls1 h1 => k ls1 (hl.st2 rfl h1))
  · obtain ⟨h1, h2⟩ := bif_some hp
    cases h2
    exact lv_lstore hx hb hd hl.2 (by rw [← hl.1]; exact Nat.le_of_ble_eq_true h1) rfl (fun ls1 h1 => k ls1 (hl.st2 rfl h1))
  · obtain ⟨h1, h2⟩ := bif_some hp
    cases h2
    exact lv_astore_n hx hb hd rfl hl.2 (by rw [← hl.1]; exact Nat.le_of_ble_eq_true h1) rfl (fun ls1 h1 => k ls1 (hl.st1 rfl h1))
  · obtain ⟨h1, h2⟩ := bif_some hp
    cases h2
    exact lv_astore hx hb hd hl.2 (by rw [← hl.1]; exact Nat.le_of_ble_eq_true h1) rfl (fun ls1 h1 => k ls1 (hl.st1 rfl h1))
  · split at hp
    · rename_i x hq
      obtain ⟨h1, h2⟩ := bif_some hp
      cases h2
      obtain ⟨j, hj⟩ := List.getElem?_of_mem (asc_mem (as := as) (j := 0) (ld_some hq))
      rw [Nat.zero_add] at hj
      exact lv_iinc hx hb hd hl.2 hj (by rw [eq_of_beq hz]) (by rw [← hl.1]; exact Nat.le_of_ble_eq_true h1) rfl (fun ls1 h1 => k ls1 (hl.st1 rfl h1))
    · cases hp
  · cases hp
    exact lv_iadd hx hb hd (k lsA hl)
  · cases hp
    exact lv_isub hx hb hd (k lsA hl)
  · cases hp
    exact lv_imul hx hb hd (k lsA hl)
  · cases hp
    exact lv_iand hx hb hd (k lsA hl)
  · cases hp
    exact lv_ior hx hb hd (k lsA hl)
  · cases hp
    exact lv_ixor hx hb hd (k lsA hl)
  · cases hp
    exact lv_ineg hx hb hd (k lsA hl)
  · cases hp
    exact lv_ishl hx hb hd (k lsA hl)
  · cases hp
    exact lv_ishr hx hb hd (k lsA hl)
  · cases hp
    exact lv_iushr hx hb hd rfl (k lsA hl)
  · cases hp
    exact lv_ladd hx hb hd (k lsA hl)
  · cases hp
    exact lv_lsub hx hb hd (k lsA hl)
  · cases hp
    exact lv_lmul hx hb hd (k lsA hl)
  · cases hp
    exact lv_land hx hb hd (k lsA hl)
  · cases hp
    exact lv_lor hx hb hd (k lsA hl)
  · cases hp
    exact lv_lxor hx hb hd (k lsA hl)
  · cases hp
    exact lv_lshl hx hb hd rfl (k lsA hl)
  · cases hp
    exact lv_lushr hx hb hd rfl (k lsA hl)
  · cases hp
    exact lv_i2l hx hb hd rfl (k lsA hl)
  · cases hp
    exact lv_l2i hx hb hd rfl (k lsA hl)
  · cases hp
    exact lv_i2b hx hb hd rfl (k lsA hl)
  · cases hp
    exact W.lcmp hx hb hd (k lsA hl)
  · obtain ⟨h1, h2⟩ := bif_some hp
    cases h2
    exact lv_dup hx hb hd (by rw [tv_cat]; exact Nat.eq_of_beq_eq_true h1) (k lsA hl)
  · obtain ⟨h1, h2⟩ := bif_some hp
    cases h2
    exact lv_pop hx hb hd (by rw [tv_cat]; exact Nat.eq_of_beq_eq_true h1) (k lsA hl)
  · obtain ⟨h1, h2⟩ := bif_some hp
    cases h2
    exact lv_dup2_11 hx hb hd (by rw [tv_cat]; exact Nat.eq_of_beq_eq_true (Bool.and_eq_true_iff.mp h1).1) (by rw [tv_cat]; exact Nat.eq_of_beq_eq_true (Bool.and_eq_true_iff.mp h1).2) (k lsA hl)
  · cases hp
/-- a row of steps, from a place to another: the code says so -/
def dec (cc : ByteArray) : Nat → List (Instr × Int32) → Option Nat
  | pc, [] => some pc
  | pc, (i, z) :: r => match decode cc pc with
    | .ok (j, len) => bif decide (j = i) && (okI i z) then (match i with
        | .goto off => bif decide (0 ≤ (pc : Int) + off) && Nat.beq len 3 then dec cc ((pc : Int) + off).toNat r else none
        | _ => bif Nat.beq len (lnI i) then dec cc (pc + len) r else none) else none
    | _ => none
def pxs : List (Instr × Int32) → List (Option Value) → List Value → Option (List (Option Value) × List Value)
  | [], ls, st => some (ls, st)
  | (.goto _, _) :: r, ls, st => pxs r ls st
  | (i, z) :: r, ls, st => match px i z ls st with
    | some (ls1, st1) => pxs r ls1 st1
    | none => none
end PXW
end
section
/-! ===== the judgement AW: the machine from a place on, over the pool; the contract AOk ===== -/
theorem dec_cons {cc : ByteArray} {pc pc' : Nat} {i : Instr} {z : Int32} {r : List (Instr × Int32)} (h : dec cc pc ((i, z) :: r) = some pc') :
    okI i z = true ∧ ((∃ off tgt, i = .goto off ∧ decode cc pc = .ok (.goto off, 3) ∧ (pc : Int) + off = ((tgt : Nat) : Int) ∧ dec cc tgt r = some pc') ∨ ((∀ off, i ≠ .goto off) ∧ decode cc pc = .ok (i, lnI i) ∧ dec cc (pc + lnI i) r = some pc')) := by
  unfold dec at h
  split at h
  · rename_i j len hd
    cases hb : (decide (j = i) && okI i z) with
    | false => rw [hb] at h; cases h
    | true =>
      rw [hb] at h
      obtain ⟨h1, h2⟩ := Bool.and_eq_true_iff.mp hb
      have h1 : j = i := of_decide_eq_true h1
      subst h1
      refine ⟨h2, ?_⟩
      simp only [cond_true] at h
      split at h
      · rename_i off
        cases hc : (decide (0 ≤ (pc : Int) + off) && Nat.beq len 3) with
        | false => rw [hc] at h; cases h
        | true =>
          rw [hc] at h
          obtain ⟨h3, h4⟩ := Bool.and_eq_true_iff.mp hc
          have h3 : 0 ≤ (pc : Int) + off := of_decide_eq_true h3
          have h4 : len = 3 := Nat.eq_of_beq_eq_true h4
          subst h4
          exact Or.inl ⟨off, ((pc : Int) + off).toNat, rfl, hd, by omega, h⟩
      · rename_i hne
        cases hc : Nat.beq len (lnI j) with
        | false => rw [hc] at h; cases h
        | true =>
          rw [hc] at h
          have h4 : len = lnI j := Nat.eq_of_beq_eq_true hc
          subst h4
          exact Or.inr ⟨fun off hh => hne off hh, hd, h⟩
  · cases h
section PXS
variable {p : Program} {l : Launch} {e : Env} {R : Room} {s : State} {m : MethodId} {args : Array Value} {below : List Frame} {meth : Method} {c : Code} {H : Heap} {locs : List Loc} {cells slots : Nat} {Q : State → Prop} {cc : ByteArray} {as : Nat → Nat} {nL : Nat}
theorem pxs_cons {i : Instr} {z : Int32} {r : List (Instr × Int32)} {ls ls' : List (Option Value)} {st st' : List Value} (hn : ∀ off, i ≠ .goto off) (h : pxs ((i, z) :: r) ls st = some (ls', st')) : ∃ ls1 st1, px i z ls st = some (ls1, st1) ∧ pxs r ls1 st1 = some (ls', st') := by
  unfold pxs at h
  split at h
  · rename_i heq; cases heq
  · rename_i heq
    cases heq
    exact absurd rfl (hn _)
  · rename_i heq
    cases heq
    split at h
    · rename_i ls1 st1 hq
      exact ⟨ls1, st1, hq, h⟩
    · cases h
theorem pxs_ok (hx : p.tables.exec = Jvm.exec) (hb : c.code = cc) : ∀ {blk : List (Instr × Int32)} {pc pc' : Nat} {ls ls' : List (Option Value)} {st st' : List Value} (_ : dec cc pc blk = some pc') (_ : pxs blk ls st = some (ls', st')) (_ : Wst p l e R s m args below meth c H locs cells slots Q as nL pc' ls' st'), Wst p l e R s m args below meth c H locs cells slots Q as nL pc ls st
  | [], pc, pc', ls, ls', st, st', hd, hp, k => by
    cases hd
    cases hp
    exact k
  | (i, z) :: r, pc, pc', ls, ls', st, st', hd, hp, k => by
    obtain ⟨hz, ⟨off, tgt, rfl, h1, h2, h3⟩ | ⟨h1, h2, h3⟩⟩ := dec_cons hd
    · have k2 := pxs_ok hx hb h3 hp k
      intro lsA hl
      exact lv_goto hx hb h1 h2 (k2 lsA hl)
    · obtain ⟨ls1, st1, h4, h5⟩ := pxs_cons h1 hp
      exact px_ok hx hb h2 hz h4 (pxs_ok hx hb h3 h5 k)
end PXS
/-- the tables' words that every method keeps, and those of nest mates -/
def wG : List Cond := lw_tbl.filter goodWord
def nestW (w : Cond) : Bool := match w with
  | .fieldLinkNest _ _ _ _ _ _ => true
  | .methodLinkNest _ _ _ _ => true
  | .arrayOver (.object _) => true
  | _ => false
def wN : List Cond := tables_1.filter nestW
theorem wN_warm {s U : State} (hW : s.WarmedH U.vm) (h : ∀ w ∈ wN, va_Nw w s) : ∀ w ∈ wN, va_Nw w U := by
  intro w hw
  have h1 := h w hw
  have h2 := (List.mem_filter.mp hw).2
  unfold nestW at h2
  split at h2
  · exact va_Nw.warmF hW h1
  · exact va_Nw.warmM hW h1
  · exact va_AO.moved hW.alike h1
  · cases h2
theorem wN_same {u U : State} (hv : u.vm = U.vm) (h : ∀ w ∈ wN, va_Nw w u) : ∀ w ∈ wN, va_Nw w U := by
  intro w hw
  have h1 := h w hw
  have h2 := (List.mem_filter.mp hw).2
  unfold nestW at h2
  split at h2
  · exact va_Nw.same rfl hv h1
  · exact va_Nw.same rfl hv h1
  · exact va_AO.moved (by rw [hv]; exact Vm.Alike.refl _) h1
  · cases h2
def wo (j : Nat) : Int64 := ([6148914691236517205, 3689348814741910323, 1085102592571150095, 71777214294589695, 281470681808895, 4294967295] : List Int64).getD j 0
def wtx : String := " teller hearer of hour face tie moved steps marks person boat glass tell weigh if or and not "
def wby : List Int32 := [32, 116, 101, 108, 108, 101, 114, 32, 104, 101, 97, 114, 101, 114, 32, 111, 102, 32, 104, 111, 117, 114, 32, 102, 97, 99, 101, 32, 116, 105, 101, 32, 109, 111, 118, 101, 100, 32, 115, 116, 101, 112, 115, 32, 109, 97, 114, 107, 115, 32, 112, 101, 114, 115, 111, 110, 32, 98, 111, 97, 116, 32, 103, 108, 97, 115, 115, 32, 116, 101, 108, 108, 32, 119, 101, 105, 103, 104, 32, 105, 102, 32, 111, 114, 32, 97, 110, 100, 32, 110, 111, 116, 32]
/-- what stands ahead of the law and is only read -/
def aw_X (as : Nat → Nat) (A : Nat → Prop) (U : State) (H : Heap) : Prop :=
  va_Z RX5 "WITHOUT" "[J" (.ref (as kW)) A U H ∧ va_T .long (as kW) 6 (fun j => .long (wo j)) A U H ∧ vk_R RX10 69 wtx (as kS) U ∧ vk_S 1 [93] [wby] (fun _ => as kS) (fun _ => as kV) A U H ∧ va_Z "java/lang/String" "COMPACT_STRINGS" "Z" (.int 1) A U H ∧ (va_Z "jdk/internal/util/Preconditions" "SIOOBE_FORMATTER" "Ljava/util/function/BiFunction;" .null A U H ∨ va_Z "jdk/internal/util/Preconditions" "SIOOBE_FORMATTER" "Ljava/util/function/BiFunction;" (.ref (as kF)) A U H)
theorem aw_X.kept {as : Nat → Nat} {A : Nat → Prop} {U : State} {H H1 : Heap} (h : aw_X as A U H) (hq : ∀ a : Nat, a < H.size → ¬ A a → H1[a]? = H[a]?) : aw_X as A U H1 := by
  obtain ⟨h1, h2, h3, h4, h5, h6⟩ := h
  exact ⟨h1.kept hq, h2.kept hq, h3, h4.kept hq, h5.kept hq, h6.imp (fun z => z.kept hq) (fun z => z.kept hq)⟩
theorem aw_X.narrow {as : Nat → Nat} {A B : Nat → Prop} {U : State} {H : Heap} (h : aw_X as A U H) (hAB : ∀ q, B q → A q) : aw_X as B U H := by
  obtain ⟨h1, h2, h3, h4, h5, h6⟩ := h
  exact ⟨h1.narrow hAB, h2.narrow hAB, h3, h4.narrow hAB, h5.narrow hAB, h6.imp (fun z => z.narrow hAB) (fun z => z.narrow hAB)⟩
theorem aw_X.warm {as : Nat → Nat} {A : Nat → Prop} {s U : State} {H : Heap} (hW : s.WarmedH U.vm) (h : aw_X as A s H) : aw_X as A U H := by
  obtain ⟨h1, h2, h3, h4, h5, h6⟩ := h
  exact ⟨h1.moved hW.alike, h2.moved hW.alike, h3.warm hW, h4.moved hW.alike, h5.moved hW.alike, h6.imp (fun z => z.moved hW.alike) (fun z => z.moved hW.alike)⟩
theorem aw_X.same {as : Nat → Nat} {A : Nat → Prop} {s U : State} {H : Heap} (hv : s.vm = U.vm) (h : aw_X as A s H) : aw_X as A U H := by
  obtain ⟨h1, h2, h3, h4, h5, h6⟩ := h
  have ha : s.vm.Alike U.vm := by rw [hv]; exact Vm.Alike.refl _
  exact ⟨h1.moved ha, h2.moved ha, h3.same hv.symm, h4.moved ha, h5.moved ha, h6.imp (fun z => z.moved ha) (fun z => z.moved ha)⟩
theorem aw_X.as {as as' : Nat → Nat} {A : Nat → Prop} {U : State} {H : Heap} (h : aw_X as A U H) (ha : ∀ k, kW ≤ k → as' k = as k) : aw_X as' A U H := by
  unfold aw_X
  rw [ha kW (Nat.le_refl _), ha kS (by decide), ha kV (by decide), ha kF (by decide)]
  exact h
/-- a method: its name, its code, how many locals, what it returns -/
abbrev aY : Type := MethodName × ByteArray × Nat × Option FieldType
abbrev aQ : Type := Option Value → Nat → aH → Prop
def aw_env (p : Program) (s : State) (m : MethodId) (args : Array Value) (meth : Method) (c : Code) (Y : aY) : Prop :=
  p.tables.exec = Jvm.exec ∧ c.code = Y.2.1 ∧ meth.sig.returnType = Y.2.2.2 ∧ c.maxLocals = Y.2.2.1 ∧ s.vm.findClass Y.1.cls = some m.cls ∧ (∀ w ∈ wG, w.before args s = true) ∧ meth.locks = false ∧ (∀ w ∈ wN, va_Nw w s) ∧ meth.name = Y.1.name
def aw_st (D : va_G) (cA : FieldType → ClassId) (as : Nat → Nat) (n : Nat) (h : aH) (A : Nat → Prop) (s : State) (H : Heap) (locs : List Loc) : Prop :=
  va_K D classes (tyl cA) s ∧ va_P D classes (wsOf cA as n h) H ∧ va_D A (wsOf cA as n h) ∧ va_S A s.heap H locs ∧ (∀ q, s.heap.size ≤ q → A q) ∧ aw_X as A s s.heap
def aw_ext (as0 : Nat → Nat) (n0 : Nat) (as : Nat → Nat) (n : Nat) : Prop := n0 ≤ n ∧ n ≤ kW ∧ ∀ k, k < n0 ∨ n ≤ k → as k = as0 k
def aw_Q (D : va_G) (cA : FieldType → ClassId) (as0 : Nat → Nat) (n0 : Nat) (A : Nat → Prop) (Q : aQ) : Array Value → State → Outcome → State → Prop := fun _ st oc t =>
  (∃ (r : Option Value) (n : Nat) (h : aH) (as : Nat → Nat), oc = .returned (r.map (tv as)) ∧ Q r n h ∧ aw_ext as0 n0 as n ∧ va_P D classes (wsOf cA as n h) t.heap ∧ va_K D classes (tyl cA) t ∧ va_D A (wsOf cA as n h)) ∧ va_F A st t
def AW (l : Launch) (Y : aY) (R : Room) (Q : aQ) (cu su pc : Nat) (ls : List (Option Value)) (st : List Value) (n : Nat) (h : aH) : Prop :=
  ∀ (p : Program) (e : Env) (s : State) (m : MethodId) (args : Array Value) (below : List Frame) (meth : Method) (c : Code) (D : va_G) (cA : FieldType → ClassId) (as0 : Nat → Nat) (n0 : Nat) (A : Nat → Prop) (as : Nat → Nat) (H : Heap) (locs : List Loc),
    aw_env p s m args meth c Y → aw_st D cA as n h A s H locs → aw_ext as0 n0 as n →
    Wst p l e R s m args below meth c H locs cu su (MQ below (aw_Q D cA as0 n0 A Q) args s R.cells R.slots A) as Y.2.2.1 pc ls st
section AWR
variable {l : Launch} {Y : aY} {R : Room} {Q : aQ} {cu su pc : Nat} {ls : List (Option Value)} {st : List Value} {n : Nat} {h : aH}
/-- a row of pure steps -/
theorem AW.run (blk : List (Instr × Int32)) {pc' : Nat} {ls' : List (Option Value)} {st' : List Value} (hd : dec Y.2.1 pc blk = some pc') (hp : pxs blk ls st = some (ls', st')) (k : AW l Y R Q cu su pc' ls' st' n h) : AW l Y R Q cu su pc ls st n h := by
  intro p e s m args below meth c D cA as0 n0 A as H locs E S X
  exact pxs_ok E.1 E.2.1 hd hp (k p e s m args below meth c D cA as0 n0 A as H locs E S X)
end AWR
end
section
/-! ===== the rules of AW: branches, fields, arrays, returns ===== -/
section AWR
variable {l : Launch} {Y : aY} {R : Room} {Q : aQ} {cu su pc : Nat} {ls : List (Option Value)} {st : List Value} {n : Nat} {h : aH}
theorem ws_o {cA : FieldType → ClassId} {as : Nat → Nat} {b ci : Nat} {fs : List Value} (hb : b < n) (he : h b = .inr (ci, fs)) : (wsOf cA as n h)[b]? = some (as b, .inr (ci, fs.map (tv as))) := by
  rw [wsOf_get hb, he]
  rfl
theorem ws_a {cA : FieldType → ClassId} {as : Nat → Nat} {b len : Nat} {ty : FieldType} {f : aC} (hb : b < n) (he : h b = .inl (ty, len, f)) : (wsOf cA as n h)[b]? = some (as b, .inl (cA ty, len, tC as f)) := by
  rw [wsOf_get hb, he]
  rfl
theorem AW.if_eq {x : Int32} {off : Int} {tgt : Nat} (hd : decode Y.2.1 pc = .ok (.ifCond .eq off, 3)) (ht : (pc : Int) + off = (tgt : Int)) (kt : x = 0 → AW l Y R Q cu su tgt ls st n h) (kf : ¬ x = 0 → AW l Y R Q cu su (pc + 3) ls st n h) : AW l Y R Q cu su pc ls (.int x :: st) n h := by
  intro p e s m args below meth c D cA as0 n0 A as H locs E S X lsA hl
  exact lv_if_eq E.1 E.2.1 hd ht (fun q => kt q p e s m args below meth c D cA as0 n0 A as H locs E S X lsA hl) (fun q => kf q p e s m args below meth c D cA as0 n0 A as H locs E S X lsA hl)
theorem AW.if_ne {x : Int32} {off : Int} {tgt : Nat} (hd : decode Y.2.1 pc = .ok (.ifCond .ne off, 3)) (ht : (pc : Int) + off = (tgt : Int)) (kt : ¬ x = 0 → AW l Y R Q cu su tgt ls st n h) (kf : x = 0 → AW l Y R Q cu su (pc + 3) ls st n h) : AW l Y R Q cu su pc ls (.int x :: st) n h := by
  intro p e s m args below meth c D cA as0 n0 A as H locs E S X lsA hl
  exact lv_if_ne E.1 E.2.1 hd ht (fun q => kt q p e s m args below meth c D cA as0 n0 A as H locs E S X lsA hl) (fun q => kf q p e s m args below meth c D cA as0 n0 A as H locs E S X lsA hl)
theorem AW.if_lt {x : Int32} {off : Int} {tgt : Nat} (hd : decode Y.2.1 pc = .ok (.ifCond .lt off, 3)) (ht : (pc : Int) + off = (tgt : Int)) (kt : x < 0 → AW l Y R Q cu su tgt ls st n h) (kf : ¬ x < 0 → AW l Y R Q cu su (pc + 3) ls st n h) : AW l Y R Q cu su pc ls (.int x :: st) n h := by
  intro p e s m args below meth c D cA as0 n0 A as H locs E S X lsA hl
  exact lv_if_lt E.1 E.2.1 hd ht (fun q => kt q p e s m args below meth c D cA as0 n0 A as H locs E S X lsA hl) (fun q => kf q p e s m args below meth c D cA as0 n0 A as H locs E S X lsA hl)
theorem AW.if_ge {x : Int32} {off : Int} {tgt : Nat} (hd : decode Y.2.1 pc = .ok (.ifCond .ge off, 3)) (ht : (pc : Int) + off = (tgt : Int)) (kt : 0 ≤ x → AW l Y R Q cu su tgt ls st n h) (kf : ¬ 0 ≤ x → AW l Y R Q cu su (pc + 3) ls st n h) : AW l Y R Q cu su pc ls (.int x :: st) n h := by
  intro p e s m args below meth c D cA as0 n0 A as H locs E S X lsA hl
  exact lv_if_ge E.1 E.2.1 hd ht (fun q => kt q p e s m args below meth c D cA as0 n0 A as H locs E S X lsA hl) (fun q => kf q p e s m args below meth c D cA as0 n0 A as H locs E S X lsA hl)
theorem AW.if_gt {x : Int32} {off : Int} {tgt : Nat} (hd : decode Y.2.1 pc = .ok (.ifCond .gt off, 3)) (ht : (pc : Int) + off = (tgt : Int)) (kt : 0 < x → AW l Y R Q cu su tgt ls st n h) (kf : ¬ 0 < x → AW l Y R Q cu su (pc + 3) ls st n h) : AW l Y R Q cu su pc ls (.int x :: st) n h := by
  intro p e s m args below meth c D cA as0 n0 A as H locs E S X lsA hl
  exact lv_if_gt E.1 E.2.1 hd ht (fun q => kt q p e s m args below meth c D cA as0 n0 A as H locs E S X lsA hl) (fun q => kf q p e s m args below meth c D cA as0 n0 A as H locs E S X lsA hl)
theorem AW.if_le {x : Int32} {off : Int} {tgt : Nat} (hd : decode Y.2.1 pc = .ok (.ifCond .le off, 3)) (ht : (pc : Int) + off = (tgt : Int)) (kt : x ≤ 0 → AW l Y R Q cu su tgt ls st n h) (kf : ¬ x ≤ 0 → AW l Y R Q cu su (pc + 3) ls st n h) : AW l Y R Q cu su pc ls (.int x :: st) n h := by
  intro p e s m args below meth c D cA as0 n0 A as H locs E S X lsA hl
  exact lv_if_le E.1 E.2.1 hd ht (fun q => kt q p e s m args below meth c D cA as0 n0 A as H locs E S X lsA hl) (fun q => kf q p e s m args below meth c D cA as0 n0 A as H locs E S X lsA hl)
theorem AW.icmp_eq {x y : Int32} {off : Int} {tgt : Nat} (hd : decode Y.2.1 pc = .ok (.if_icmp .eq off, 3)) (ht : (pc : Int) + off = (tgt : Int)) (kt : x = y → AW l Y R Q cu su tgt ls st n h) (kf : ¬ x = y → AW l Y R Q cu su (pc + 3) ls st n h) : AW l Y R Q cu su pc ls (.int y :: .int x :: st) n h := by
  intro p e s m args below meth c D cA as0 n0 A as H locs E S X lsA hl
  exact lv_icmp_eq E.1 E.2.1 hd ht (fun q => kt q p e s m args below meth c D cA as0 n0 A as H locs E S X lsA hl) (fun q => kf q p e s m args below meth c D cA as0 n0 A as H locs E S X lsA hl)
theorem AW.icmp_ne {x y : Int32} {off : Int} {tgt : Nat} (hd : decode Y.2.1 pc = .ok (.if_icmp .ne off, 3)) (ht : (pc : Int) + off = (tgt : Int)) (kt : ¬ x = y → AW l Y R Q cu su tgt ls st n h) (kf : x = y → AW l Y R Q cu su (pc + 3) ls st n h) : AW l Y R Q cu su pc ls (.int y :: .int x :: st) n h := by
  intro p e s m args below meth c D cA as0 n0 A as H locs E S X lsA hl
  exact lv_icmp_ne E.1 E.2.1 hd ht (fun q => kt q p e s m args below meth c D cA as0 n0 A as H locs E S X lsA hl) (fun q => kf q p e s m args below meth c D cA as0 n0 A as H locs E S X lsA hl)
theorem AW.icmp_lt {x y : Int32} {off : Int} {tgt : Nat} (hd : decode Y.2.1 pc = .ok (.if_icmp .lt off, 3)) (ht : (pc : Int) + off = (tgt : Int)) (kt : x < y → AW l Y R Q cu su tgt ls st n h) (kf : ¬ x < y → AW l Y R Q cu su (pc + 3) ls st n h) : AW l Y R Q cu su pc ls (.int y :: .int x :: st) n h := by
  intro p e s m args below meth c D cA as0 n0 A as H locs E S X lsA hl
  exact lv_icmp_lt E.1 E.2.1 hd ht (fun q => kt q p e s m args below meth c D cA as0 n0 A as H locs E S X lsA hl) (fun q => kf q p e s m args below meth c D cA as0 n0 A as H locs E S X lsA hl)
theorem AW.icmp_ge {x y : Int32} {off : Int} {tgt : Nat} (hd : decode Y.2.1 pc = .ok (.if_icmp .ge off, 3)) (ht : (pc : Int) + off = (tgt : Int)) (kt : y ≤ x → AW l Y R Q cu su tgt ls st n h) (kf : ¬ y ≤ x → AW l Y R Q cu su (pc + 3) ls st n h) : AW l Y R Q cu su pc ls (.int y :: .int x :: st) n h := by
  intro p e s m args below meth c D cA as0 n0 A as H locs E S X lsA hl
  exact lv_icmp_ge E.1 E.2.1 hd ht (fun q => kt q p e s m args below meth c D cA as0 n0 A as H locs E S X lsA hl) (fun q => kf q p e s m args below meth c D cA as0 n0 A as H locs E S X lsA hl)
theorem AW.icmp_gt {x y : Int32} {off : Int} {tgt : Nat} (hd : decode Y.2.1 pc = .ok (.if_icmp .gt off, 3)) (ht : (pc : Int) + off = (tgt : Int)) (kt : y < x → AW l Y R Q cu su tgt ls st n h) (kf : ¬ y < x → AW l Y R Q cu su (pc + 3) ls st n h) : AW l Y R Q cu su pc ls (.int y :: .int x :: st) n h := by
  intro p e s m args below meth c D cA as0 n0 A as H locs E S X lsA hl
  exact lv_icmp_gt E.1 E.2.1 hd ht (fun q => kt q p e s m args below meth c D cA as0 n0 A as H locs E S X lsA hl) (fun q => kf q p e s m args below meth c D cA as0 n0 A as H locs E S X lsA hl)
theorem AW.icmp_le {x y : Int32} {off : Int} {tgt : Nat} (hd : decode Y.2.1 pc = .ok (.if_icmp .le off, 3)) (ht : (pc : Int) + off = (tgt : Int)) (kt : x ≤ y → AW l Y R Q cu su tgt ls st n h) (kf : ¬ x ≤ y → AW l Y R Q cu su (pc + 3) ls st n h) : AW l Y R Q cu su pc ls (.int y :: .int x :: st) n h := by
  intro p e s m args below meth c D cA as0 n0 A as H locs E S X lsA hl
  exact lv_icmp_le E.1 E.2.1 hd ht (fun q => kt q p e s m args below meth c D cA as0 n0 A as H locs E S X lsA hl) (fun q => kf q p e s m args below meth c D cA as0 n0 A as H locs E S X lsA hl)
theorem AW.idiv {x y : Int32} (hne : ¬ y = 0) (hd : decode Y.2.1 pc = .ok (.idiv, 1)) (k : AW l Y R Q cu su (pc + 1) ls (.int (x / y) :: st) n h) : AW l Y R Q cu su pc ls (.int y :: .int x :: st) n h := by
  intro p e s m args below meth c D cA as0 n0 A as H locs E S X lsA hl
  exact lv_idiv E.1 E.2.1 hd hne (k p e s m args below meth c D cA as0 n0 A as H locs E S X lsA hl)
theorem AW.irem {x y : Int32} (hne : ¬ y = 0) (hd : decode Y.2.1 pc = .ok (.irem, 1)) (k : AW l Y R Q cu su (pc + 1) ls (.int (x - x / y * y) :: st) n h) : AW l Y R Q cu su pc ls (.int y :: .int x :: st) n h := by
  intro p e s m args below meth c D cA as0 n0 A as H locs E S X lsA hl
  exact lv_irem E.1 E.2.1 hd hne (k p e s m args below meth c D cA as0 n0 A as H locs E S X lsA hl)
theorem AW.ldiv {x y : Int64} (hne : ¬ y = 0) (hd : decode Y.2.1 pc = .ok (.ldiv, 1)) (k : AW l Y R Q cu su (pc + 1) ls (.long (x / y) :: st) n h) : AW l Y R Q cu su pc ls (.long y :: .long x :: st) n h := by
  intro p e s m args below meth c D cA as0 n0 A as H locs E S X lsA hl
  exact lv_ldiv E.1 E.2.1 hd hne (k p e s m args below meth c D cA as0 n0 A as H locs E S X lsA hl)
theorem AW.lrem {x y : Int64} (hne : ¬ y = 0) (hd : decode Y.2.1 pc = .ok (.lrem, 1)) (k : AW l Y R Q cu su (pc + 1) ls (.long (x - x / y * y) :: st) n h) : AW l Y R Q cu su pc ls (.long y :: .long x :: st) n h := by
  intro p e s m args below meth c D cA as0 n0 A as H locs E S X lsA hl
  exact lv_lrem E.1 E.2.1 hd hne (k p e s m args below meth c D cA as0 n0 A as H locs E S X lsA hl)
theorem AW.ldc {idx : Nat} {v : Int32} (hw : Cond.constant Y.1.cls idx v ∈ wG) (hd : decode Y.2.1 pc = .ok (.ldc idx, 2)) (k : AW l Y R Q cu su (pc + 2) ls (.int v :: st) n h) : AW l Y R Q cu su pc ls st n h := by
  intro p e s m args below meth c D cA as0 n0 A as H locs E S X lsA hl
  exact lv_ldc E.1 E.2.1 E.2.2.2.2.1 (E.2.2.2.2.2.1 _ hw) hd (k p e s m args below meth c D cA as0 n0 A as H locs E S X lsA hl)
theorem AW.ldcw {idx : Nat} {v : Int32} (hw : Cond.constant Y.1.cls idx v ∈ wG) (hd : decode Y.2.1 pc = .ok (.ldc_w idx, 3)) (k : AW l Y R Q cu su (pc + 3) ls (.int v :: st) n h) : AW l Y R Q cu su pc ls st n h := by
  intro p e s m args below meth c D cA as0 n0 A as H locs E S X lsA hl
  exact lv_ldcw E.1 E.2.1 E.2.2.2.2.1 (E.2.2.2.2.2.1 _ hw) hd (k p e s m args below meth c D cA as0 n0 A as H locs E S X lsA hl)
theorem AW.ldc2 {idx : Nat} {v : Int64} (hw : Cond.constantLong Y.1.cls idx v ∈ wG) (hd : decode Y.2.1 pc = .ok (.ldc2_w idx, 3)) (k : AW l Y R Q cu su (pc + 3) ls (.long v :: st) n h) : AW l Y R Q cu su pc ls st n h := by
  intro p e s m args below meth c D cA as0 n0 A as H locs E S X lsA hl
  exact lv_ldc2 E.1 E.2.1 E.2.2.2.2.1 (E.2.2.2.2.2.1 _ hw) hd (k p e s m args below meth c D cA as0 n0 A as H locs E S X lsA hl)
theorem AW.lookup {dflt : Int} {ps : Array (Int × Int)} {len : Nat} {x : Int32} {off : Int} {tgt : Nat} (hd : decode Y.2.1 pc = .ok (.lookupswitch dflt ps, len)) (hp : (ps.toList.zip (ps.toList.drop 1)).all (fun (a, next) => a.1 < next.1) = true) (ho : Op.lookupswitch.offset ps.toList dflt x.toInt = off) (ht : (pc : Int) + off = (tgt : Int)) (k : AW l Y R Q cu su tgt ls st n h) : AW l Y R Q cu su pc ls (.int x :: st) n h := by
  intro p e s m args below meth c D cA as0 n0 A as H locs E S X lsA hl
  exact lv_lookup E.1 E.2.1 hd hp ho ht (k p e s m args below meth c D cA as0 n0 A as H locs E S X lsA hl)
theorem AW.tableIn {dflt lo hi : Int} {offs : Array Int} {len : Nat} {x : Int32} {off : Int} {tgt : Nat} (hd : decode Y.2.1 pc = .ok (.tableswitch dflt lo hi offs, len)) (h1 : ¬ x.toInt < lo) (h2 : ¬ hi < x.toInt) (ho : offs[(x.toInt - lo).toNat]? = some off) (ht : (pc : Int) + off = (tgt : Int)) (k : AW l Y R Q cu su tgt ls st n h) : AW l Y R Q cu su pc ls (.int x :: st) n h := by
  intro p e s m args below meth c D cA as0 n0 A as H locs E S X lsA hl
  exact lv_tableIn E.1 E.2.1 hd h1 h2 ho ht (k p e s m args below meth c D cA as0 n0 A as H locs E S X lsA hl)
theorem AW.tableOut {dflt lo hi : Int} {offs : Array Int} {len : Nat} {x : Int32} {tgt : Nat} (hd : decode Y.2.1 pc = .ok (.tableswitch dflt lo hi offs, len)) (h0 : x.toInt < lo ∨ hi < x.toInt) (ht : (pc : Int) + dflt = (tgt : Int)) (k : AW l Y R Q cu su tgt ls st n h) : AW l Y R Q cu su pc ls (.int x :: st) n h := by
  intro p e s m args below meth c D cA as0 n0 A as H locs E S X lsA hl
  exact lv_tableOut E.1 E.2.1 hd h0 ht (k p e s m args below meth c D cA as0 n0 A as H locs E S X lsA hl)
/-- a field's entry in a class file: the class's number, the field's number -/
def FL (own : String) (idx ci k : Nat) : Prop := ∃ (C : String) (T : u_T) (N : Nat), classes[ci]? = some (C, T, N) ∧ (∀ w ∈ u_ws C T N, w ∈ wG) ∧ k < N ∧ (Cond.fieldLink own idx (T k).1 (T k).2.1 (T k).2.2.1 ∈ wG ∨ ∃ host, Cond.fieldLinkNest own idx (T k).1 (T k).2.1 (T k).2.2.1 host ∈ wN)
/-- the same, to write: of a type, final or not -/
def FP (own : String) (idx ci k : Nat) (ty : FieldType) (fin : Bool) : Prop := ∃ (C : String) (T : u_T) (N : Nat) (ty0 : Nat → FieldType), classes[ci]? = some (C, T, N) ∧ (∀ w ∈ u_ws C T N, w ∈ wG) ∧ k < N ∧ (∀ k, k < N → parseFieldDescriptor (T k).2.2.1 = some (ty0 k)) ∧ (∀ a, a < N → ∀ b, b < N → a ≠ b → (T a).2.1 ≠ (T b).2.1) ∧ parseFieldDescriptor (T k).2.2.1 = some ty ∧ (T k).2.2.2 = fin ∧
  (Cond.fieldLink own idx (T k).1 (T k).2.1 (T k).2.2.1 ∈ wG ∨ ∃ host, Cond.fieldLinkNest own idx (T k).1 (T k).2.1 (T k).2.2.1 host ∈ wN)
theorem AW.getf {idx ci j b : Nat} {fs : List Value} {v : Value} (hL : FL Y.1.cls idx ci j) (hd : decode Y.2.1 pc = .ok (.getfield idx, 3)) (hb : b < n) (he : h b = .inr (ci, fs)) (hv : fs[j]? = some v) (k : AW l Y R Q cu su (pc + 3) ls (v :: st) n h) : AW l Y R Q cu su pc ls (.ref b :: st) n h := by
  intro p e s m args below meth c D cA as0 n0 A as H locs E S X lsA hl
  obtain ⟨C, T, N, h1, h2, h3, h4⟩ := hL
  have hv' : (fs.map (tv as))[j]? = some (tv as v) := by rw [List.getElem?_map, hv]; rfl
  rcases h4 with h4 | ⟨host, h4⟩
  · exact va_get E.1 E.2.1 E.2.2.2.2.2.1 h2 E.2.2.2.2.1 S.1 S.2.1 b (ws_o hb he) h1 j h3 (E.2.2.2.2.2.1 _ h4) (fun _ q => q) hv' hd (k p e s m args below meth c D cA as0 n0 A as H locs E S X lsA hl)
  · exact va_getN E.1 E.2.1 E.2.2.2.2.2.1 h2 E.2.2.2.2.1 S.1 S.2.1 b (ws_o hb he) h1 j h3 (va_Nw.use rfl (E.2.2.2.2.2.2.2.1 _ h4)) (fun _ q => q) hv' hd (k p e s m args below meth c D cA as0 n0 A as H locs E S X lsA hl)
theorem AW.putf {idx ci j b : Nat} {fs : List Value} {v : Value} {ty : FieldType} (hL : FP Y.1.cls idx ci j ty false) (hd : decode Y.2.1 pc = .ok (.putfield idx, 3)) (hb : b < n) (he : h b = .inr (ci, fs)) (hj : j < fs.length) (hn : ∀ as, narrow ty (tv as v) = tv as v) (hf : ∀ as, fits ty (tv as v) = true) (k : AW l Y R Q cu su (pc + 3) ls st n (va_up h b (.inr (ci, fs.set j v)))) : AW l Y R Q cu su pc ls (v :: .ref b :: st) n h := by
  intro p e s m args below meth c D cA as0 n0 A as H locs E S X lsA hl
  obtain ⟨C, T, N, ty0, h1, h2, h3, h4, h5, h6, h7, h8⟩ := hL
  have hx : (as b, (.inr (ci, (fs.map (tv as)).set j (tv as v)) : va_E)) = (as b, tE cA as (.inr (ci, fs.set j v))) := by
    show _ = (as b, (.inr (ci, (fs.set j v).map (tv as)) : va_E))
    rw [List.map_set]
  rcases h8 with h8 | ⟨host, h8⟩
  · refine va_put E.1 E.2.1 E.2.2.2.2.2.1 h2 ty0 h4 h5 E.2.2.2.2.1 S.1 S.2.1 S.2.2.1 S.2.2.2.1 b (ws_o hb he) h1 j h3 (E.2.2.2.2.2.1 _ h8) (fun _ q => q) h7 h6 (hn as) (hf as) (by simpa using hj) hd (fun H1 locs1 hP hD hS => ?_)
    rw [wsOf_set hx] at hP hD
    exact k p e s m args below meth c D cA as0 n0 A as H1 locs1 E ⟨S.1, hP, hD, hS, S.2.2.2.2⟩ X lsA hl
  · refine va_putN E.1 E.2.1 E.2.2.2.2.2.1 h2 ty0 h4 h5 E.2.2.2.2.1 S.1 S.2.1 S.2.2.1 S.2.2.2.1 b (ws_o hb he) h1 j h3 (va_Nw.use rfl (E.2.2.2.2.2.2.2.1 _ h8)) (fun _ q => q) h7 h6 (hn as) (hf as) (by simpa using hj) hd (fun H1 locs1 hP hD hS => ?_)
    rw [wsOf_set hx] at hP hD
    exact k p e s m args below meth c D cA as0 n0 A as H1 locs1 E ⟨S.1, hP, hD, hS, S.2.2.2.2⟩ X lsA hl
/-- a final field, in the constructor of its class -/
def FF (own : String) (idx ci k : Nat) (ty : FieldType) : Prop := ∃ (C : String) (T : u_T) (N : Nat) (ty0 : Nat → FieldType), classes[ci]? = some (C, T, N) ∧ (∀ w ∈ u_ws C T N, w ∈ wG) ∧ k < N ∧ (∀ k, k < N → parseFieldDescriptor (T k).2.2.1 = some (ty0 k)) ∧ (∀ a, a < N → ∀ b, b < N → a ≠ b → (T a).2.1 ≠ (T b).2.1) ∧ parseFieldDescriptor (T k).2.2.1 = some ty ∧ (T k).2.2.2 = true ∧ (T k).1 = own ∧ Cond.fieldLink own idx (T k).1 (T k).2.1 (T k).2.2.1 ∈ wG
theorem AW.putF {idx ci j b : Nat} {fs : List Value} {v : Value} {ty : FieldType} (hL : FF Y.1.cls idx ci j ty) (hi : Y.1.name = "<init>") (hd : decode Y.2.1 pc = .ok (.putfield idx, 3)) (hb : b < n) (he : h b = .inr (ci, fs)) (hj : j < fs.length) (hn : ∀ as, narrow ty (tv as v) = tv as v) (hf : ∀ as, fits ty (tv as v) = true) (k : AW l Y R Q cu su (pc + 3) ls st n (va_up h b (.inr (ci, fs.set j v)))) : AW l Y R Q cu su pc ls (v :: .ref b :: st) n h := by
  intro p e s m args below meth c D cA as0 n0 A as H locs E S X lsA hl
  obtain ⟨C, T, N, ty0, h1, h2, h3, h4, h5, h6, h7, h7', h8⟩ := hL
  have hx : (as b, (.inr (ci, (fs.map (tv as)).set j (tv as v)) : va_E)) = (as b, tE cA as (.inr (ci, fs.set j v))) := by
    show _ = (as b, (.inr (ci, (fs.set j v).map (tv as)) : va_E))
    rw [List.map_set]
  refine va_putF E.1 E.2.1 E.2.2.2.2.2.1 h2 ty0 h4 h5 E.2.2.2.2.1 S.1 S.2.1 S.2.2.1 S.2.2.2.1 b (ws_o hb he) h1 j h3 (E.2.2.2.2.2.1 _ h8) (fun _ q => q) h7 (E.2.2.2.2.2.2.2.2.trans hi) h7' h6 (hn as) (hf as) (by simpa using hj) hd (fun H1 locs1 hP hD hS => ?_)
  rw [wsOf_set hx] at hP hD
  exact k p e s m args below meth c D cA as0 n0 A as H1 locs1 E ⟨S.1, hP, hD, hS, S.2.2.2.2⟩ X lsA hl
theorem AW.iald {b len : Nat} {i : Int32} {f : Nat → Int32} (hd : decode Y.2.1 pc = .ok (.iaload, 1)) (hb : b < n) (he : h b = .inl (.int, len, .inl f)) (hi : vp_in i len) (k : AW l Y R Q cu su (pc + 1) ls (.int (f i.toNatClampNeg) :: st) n h) : AW l Y R Q cu su pc ls (.int i :: .ref b :: st) n h := by
  intro p e s m args below meth c D cA as0 n0 A as H locs E S X lsA hl
  exact va_iald E.1 E.2.1 S.1 S.2.1 b 0 (ws_a hb he) rfl hi hd (k p e s m args below meth c D cA as0 n0 A as H locs E S X lsA hl)
theorem AW.lald {b len : Nat} {i : Int32} {f : Nat → Int64} (hd : decode Y.2.1 pc = .ok (.laload, 1)) (hb : b < n) (he : h b = .inl (.long, len, .inr (.inl f))) (hi : vp_in i len) (k : AW l Y R Q cu su (pc + 1) ls (.long (f i.toNatClampNeg) :: st) n h) : AW l Y R Q cu su pc ls (.int i :: .ref b :: st) n h := by
  intro p e s m args below meth c D cA as0 n0 A as H locs E S X lsA hl
  exact va_lald E.1 E.2.1 S.1 S.2.1 b 1 (ws_a hb he) rfl hi hd (k p e s m args below meth c D cA as0 n0 A as H locs E S X lsA hl)
theorem AW.bald {b len : Nat} {i : Int32} {f : Nat → Int32} (hd : decode Y.2.1 pc = .ok (.baload, 1)) (hb : b < n) (he : h b = .inl (.byte, len, .inl f)) (hi : vp_in i len) (k : AW l Y R Q cu su (pc + 1) ls (.int (f i.toNatClampNeg) :: st) n h) : AW l Y R Q cu su pc ls (.int i :: .ref b :: st) n h := by
  intro p e s m args below meth c D cA as0 n0 A as H locs E S X lsA hl
  exact va_bald E.1 E.2.1 S.1 S.2.1 b 2 (ws_a hb he) rfl hi hd (k p e s m args below meth c D cA as0 n0 A as H locs E S X lsA hl)
theorem AW.zald {b len : Nat} {i : Int32} {f : Nat → Int32} (hd : decode Y.2.1 pc = .ok (.baload, 1)) (hb : b < n) (he : h b = .inl (.boolean, len, .inl f)) (hi : vp_in i len) (k : AW l Y R Q cu su (pc + 1) ls (.int (f i.toNatClampNeg) :: st) n h) : AW l Y R Q cu su pc ls (.int i :: .ref b :: st) n h := by
  intro p e s m args below meth c D cA as0 n0 A as H locs E S X lsA hl
  exact va_zald E.1 E.2.1 S.1 S.2.1 b 3 (ws_a hb he) rfl hi hd (k p e s m args below meth c D cA as0 n0 A as H locs E S X lsA hl)
theorem AW.iast {b len : Nat} {i : Int32} {x : Int32} {f : Nat → Int32} (hd : decode Y.2.1 pc = .ok (.iastore, 1)) (hb : b < n) (he : h b = .inl (.int, len, .inl f)) (hi : vp_in i len) (k : AW l Y R Q cu su (pc + 1) ls st n (va_up h b (.inl (.int, len, .inl (upd f i.toNatClampNeg x))))) : AW l Y R Q cu su pc ls (.int x :: .int i :: .ref b :: st) n h := by
  intro p e s m args below meth c D cA as0 n0 A as H locs E S X lsA hl
  refine va_iast E.1 E.2.1 S.1 S.2.1 S.2.2.1 S.2.2.2.1 b 0 (ws_a hb he) rfl hi hd (fun H1 locs1 hP hD hS => ?_)
  have hx : (as b, (.inl (cA .int, len, .inl (upd f i.toNatClampNeg x)) : va_E)) = (as b, tE cA as (.inl (.int, len, .inl (upd f i.toNatClampNeg x)))) := rfl
  rw [wsOf_set hx] at hP hD
  exact k p e s m args below meth c D cA as0 n0 A as H1 locs1 E ⟨S.1, hP, hD, hS, S.2.2.2.2⟩ X lsA hl
theorem AW.last {b len : Nat} {i : Int32} {x : Int64} {f : Nat → Int64} (hd : decode Y.2.1 pc = .ok (.lastore, 1)) (hb : b < n) (he : h b = .inl (.long, len, .inr (.inl f))) (hi : vp_in i len) (k : AW l Y R Q cu su (pc + 1) ls st n (va_up h b (.inl (.long, len, .inr (.inl (vp_updL f i.toNatClampNeg x)))))) : AW l Y R Q cu su pc ls (.long x :: .int i :: .ref b :: st) n h := by
  intro p e s m args below meth c D cA as0 n0 A as H locs E S X lsA hl
  refine va_last E.1 E.2.1 S.1 S.2.1 S.2.2.1 S.2.2.2.1 b 1 (ws_a hb he) rfl hi hd (fun H1 locs1 hP hD hS => ?_)
  have hx : (as b, (.inl (cA .long, len, .inr (.inl (vp_updL f i.toNatClampNeg x))) : va_E)) = (as b, tE cA as (.inl (.long, len, .inr (.inl (vp_updL f i.toNatClampNeg x))))) := rfl
  rw [wsOf_set hx] at hP hD
  exact k p e s m args below meth c D cA as0 n0 A as H1 locs1 E ⟨S.1, hP, hD, hS, S.2.2.2.2⟩ X lsA hl
theorem AW.bast {b len : Nat} {i : Int32} {x : Int32} {f : Nat → Int32} (hd : decode Y.2.1 pc = .ok (.bastore, 1)) (hb : b < n) (he : h b = .inl (.byte, len, .inl f)) (hi : vp_in i len) (k : AW l Y R Q cu su (pc + 1) ls st n (va_up h b (.inl (.byte, len, .inl (upd f i.toNatClampNeg (vp_nar .byte x)))))) : AW l Y R Q cu su pc ls (.int x :: .int i :: .ref b :: st) n h := by
  intro p e s m args below meth c D cA as0 n0 A as H locs E S X lsA hl
  refine va_bast E.1 E.2.1 S.1 S.2.1 S.2.2.1 S.2.2.2.1 b 2 (ws_a hb he) rfl hi hd (fun H1 locs1 hP hD hS => ?_)
  have hx : (as b, (.inl (cA .byte, len, .inl (upd f i.toNatClampNeg (vp_nar .byte x))) : va_E)) = (as b, tE cA as (.inl (.byte, len, .inl (upd f i.toNatClampNeg (vp_nar .byte x))))) := rfl
  rw [wsOf_set hx] at hP hD
  exact k p e s m args below meth c D cA as0 n0 A as H1 locs1 E ⟨S.1, hP, hD, hS, S.2.2.2.2⟩ X lsA hl
theorem AW.zast {b len : Nat} {i : Int32} {x : Int32} {f : Nat → Int32} (hd : decode Y.2.1 pc = .ok (.bastore, 1)) (hb : b < n) (he : h b = .inl (.boolean, len, .inl f)) (hi : vp_in i len) (k : AW l Y R Q cu su (pc + 1) ls st n (va_up h b (.inl (.boolean, len, .inl (upd f i.toNatClampNeg (vp_nar .boolean x)))))) : AW l Y R Q cu su pc ls (.int x :: .int i :: .ref b :: st) n h := by
  intro p e s m args below meth c D cA as0 n0 A as H locs E S X lsA hl
  refine va_zast E.1 E.2.1 S.1 S.2.1 S.2.2.1 S.2.2.2.1 b 3 (ws_a hb he) rfl hi hd (fun H1 locs1 hP hD hS => ?_)
  have hx : (as b, (.inl (cA .boolean, len, .inl (upd f i.toNatClampNeg (vp_nar .boolean x))) : va_E)) = (as b, tE cA as (.inl (.boolean, len, .inl (upd f i.toNatClampNeg (vp_nar .boolean x))))) := rfl
  rw [wsOf_set hx] at hP hD
  exact k p e s m args below meth c D cA as0 n0 A as H1 locs1 E ⟨S.1, hP, hD, hS, S.2.2.2.2⟩ X lsA hl
/-- an object out of a row of objects -/
theorem AW.aald {b len t0 o : Nat} {C : String} {i : Int32} {f : Nat → Option Nat} (ht : ∀ cA, (tyl cA)[t0]? = some (cA (.object C), .object C)) (hd : decode Y.2.1 pc = .ok (.aaload, 1)) (hb : b < n) (he : h b = .inl (.object C, len, .inr (.inr (.inr (.inr f))))) (hi : vp_in i len) (ho : f i.toNatClampNeg = some o) (k : AW l Y R Q cu su (pc + 1) ls (.ref o :: st) n h) : AW l Y R Q cu su pc ls (.int i :: .ref b :: st) n h := by
  intro p e s m args below meth c D cA as0 n0 A as H locs E S X lsA hl
  refine va_aldq E.1 E.2.1 S.1 S.2.1 b t0 (ws_a hb he) (ht cA) hi hd ?_
  have k2 := k p e s m args below meth c D cA as0 n0 A as H locs E S X lsA hl
  show W p l e R s m args below meth c H locs cu su _ (F0 m (pc + 1) lsA (va_rf ((f i.toNatClampNeg).map as) :: st.map (tv as)))
  rw [ho]
  exact k2
theorem AW.aast {b len t0 o ci : Nat} {r : vw_C} {vs : List Value} {i : Int32} {f : Nat → Option Nat} (ht : ∀ cA, (tyl cA)[t0]? = some (cA (.object r.1), .object r.1)) (hd : decode Y.2.1 pc = .ok (.aastore, 1)) (hb : b < n) (he : h b = .inl (.object r.1, len, .inr (.inr (.inr (.inr f))))) (ho : o < n) (hq : h o = .inr (ci, vs)) (hc : classes[ci]? = some r) (hi : vp_in i len) (k : AW l Y R Q cu su (pc + 1) ls st n (va_up h b (.inl (.object r.1, len, .inr (.inr (.inr (.inr (va_up f i.toNatClampNeg (some o))))))))) : AW l Y R Q cu su pc ls (.ref o :: .int i :: .ref b :: st) n h := by
  intro p e s m args below meth c D cA as0 n0 A as H locs E S X lsA hl
  refine va_astq E.1 E.2.1 S.1 S.2.1 S.2.2.1 S.2.2.2.1 b t0 o ci (ws_a hb he) (ht cA) (ws_o ho hq) hc hi hd (fun H1 locs1 hP hD hS => ?_)
  have hx : (as b, (.inl (cA (.object r.1), len, .inr (.inr (.inr (.inr (va_up (fun j => (f j).map as) i.toNatClampNeg (some (as o))))))) : va_E)) = (as b, tE cA as (.inl (.object r.1, len, .inr (.inr (.inr (.inr (va_up f i.toNatClampNeg (some o)))))))) := by
    show _ = (as b, (.inl (cA (.object r.1), len, .inr (.inr (.inr (.inr (fun j => (va_up f i.toNatClampNeg (some o) j).map as))))) : va_E))
    have : va_up (fun j => (f j).map as) i.toNatClampNeg (some (as o)) = fun j => (va_up f i.toNatClampNeg (some o) j).map as := by
      funext j
      by_cases hj : j = i.toNatClampNeg
      · subst hj; simp [va_up]
      · simp [va_up, hj]
    rw [this]
  rw [wsOf_set hx] at hP hD
  exact k p e s m args below meth c D cA as0 n0 A as H1 locs1 E ⟨S.1, hP, hD, hS, S.2.2.2.2⟩ X lsA hl
theorem AW.iret {v : Int32} (hr : Y.2.2.2 = some .int) (hd : decode Y.2.1 pc = .ok (.ireturn, 1)) (hc : cu ≤ R.cells) (hs : su ≤ R.slots) (hq : Q (some (.int v)) n h) : AW l Y R Q cu su pc ls [.int v] n h := by
  intro p e s m args below meth c D cA as0 n0 A as H locs E S X lsA hl
  refine W.widen hc hs ?_
  have hlocks : meth.locks = false := E.2.2.2.2.2.2.1
  exact W.iret (v := v) E.1 E.2.1 (E.2.2.1.trans hr) (fun t ht hW => ⟨⟨some (.int v), n, h, as, rfl, hq, X, by rw [ht]; exact S.2.1, va_K.moved hW.alike S.1, S.2.2.1⟩, S.2.2.2.1.F ht⟩) S.2.2.2.1.2.2 hd
theorem AW.zret {v : Int32} {ty : FieldType} (hr : Y.2.2.2 = some ty) (hn : narrow ty (.int v) = .int v) (hd : decode Y.2.1 pc = .ok (.ireturn, 1)) (hc : cu ≤ R.cells) (hs : su ≤ R.slots) (hq : Q (some (.int v)) n h) : AW l Y R Q cu su pc ls [.int v] n h := by
  intro p e s m args below meth c D cA as0 n0 A as H locs E S X lsA hl
  refine W.widen hc hs ?_
  have hlocks : meth.locks = false := E.2.2.2.2.2.2.1
  exact W.zret (v := v) E.1 E.2.1 (E.2.2.1.trans hr) hn (fun t ht hW => ⟨⟨some (.int v), n, h, as, rfl, hq, X, by rw [ht]; exact S.2.1, va_K.moved hW.alike S.1, S.2.2.1⟩, S.2.2.2.1.F ht⟩) S.2.2.2.1.2.2 hd
theorem AW.lret {v : Int64} (hr : Y.2.2.2 = some .long) (hd : decode Y.2.1 pc = .ok (.lreturn, 1)) (hc : cu ≤ R.cells) (hs : su ≤ R.slots) (hq : Q (some (.long v)) n h) : AW l Y R Q cu su pc ls [.long v] n h := by
  intro p e s m args below meth c D cA as0 n0 A as H locs E S X lsA hl
  refine W.widen hc hs ?_
  have hlocks : meth.locks = false := E.2.2.2.2.2.2.1
  exact W.lret (v := v) E.1 E.2.1 (E.2.2.1.trans hr) (fun t ht hW => ⟨⟨some (.long v), n, h, as, rfl, hq, X, by rw [ht]; exact S.2.1, va_K.moved hW.alike S.1, S.2.2.1⟩, S.2.2.2.1.F ht⟩) S.2.2.2.1.2.2 hd
theorem AW.vret  (hr : Y.2.2.2 = none) (hd : decode Y.2.1 pc = .ok (.return_, 1)) (hc : cu ≤ R.cells) (hs : su ≤ R.slots) (hq : Q (none) n h) : AW l Y R Q cu su pc ls [] n h := by
  intro p e s m args below meth c D cA as0 n0 A as H locs E S X lsA hl
  refine W.widen hc hs ?_
  have hlocks : meth.locks = false := E.2.2.2.2.2.2.1
  exact W.vret E.1 E.2.1 (E.2.2.1.trans hr) (fun t ht hW => ⟨⟨none, n, h, as, rfl, hq, X, by rw [ht]; exact S.2.1, va_K.moved hW.alike S.1, S.2.2.1⟩, S.2.2.2.1.F ht⟩) S.2.2.2.1.2.2 hd
theorem AW.aret {v : Nat} {C : String} (hr : Y.2.2.2 = some (.object C)) (hd : decode Y.2.1 pc = .ok (.areturn, 1)) (hc : cu ≤ R.cells) (hs : su ≤ R.slots) (hq : Q (some (.ref v)) n h) : AW l Y R Q cu su pc ls [.ref v] n h := by
  intro p e s m args below meth c D cA as0 n0 A as H locs E S X lsA hl
  refine W.widen hc hs ?_
  have hlocks : meth.locks = false := E.2.2.2.2.2.2.1
  exact W.aret (v := .ref (as v)) E.1 E.2.1 (E.2.2.1.trans hr) (Or.inl ⟨_, rfl⟩) (Or.inr ⟨_, rfl⟩) (fun t ht hW => ⟨⟨some (.ref v), n, h, as, rfl, hq, X, by rw [ht]; exact S.2.1, va_K.moved hW.alike S.1, S.2.2.1⟩, S.2.2.2.1.F ht⟩) S.2.2.2.1.2.2 hd
end AWR
end
section
/-! ===== contracts over the pool, and calls ===== -/
def aw_Pc (D : va_G) (cA : FieldType → ClassId) (as : Nat → Nat) (n : Nat) (h : aH) (sz : Nat) (av : List Value) : Array Value → State → Prop := fun v U =>
  v = (av.map (tv as)).toArray ∧ U.heap.size = sz ∧ va_P D classes (wsOf cA as n h) U.heap ∧ va_K D classes (tyl cA) U ∧ va_D (fun _ => True) (wsOf cA as n h) ∧ (∀ w ∈ wN, va_Nw w U) ∧ aw_X as (va_A (wsOf cA as n h) sz) U U.heap ∧ n ≤ kW
/-- the method Y, called with av where the pool is h, returns r where the pool is h': what Q says of r and h' -/
def AOk (l : Launch) (Y : aY) (rm : Room) (Q : aQ) (av : List Value) (n : Nat) (h : aH) : Prop :=
  ∀ (D : va_G) (cA : FieldType → ClassId) (as : Nat → Nat) (sz : Nat), Met l Y.1 (Cond.code Y.1 Y.2.1 Y.2.2.1 Y.2.2.2 :: wG) rm (aw_Pc D cA as n h sz av) (aw_Q D cA as n (va_A (wsOf cA as n h) sz) Q) rm.cells rm.slots (va_A (wsOf cA as n h) sz)
theorem aw_blind {D : va_G} {cA : FieldType → ClassId} {as : Nat → Nat} {n : Nat} {h : aH} {sz : Nat} {av : List Value} : FrameBlind (aw_Pc D cA as n h sz av) := by
  intro a U g mk q
  obtain ⟨h1, h2, h3, h4, h5, h6, h7, h8⟩ := q
  exact ⟨h1, h2, h3, va_K.moved (u := U) (U := U.calling g mk a) (Vm.Alike.refl U.vm) h4, h5, wN_same (u := U) (U := U.calling g mk a) rfl h6, aw_X.same (s := U) (U := U.calling g mk a) rfl h7, h8⟩
/-- the locals at a method's entry -/
def enL : List Value → List (Option Value)
  | [] => []
  | v :: r => bif Nat.beq v.category 2 then some v :: none :: enL r else some v :: enL r
def padL (av : List Value) (nL : Nat) : List (Option Value) := enL av ++ List.replicate (nL - (enL av).length) none
theorem asc_none (as : Nat → Nat) : ∀ (k j : Nat), asc as j (List.replicate k none) = []
  | 0, _ => rfl
  | k + 1, j => by rw [List.replicate_succ]; exact asc_none as k (j + 1)
theorem asc_en (as : Nat → Nat) (k : Nat) : ∀ (av : List Value) (j : Nat), asc as j (enL av ++ List.replicate k none) = lv_args j (av.map (tv as))
  | [], j => by simp [enL, lv_args, asc_none]
  | v :: r, j => by
    by_cases hv : v.category = 2
    · have h1 : Nat.beq v.category 2 = true := by rw [hv]; rfl
      have h2 : (tv as v).category = 2 := by rw [tv_cat]; exact hv
      simp only [enL, h1, cond_true, List.cons_append, asc, List.map_cons, lv_args, h2, if_true]
      rw [asc_en as k r (j + 1 + 1)]
    · have h1 : Nat.beq v.category 2 = false := Bool.eq_false_iff.mpr (fun z => hv (Nat.eq_of_beq_eq_true z))
      have h2 : ¬ (tv as v).category = 2 := by rw [tv_cat]; exact hv
      simp only [enL, h1, cond_false, List.cons_append, asc, List.map_cons, lv_args, h2, if_false]
      rw [asc_en as k r (j + 1)]
theorem en_len (as : Nat → Nat) : ∀ (av : List Value), (lg_sl (av.map (tv as))).length = (enL av).length
  | [] => rfl
  | v :: r => by
    have ih := en_len as r
    by_cases hv : v.category = 2
    · have h1 : Nat.beq v.category 2 = true := by rw [hv]; rfl
      have h2 : (tv as v).category = 2 := by rw [tv_cat]; exact hv
      simp only [lg_sl, List.map_cons, List.flatMap_cons, h2, if_true, enL, h1, cond_true, List.length_append, List.length_cons, List.length_nil]
      unfold lg_sl at ih
      rw [ih]
      omega
    · have h1 : Nat.beq v.category 2 = false := Bool.eq_false_iff.mpr (fun z => hv (Nat.eq_of_beq_eq_true z))
      have h2 : ¬ (tv as v).category = 2 := by rw [tv_cat]; exact hv
      simp only [lg_sl, List.map_cons, List.flatMap_cons, h2, if_false, enL, h1, cond_false, List.length_append, List.length_cons, List.length_nil]
      unfold lg_sl at ih
      rw [ih]
      omega
/-- a contract out of a walk -/
theorem AOk.of {l : Launch} {Y : aY} {rm : Room} {Q : aQ} {av : List Value} {n : Nat} {h : aH} {ls : List (Option Value)} (hy : plainName Y.1.cls = true) (hl : (enL av).length ≤ Y.2.2.1) (hls : padL av Y.2.2.1 = ls) (k : AW l Y rm Q 0 0 0 ls [] n h) : AOk l Y rm Q av n h := by
  intro D cA as sz
  refine Met.ofW (cc := Y.2.1) (maxL := Y.2.2.1) (ret := Y.2.2.2) hy rfl ?_
  intro p e s m args below meth c s₁ B hml hv
  obtain ⟨rfl, hsz, hP, hK, hD0, hN, hX, hn⟩ := hv
  have hts := atoms_spec (ws := Cond.code Y.1 Y.2.1 Y.2.2.1 Y.2.2.2 :: wG) B.pre
  have hown : s.vm.findClass Y.1.cls = some m.cls := findClass_of_methodNamed B.named
  subst hsz
  have hE : aw_env p s m (av.map (tv as)).toArray meth c Y := ⟨B.exec, B.bytes, B.returns, hml, hown, fun w hw => hts w (List.mem_cons_of_mem _ hw), B.notSynchronized, hN, (name_of_methodNamed B.named B.method).1⟩
  have hl0 := lv_entry (av.map (tv as)) (n := Y.2.2.1) (by rw [en_len]; exact hl)
  rw [lg_entry_eq]
  have hloc : aw_loc as ls Y.2.2.1 ((lg_sl (av.map (tv as)) ++ List.replicate (Y.2.2.1 - (lg_sl (av.map (tv as))).length) Slot.unset).toArray) := by
    refine ⟨?_, ?_⟩
    · rw [← hls]
      simp [padL]
      omega
    · rw [← hls]
      unfold padL
      rw [asc_en]
      exact hl0
  exact k p e s m (av.map (tv as)).toArray below meth c D cA as n (va_A (wsOf cA as n h) s.heap.size) as s.heap [] hE ⟨hK, hP, hD0.self, va_S.rf, fun q hq => Or.inr hq, hX⟩ ⟨Nat.le_refl _, hn, fun _ _ => rfl⟩ _ hloc
/-- a method's code is among the words -/
def MK (Y : aY) : Prop := Cond.code Y.1 Y.2.1 Y.2.2.1 Y.2.2.2 ∈ wG ∧ Cond.initialized Y.1.cls ∈ wG ∧ Y.1.cls ≠ "java/lang/invoke/MethodHandle" ∧ Y.1.cls ≠ "java/lang/invoke/VarHandle"
def LV (own : String) (idx : Nat) (Y : aY) (np : Nat) : Prop := MK Y ∧ (parseMethodDescriptor Y.1.desc).map (fun d => d.parameters.length) = some np ∧ Cond.instanceMethod Y.1 ∈ wG ∧ Cond.selects Y.1.cls Y.1 Y.1 ∈ wG ∧ (Cond.methodLink own idx Y.1 ∈ wG ∨ ∃ host, Cond.methodLinkNest own idx Y.1 host ∈ wN)
def LT (own : String) (idx : Nat) (Y : aY) (np : Nat) : Prop := MK Y ∧ (parseMethodDescriptor Y.1.desc).map (fun d => d.parameters.length) = some np ∧ Cond.static Y.1 ∈ wG ∧ (Cond.methodLink own idx Y.1 ∈ wG ∨ ∃ host, Cond.methodLinkNest own idx Y.1 host ∈ wN)
def LI (own : String) (idx : Nat) (Y : aY) (np : Nat) : Prop := MK Y ∧ (parseMethodDescriptor Y.1.desc).map (fun d => d.parameters.length) = some np ∧ Cond.instanceMethod Y.1 ∈ wG ∧ Y.1.name = "<init>" ∧ Y.2.2.2 = none ∧ (Cond.methodLink own idx Y.1 ∈ wG ∨ ∃ host, Cond.methodLinkNest own idx Y.1 host ∈ wN)
theorem wG_good {Y : aY} (h : MK Y) : GoodIn wG (Cond.code Y.1 Y.2.1 Y.2.2.1 Y.2.2.2 :: wG) := by
  intro w hw
  have hw' : w ∈ wG := (List.mem_cons.mp hw).elim (fun e => e ▸ h.1) id
  exact ⟨hw', good_of_word (List.mem_filter.mp hw').2⟩
/-- the room of a method that makes nothing, by how deep its calls go -/
def rmD (d : Nat) : Room := { frames := d, cells := 0, slots := 0, locals := 60 * d }
section AWC
variable {l : Launch} {Y : aY} {Q : aQ} {cu su pc : Nat} {ls : List (Option Value)} {st : List Value} {n : Nat} {h : aH}
variable {p : Program} {e : Env} {s : State} {m : MethodId} {args : Array Value} {below : List Frame} {meth : Method} {c : Code} {D : va_G} {cA : FieldType → ClassId} {A : Nat → Prop} {as : Nat → Nat} {H : Heap} {locs : List Loc}
theorem aw_AA (S : aw_st D cA as n h A s H locs) : ∀ q, va_A (wsOf cA as n h) H.size q → A q := by
  intro q hq
  rcases hq with ⟨k, e, hk⟩ | hq
  · exact S.2.2.1.2 k _ hk
  · exact S.2.2.2.2.1 q (Nat.le_trans S.2.2.2.1.1 hq)
theorem aw_pre {Y' : aY} {av : List Value} (E : aw_env p s m args meth c Y) (S : aw_st D cA as n h A s H locs) (hn : n ≤ kW) : ∀ U : State, U.heap = H → s.WarmedH U.vm → aw_Pc D cA as n h H.size av (av.map (tv as)).toArray U := by
  intro U hU hW
  refine ⟨rfl, by rw [hU], by rw [hU]; exact S.2.1, va_K.moved hW.alike S.1, S.2.2.1.weaken (fun _ _ _ _ => trivial), wN_warm hW E.2.2.2.2.2.2.2.1, ?_, hn⟩
  rw [hU]
  exact ((S.2.2.2.2.2.kept S.2.2.2.1.2.1).narrow (aw_AA S)).warm hW
/-- behind a call that makes nothing -/
theorem aw_cont {R : Room} {Qf : State → Prop} {Q' : aQ} {a : Array Value} {lsA : Array Slot} {st0 rest : List Value} (S : aw_st D cA as n h A s H locs)
    (hr : va_Run p l e R s m args below meth c H locs cu su 0 0 (F0 m pc lsA st0) rest (aw_Q D cA as n (va_A (wsOf cA as n h) H.size) Q' a) (va_A (wsOf cA as n h) H.size))
    (hn : ∀ r n' h', Q' r n' h' → n' = n)
    (kk : ∀ (r : Option Value) (h' : aH) (H1 : Heap) (locs1 : List Loc), Q' r n h' → aw_st D cA as n h' A s H1 locs1 → W p l e R s m args below meth c H1 locs1 cu su Qf (F0 m (pc + 3) lsA ((r.map (tv as)).toList ++ rest))) :
    W p l e R s m args below meth c H locs cu su Qf (F0 m pc lsA st0) := by
  intro T hT X
  obtain ⟨v, st₀, t, T', L, h0, X', hL, e1, e2, ⟨⟨r, n', h', as', hv, hq, hx, hP, hK, hD⟩, hz, hk⟩, stp⟩ := hr T hT X
  have hn' := hn _ _ _ hq
  subst hn'
  have has : as' = as := funext (fun k => hx.2.2 k (by omega))
  subst has
  have hv : v = r.map (tv as') := by cases hv; rfl
  subst hv
  rw [h0] at hz hk
  have hAA := aw_AA S
  have hS := S.2.2.2.1
  obtain ⟨t2, a1, b1⟩ := kk r h' T'.heap (locs ++ L) hq ⟨S.1, by rw [e1]; exact hP, hD.weaken (fun _ q _ hq => hAA _ hq), ⟨Nat.le_trans hS.1 (by rw [e1]; exact hz), fun q h1 h2 => by rw [e1, hk q (Nat.lt_of_lt_of_le h1 hS.1) (fun z => h2 (hAA q z))]; exact hS.2.1 q h1 h2, fun q hq => by
      rcases List.mem_append.mp hq with h | h
      · exact hS.2.2 q h
      · exact hAA _ (hL q h)⟩, S.2.2.2.2⟩ T' rfl X'
  exact ⟨t2, stp t2 a1, b1⟩
theorem cat_map (as : Nat → Nat) (st : List Value) : ((st.map (tv as)).map fun v => v.category).sum = (st.map fun v => v.category).sum := by
  rw [List.map_map]
  congr 1
  apply List.map_congr_left
  intro v _
  exact tv_cat as v
theorem AW.callV {d d' idx b np ci : Nat} {Y' : aY} {As st0 fs : List Value} {Q' : aQ} {r0 : vw_C} (hL : LV Y.1.cls idx Y' np) (hd : decode Y.2.1 pc = .ok (.invokevirtual idx, 3)) (hM : AOk l Y' (rmD d') Q' (.ref b :: As) n h) (hdd : d' < d) (hml : Y'.2.2.1 ≤ 41) (hnp : As.length = np) (hb : b < n) (he : h b = .inr (ci, fs)) (hc : classes[ci]? = some r0) (hcl : r0.1 = Y'.1.cls) (hsum : (st.map fun v => v.category).sum ≤ 8) (hst : st0 = As.reverse ++ .ref b :: st)
    (hn : ∀ r n' h', Q' r n' h' → n' = n) (hcs : cu = 0 ∧ su = 0) (k : ∀ r h', Q' r n h' → AW l Y (rmD d) Q cu su (pc + 3) ls (r.toList ++ st) n h') : AW l Y (rmD d) Q cu su pc ls st0 n h := by
  intro p e s m args below meth c D cA as0 n0 A as H locs E S X lsA hl
  obtain ⟨hMK, hpar, hin, hse, hlk⟩ := hL
  have hG := wG_good hMK
  have hw := E.2.2.2.2.2.1
  have hstack : (F0 m pc lsA (st0.map (tv as))).stack = (As.map (tv as)).reverse ++ .ref (as b) :: st.map (tv as) := by
    show st0.map (tv as) = _
    rw [hst]
    simp [tv_ref]
  have hrm : (rmD d').frames + 1 ≤ (rmD d).frames ∧ 8 + (Y'.2.2.1 + 11) + (rmD d').locals ≤ (rmD d).locals := by
    show d' + 1 ≤ d ∧ 8 + (Y'.2.2.1 + 11) + 60 * d' ≤ 60 * d
    omega
  have hrec := va_recv S.1 S.2.1 hc (ws_o hb he)
  rw [hcl] at hrec
  have hpv : PreV s H Y'.1.cls (as b) (aw_Pc D cA as n h H.size (.ref b :: As)) (As.map (tv as)) := ⟨aw_blind, hrec, aw_pre (Y' := Y') (av := .ref b :: As) E S X.2.1⟩
  have hf : cu + 0 ≤ (rmD d).cells ∧ su + 0 ≤ (rmD d).slots := by rw [hcs.1, hcs.2]; exact ⟨Nat.le_refl _, Nat.le_refl _⟩
  have hroom : 2 * (F0 m pc lsA (st0.map (tv as))).monitorRoom + ((st.map (tv as)).map fun v => v.category).sum ≤ 8 := lv_room (by rw [cat_map]; exact hsum)
  have hrun : va_Run p l e (rmD d) s m args below meth c H locs cu su 0 0 (F0 m pc lsA (st0.map (tv as))) (st.map (tv as)) (aw_Q D cA as n (va_A (wsOf cA as n h) H.size) Q' (Value.ref (as b) :: As.map (tv as)).toArray) (va_A (wsOf cA as n h) H.size) := by
    rcases hlk with hlk | ⟨host, hlk⟩
    · exact va_runV (Ts := wG) ⟨E.1, E.2.1, E.2.2.2.1, E.2.2.2.2.1, hw⟩ (hM D cA as H.size) ⟨callB_of np hw hG rfl rfl rfl (hw _ hMK.2.1) (hw _ hlk) ⟨hMK.2.2.1, hMK.2.2.2, hpar⟩ hrm, hw _ hin, hw _ hse⟩ hpv rfl (by rw [List.length_map]; exact hnp) hl.2.1 hstack hroom hd hf
    · exact va_runVN (Ts := wG) ⟨E.1, E.2.1, E.2.2.2.1, E.2.2.2.2.1, hw⟩ (hM D cA as H.size) ⟨va_cnB np hw hG rfl rfl rfl (E.2.2.2.2.2.2.2.1 _ hlk) (hw _ hMK.2.1) ⟨hMK.2.2.1, hMK.2.2.2, hpar⟩ hrm, hw _ hin, hw _ hse⟩ hpv rfl (by rw [List.length_map]; exact hnp) hl.2.1 hstack hroom hd hf
  refine aw_cont S hrun hn (fun r h' H1 locs1 hq S1 => ?_)
  have k2 := k r h' hq p e s m args below meth c D cA as0 n0 A as H1 locs1 E S1 X lsA hl
  have he2 : (r.toList ++ st).map (tv as) = (r.map (tv as)).toList ++ st.map (tv as) := by cases r <;> simp
  rw [he2] at k2
  exact k2
theorem AW.callS {d d' idx np : Nat} {Y' : aY} {As st0 : List Value} {Q' : aQ} (hL : LT Y.1.cls idx Y' np) (hd : decode Y.2.1 pc = .ok (.invokestatic idx, 3)) (hM : AOk l Y' (rmD d') Q' As n h) (hdd : d' < d) (hml : Y'.2.2.1 ≤ 41) (hnp : As.length = np) (hsum : (st.map fun v => v.category).sum ≤ 8) (hst : st0 = As.reverse ++ st)
    (hn : ∀ r n' h', Q' r n' h' → n' = n) (hcs : cu = 0 ∧ su = 0) (k : ∀ r h', Q' r n h' → AW l Y (rmD d) Q cu su (pc + 3) ls (r.toList ++ st) n h') : AW l Y (rmD d) Q cu su pc ls st0 n h := by
  intro p e s m args below meth c D cA as0 n0 A as H locs E S X lsA hl
  obtain ⟨hMK, hpar, hin, hlk⟩ := hL
  have hG := wG_good hMK
  have hw := E.2.2.2.2.2.1
  have hstack : (F0 m pc lsA (st0.map (tv as))).stack = (As.map (tv as)).reverse ++ st.map (tv as) := by
    show st0.map (tv as) = _
    rw [hst]
    simp
  have hrm : (rmD d').frames + 1 ≤ (rmD d).frames ∧ 8 + (Y'.2.2.1 + 11) + (rmD d').locals ≤ (rmD d).locals := by
    show d' + 1 ≤ d ∧ 8 + (Y'.2.2.1 + 11) + 60 * d' ≤ 60 * d
    omega
  have hps : PreS s H (aw_Pc D cA as n h H.size As) (As.map (tv as)) := ⟨aw_blind, aw_pre (Y' := Y') (av := As) E S X.2.1⟩
  have hf : cu + 0 ≤ (rmD d).cells ∧ su + 0 ≤ (rmD d).slots := by rw [hcs.1, hcs.2]; exact ⟨Nat.le_refl _, Nat.le_refl _⟩
  have hroom : 2 * (F0 m pc lsA (st0.map (tv as))).monitorRoom + ((st.map (tv as)).map fun v => v.category).sum ≤ 8 := lv_room (by rw [cat_map]; exact hsum)
  have hrun : va_Run p l e (rmD d) s m args below meth c H locs cu su 0 0 (F0 m pc lsA (st0.map (tv as))) (st.map (tv as)) (aw_Q D cA as n (va_A (wsOf cA as n h) H.size) Q' (As.map (tv as)).toArray) (va_A (wsOf cA as n h) H.size) := by
    rcases hlk with hlk | ⟨host, hlk⟩
    · exact va_runS (Ts := wG) ⟨E.1, E.2.1, E.2.2.2.1, E.2.2.2.2.1, hw⟩ (hM D cA as H.size) ⟨callB_of np hw hG rfl rfl rfl (hw _ hMK.2.1) (hw _ hlk) ⟨hMK.2.2.1, hMK.2.2.2, hpar⟩ hrm, hw _ hin⟩ hps rfl (by rw [List.length_map]; exact hnp) hl.2.1 hstack hroom hd hf
    · exact va_runSN (Ts := wG) ⟨E.1, E.2.1, E.2.2.2.1, E.2.2.2.2.1, hw⟩ (hM D cA as H.size) ⟨va_cnB np hw hG rfl rfl rfl (E.2.2.2.2.2.2.2.1 _ hlk) (hw _ hMK.2.1) ⟨hMK.2.2.1, hMK.2.2.2, hpar⟩ hrm, hw _ hin, trivial⟩ hps rfl (by rw [List.length_map]; exact hnp) hl.2.1 hstack hroom hd hf
  refine aw_cont S hrun hn (fun r h' H1 locs1 hq S1 => ?_)
  have k2 := k r h' hq p e s m args below meth c D cA as0 n0 A as H1 locs1 E S1 X lsA hl
  have he2 : (r.toList ++ st).map (tv as) = (r.map (tv as)).toList ++ st.map (tv as) := by cases r <;> simp
  rw [he2] at k2
  exact k2
end AWC
end
section
/-! ===== the entries of the class files: fields and methods, by their places in the tables ===== -/
theorem tb_in {w : Cond} (i : Nat) (h : tables_1[i]? = some w) (hg : goodWord w = true) : w ∈ wG := List.mem_filter.mpr ⟨List.mem_append_right _ (List.mem_of_getElem? h), hg⟩
theorem nb_in {w : Cond} (i : Nat) (h : tables_1[i]? = some w) (hg : nestW w = true) : w ∈ wN := List.mem_filter.mpr ⟨List.mem_of_getElem? h, hg⟩
theorem sb_in {w : Cond} (i : Nat) (h : (k2_sels lw_privs)[i]? = some w) (hg : goodWord w = true) : w ∈ wG := List.mem_filter.mpr ⟨List.mem_append_left _ (List.mem_of_getElem? h), hg⟩
theorem ws_in {ws : List Cond} (h : ∀ w ∈ ws, w ∈ tables_1) (hg : ∀ w ∈ ws, goodWord w = true) : ∀ w ∈ ws, w ∈ wG := fun w hw => List.mem_filter.mpr ⟨List.mem_append_right _ (h w hw), hg w hw⟩
theorem ck_0 : ∀ w ∈ u_ws RX0 TX0 2, w ∈ wG := ws_in (by decide +kernel) (by decide +kernel)
theorem ck_1 : ∀ w ∈ u_ws RX1 TX1 3, w ∈ wG := ws_in (by decide +kernel) (by decide +kernel)
theorem ck_2 : ∀ w ∈ u_ws RX2 TX2 15, w ∈ wG := ws_in (by decide +kernel) (by decide +kernel)
theorem ck_3 : ∀ w ∈ u_ws RX4 TX4 2, w ∈ wG := ws_in (by decide +kernel) (by decide +kernel)
theorem ck_4 : ∀ w ∈ u_ws RX5 TX5 5, w ∈ wG := ws_in (by decide +kernel) (by decide +kernel)
theorem ck_5 : ∀ w ∈ u_ws RX6 TX6 4, w ∈ wG := ws_in (by decide +kernel) (by decide +kernel)
theorem ck_6 : ∀ w ∈ u_ws RX7 TX7 8, w ∈ wG := ws_in (by decide +kernel) (by decide +kernel)
theorem ck_7 : ∀ w ∈ u_ws RX9 TX9 2, w ∈ wG := ws_in (by decide +kernel) (by decide +kernel)
theorem ck_8 : ∀ w ∈ u_ws RX10 TX10 10, w ∈ wG := ws_in (by decide +kernel) (by decide +kernel)
theorem ck_9 : ∀ w ∈ u_ws RX11 TX11 12, w ∈ wG := ws_in (by decide +kernel) (by decide +kernel)
theorem ck_10 : ∀ w ∈ u_ws RX12 TX12 34, w ∈ wG := ws_in (by decide +kernel) (by decide +kernel)
theorem fl_RX11_10 : FL RX11 10 9 0 := ⟨RX11, TX11, 12, rfl, ck_9, by decide, Or.inl (tb_in 306 (by decide +kernel) (by decide +kernel))⟩
theorem fl_RX11_18 : FL RX11 18 9 1 := ⟨RX11, TX11, 12, rfl, ck_9, by decide, Or.inl (tb_in 307 (by decide +kernel) (by decide +kernel))⟩
theorem fl_RX11_23 : FL RX11 23 9 2 := ⟨RX11, TX11, 12, rfl, ck_9, by decide, Or.inl (tb_in 308 (by decide +kernel) (by decide +kernel))⟩
theorem fl_RX11_29 : FL RX11 29 9 3 := ⟨RX11, TX11, 12, rfl, ck_9, by decide, Or.inl (tb_in 309 (by decide +kernel) (by decide +kernel))⟩
theorem fl_RX11_34 : FL RX11 34 9 4 := ⟨RX11, TX11, 12, rfl, ck_9, by decide, Or.inl (tb_in 310 (by decide +kernel) (by decide +kernel))⟩
theorem fl_RX11_41 : FL RX11 41 9 5 := ⟨RX11, TX11, 12, rfl, ck_9, by decide, Or.inl (tb_in 311 (by decide +kernel) (by decide +kernel))⟩
theorem fl_RX11_48 : FL RX11 48 9 6 := ⟨RX11, TX11, 12, rfl, ck_9, by decide, Or.inl (tb_in 312 (by decide +kernel) (by decide +kernel))⟩
theorem fl_RX11_55 : FL RX11 55 9 7 := ⟨RX11, TX11, 12, rfl, ck_9, by decide, Or.inl (tb_in 313 (by decide +kernel) (by decide +kernel))⟩
theorem fl_RX11_62 : FL RX11 62 9 8 := ⟨RX11, TX11, 12, rfl, ck_9, by decide, Or.inl (tb_in 314 (by decide +kernel) (by decide +kernel))⟩
theorem fl_RX11_66 : FL RX11 66 9 9 := ⟨RX11, TX11, 12, rfl, ck_9, by decide, Or.inl (tb_in 315 (by decide +kernel) (by decide +kernel))⟩
theorem fl_RX11_70 : FL RX11 70 9 10 := ⟨RX11, TX11, 12, rfl, ck_9, by decide, Or.inl (tb_in 316 (by decide +kernel) (by decide +kernel))⟩
theorem fl_RX11_73 : FL RX11 73 8 4 := ⟨RX10, TX10, 10, rfl, ck_8, by decide, Or.inr ⟨"OneMirror", nb_in 39 (by decide +kernel) rfl⟩⟩
theorem fl_RX11_87 : FL RX11 87 8 7 := ⟨RX10, TX10, 10, rfl, ck_8, by decide, Or.inr ⟨"OneMirror", nb_in 45 (by decide +kernel) rfl⟩⟩
theorem fl_RX11_90 : FL RX11 90 2 13 := ⟨RX2, TX2, 15, rfl, ck_2, by decide, Or.inr ⟨"OneMirror", nb_in 187 (by decide +kernel) rfl⟩⟩
theorem fl_RX11_93 : FL RX11 93 2 14 := ⟨RX2, TX2, 15, rfl, ck_2, by decide, Or.inr ⟨"OneMirror", nb_in 189 (by decide +kernel) rfl⟩⟩
theorem fl_RX11_99 : FL RX11 99 2 9 := ⟨RX2, TX2, 15, rfl, ck_2, by decide, Or.inr ⟨"OneMirror", nb_in 173 (by decide +kernel) rfl⟩⟩
theorem fl_RX11_102 : FL RX11 102 9 11 := ⟨RX11, TX11, 12, rfl, ck_9, by decide, Or.inl (tb_in 317 (by decide +kernel) (by decide +kernel))⟩
theorem fl_RX11_117 : FL RX11 117 2 0 := ⟨RX2, TX2, 15, rfl, ck_2, by decide, Or.inr ⟨"OneMirror", nb_in 142 (by decide +kernel) rfl⟩⟩
theorem fl_RX11_120 : FL RX11 120 2 1 := ⟨RX2, TX2, 15, rfl, ck_2, by decide, Or.inr ⟨"OneMirror", nb_in 146 (by decide +kernel) rfl⟩⟩
theorem fl_RX11_123 : FL RX11 123 2 2 := ⟨RX2, TX2, 15, rfl, ck_2, by decide, Or.inr ⟨"OneMirror", nb_in 149 (by decide +kernel) rfl⟩⟩
theorem fl_RX11_140 : FL RX11 140 2 11 := ⟨RX2, TX2, 15, rfl, ck_2, by decide, Or.inr ⟨"OneMirror", nb_in 181 (by decide +kernel) rfl⟩⟩
theorem fl_RX11_144 : FL RX11 144 2 10 := ⟨RX2, TX2, 15, rfl, ck_2, by decide, Or.inr ⟨"OneMirror", nb_in 177 (by decide +kernel) rfl⟩⟩
theorem fl_RX11_147 : FL RX11 147 2 3 := ⟨RX2, TX2, 15, rfl, ck_2, by decide, Or.inr ⟨"OneMirror", nb_in 152 (by decide +kernel) rfl⟩⟩
theorem fl_RX11_158 : FL RX11 158 3 1 := ⟨RX4, TX4, 2, rfl, ck_3, by decide, Or.inr ⟨"OneMirror", nb_in 263 (by decide +kernel) rfl⟩⟩
theorem fl_RX11_169 : FL RX11 169 2 5 := ⟨RX2, TX2, 15, rfl, ck_2, by decide, Or.inr ⟨"OneMirror", nb_in 159 (by decide +kernel) rfl⟩⟩
theorem fl_RX11_205 : FL RX11 205 2 12 := ⟨RX2, TX2, 15, rfl, ck_2, by decide, Or.inr ⟨"OneMirror", nb_in 185 (by decide +kernel) rfl⟩⟩
theorem fl_RX11_208 : FL RX11 208 5 3 := ⟨RX6, TX6, 4, rfl, ck_5, by decide, Or.inr ⟨"OneMirror", nb_in 129 (by decide +kernel) rfl⟩⟩
theorem fl_RX11_223 : FL RX11 223 1 2 := ⟨RX1, TX1, 3, rfl, ck_1, by decide, Or.inr ⟨"OneMirror", nb_in 230 (by decide +kernel) rfl⟩⟩
theorem fl_RX11_265 : FL RX11 265 2 6 := ⟨RX2, TX2, 15, rfl, ck_2, by decide, Or.inr ⟨"OneMirror", nb_in 162 (by decide +kernel) rfl⟩⟩
theorem fl_RX11_281 : FL RX11 281 4 4 := ⟨RX5, TX5, 5, rfl, ck_4, by decide, Or.inr ⟨"OneMirror", nb_in 281 (by decide +kernel) rfl⟩⟩
theorem fl_RX11_284 : FL RX11 284 4 2 := ⟨RX5, TX5, 5, rfl, ck_4, by decide, Or.inr ⟨"OneMirror", nb_in 278 (by decide +kernel) rfl⟩⟩
theorem fl_RX11_287 : FL RX11 287 2 7 := ⟨RX2, TX2, 15, rfl, ck_2, by decide, Or.inr ⟨"OneMirror", nb_in 165 (by decide +kernel) rfl⟩⟩
theorem fl_RX11_318 : FL RX11 318 2 8 := ⟨RX2, TX2, 15, rfl, ck_2, by decide, Or.inr ⟨"OneMirror", nb_in 169 (by decide +kernel) rfl⟩⟩
theorem fl_RX0_9 : FL RX0 9 0 0 := ⟨RX0, TX0, 2, rfl, ck_0, by decide, Or.inl (tb_in 299 (by decide +kernel) (by decide +kernel))⟩
theorem fl_RX0_13 : FL RX0 13 0 1 := ⟨RX0, TX0, 2, rfl, ck_0, by decide, Or.inl (tb_in 300 (by decide +kernel) (by decide +kernel))⟩
theorem fl_RX0_32 : FL RX0 32 2 7 := ⟨RX2, TX2, 15, rfl, ck_2, by decide, Or.inr ⟨"OneMirror", nb_in 164 (by decide +kernel) rfl⟩⟩
theorem fl_RX0_36 : FL RX0 36 5 3 := ⟨RX6, TX6, 4, rfl, ck_5, by decide, Or.inr ⟨"OneMirror", nb_in 125 (by decide +kernel) rfl⟩⟩
theorem fl_RX1_9 : FL RX1 9 1 0 := ⟨RX1, TX1, 3, rfl, ck_1, by decide, Or.inl (tb_in 227 (by decide +kernel) (by decide +kernel))⟩
theorem fl_RX1_13 : FL RX1 13 1 2 := ⟨RX1, TX1, 3, rfl, ck_1, by decide, Or.inl (tb_in 229 (by decide +kernel) (by decide +kernel))⟩
theorem fl_RX1_17 : FL RX1 17 1 1 := ⟨RX1, TX1, 3, rfl, ck_1, by decide, Or.inl (tb_in 228 (by decide +kernel) (by decide +kernel))⟩
theorem fl_RX1_33 : FL RX1 33 2 12 := ⟨RX2, TX2, 15, rfl, ck_2, by decide, Or.inr ⟨"OneMirror", nb_in 184 (by decide +kernel) rfl⟩⟩
theorem fl_RX1_38 : FL RX1 38 2 10 := ⟨RX2, TX2, 15, rfl, ck_2, by decide, Or.inr ⟨"OneMirror", nb_in 176 (by decide +kernel) rfl⟩⟩
theorem fl_RX1_41 : FL RX1 41 2 11 := ⟨RX2, TX2, 15, rfl, ck_2, by decide, Or.inr ⟨"OneMirror", nb_in 180 (by decide +kernel) rfl⟩⟩
theorem fl_RX1_45 : FL RX1 45 2 5 := ⟨RX2, TX2, 15, rfl, ck_2, by decide, Or.inr ⟨"OneMirror", nb_in 158 (by decide +kernel) rfl⟩⟩
theorem fl_RX1_49 : FL RX1 49 5 3 := ⟨RX6, TX6, 4, rfl, ck_5, by decide, Or.inr ⟨"OneMirror", nb_in 128 (by decide +kernel) rfl⟩⟩
theorem fl_RX1_52 : FL RX1 52 2 1 := ⟨RX2, TX2, 15, rfl, ck_2, by decide, Or.inr ⟨"OneMirror", nb_in 145 (by decide +kernel) rfl⟩⟩
theorem fl_RX1_61 : FL RX1 61 2 2 := ⟨RX2, TX2, 15, rfl, ck_2, by decide, Or.inr ⟨"OneMirror", nb_in 148 (by decide +kernel) rfl⟩⟩
theorem fl_RX2_11 : FL RX2 11 2 0 := ⟨RX2, TX2, 15, rfl, ck_2, by decide, Or.inl (tb_in 140 (by decide +kernel) (by decide +kernel))⟩
theorem fl_RX2_15 : FL RX2 15 2 1 := ⟨RX2, TX2, 15, rfl, ck_2, by decide, Or.inl (tb_in 143 (by decide +kernel) (by decide +kernel))⟩
theorem fl_RX2_18 : FL RX2 18 2 2 := ⟨RX2, TX2, 15, rfl, ck_2, by decide, Or.inl (tb_in 147 (by decide +kernel) (by decide +kernel))⟩
theorem fl_RX2_21 : FL RX2 21 2 3 := ⟨RX2, TX2, 15, rfl, ck_2, by decide, Or.inl (tb_in 150 (by decide +kernel) (by decide +kernel))⟩
theorem fl_RX2_24 : FL RX2 24 2 4 := ⟨RX2, TX2, 15, rfl, ck_2, by decide, Or.inl (tb_in 153 (by decide +kernel) (by decide +kernel))⟩
theorem fl_RX2_32 : FL RX2 32 2 5 := ⟨RX2, TX2, 15, rfl, ck_2, by decide, Or.inl (tb_in 155 (by decide +kernel) (by decide +kernel))⟩
theorem fl_RX2_36 : FL RX2 36 2 6 := ⟨RX2, TX2, 15, rfl, ck_2, by decide, Or.inl (tb_in 160 (by decide +kernel) (by decide +kernel))⟩
theorem fl_RX2_39 : FL RX2 39 2 7 := ⟨RX2, TX2, 15, rfl, ck_2, by decide, Or.inl (tb_in 163 (by decide +kernel) (by decide +kernel))⟩
theorem fl_RX2_42 : FL RX2 42 2 13 := ⟨RX2, TX2, 15, rfl, ck_2, by decide, Or.inl (tb_in 186 (by decide +kernel) (by decide +kernel))⟩
theorem fl_RX2_50 : FL RX2 50 2 8 := ⟨RX2, TX2, 15, rfl, ck_2, by decide, Or.inl (tb_in 166 (by decide +kernel) (by decide +kernel))⟩
theorem fl_RX2_53 : FL RX2 53 2 9 := ⟨RX2, TX2, 15, rfl, ck_2, by decide, Or.inl (tb_in 172 (by decide +kernel) (by decide +kernel))⟩
theorem fl_RX2_56 : FL RX2 56 2 10 := ⟨RX2, TX2, 15, rfl, ck_2, by decide, Or.inl (tb_in 174 (by decide +kernel) (by decide +kernel))⟩
theorem fl_RX2_59 : FL RX2 59 2 11 := ⟨RX2, TX2, 15, rfl, ck_2, by decide, Or.inl (tb_in 179 (by decide +kernel) (by decide +kernel))⟩
theorem fl_RX2_63 : FL RX2 63 2 12 := ⟨RX2, TX2, 15, rfl, ck_2, by decide, Or.inl (tb_in 183 (by decide +kernel) (by decide +kernel))⟩
theorem fl_RX2_76 : FL RX2 76 2 14 := ⟨RX2, TX2, 15, rfl, ck_2, by decide, Or.inl (tb_in 188 (by decide +kernel) (by decide +kernel))⟩
theorem fl_RX2_119 : FL RX2 119 5 3 := ⟨RX6, TX6, 4, rfl, ck_5, by decide, Or.inr ⟨"OneMirror", nb_in 130 (by decide +kernel) rfl⟩⟩
theorem fl_RX3_23 : FL RX3 23 8 8 := ⟨RX10, TX10, 10, rfl, ck_8, by decide, Or.inr ⟨"OneMirror", nb_in 46 (by decide +kernel) rfl⟩⟩
theorem fl_RX3_30 : FL RX3 30 2 9 := ⟨RX2, TX2, 15, rfl, ck_2, by decide, Or.inr ⟨"OneMirror", nb_in 171 (by decide +kernel) rfl⟩⟩
theorem fl_RX3_41 : FL RX3 41 2 8 := ⟨RX2, TX2, 15, rfl, ck_2, by decide, Or.inr ⟨"OneMirror", nb_in 167 (by decide +kernel) rfl⟩⟩
theorem fl_RX3_54 : FL RX3 54 2 10 := ⟨RX2, TX2, 15, rfl, ck_2, by decide, Or.inr ⟨"OneMirror", nb_in 175 (by decide +kernel) rfl⟩⟩
theorem fl_RX3_61 : FL RX3 61 8 7 := ⟨RX10, TX10, 10, rfl, ck_8, by decide, Or.inr ⟨"OneMirror", nb_in 44 (by decide +kernel) rfl⟩⟩
theorem fl_RX3_64 : FL RX3 64 2 0 := ⟨RX2, TX2, 15, rfl, ck_2, by decide, Or.inr ⟨"OneMirror", nb_in 141 (by decide +kernel) rfl⟩⟩
theorem fl_RX3_68 : FL RX3 68 2 1 := ⟨RX2, TX2, 15, rfl, ck_2, by decide, Or.inr ⟨"OneMirror", nb_in 144 (by decide +kernel) rfl⟩⟩
theorem fl_RX3_79 : FL RX3 79 2 4 := ⟨RX2, TX2, 15, rfl, ck_2, by decide, Or.inr ⟨"OneMirror", nb_in 154 (by decide +kernel) rfl⟩⟩
theorem fl_RX3_82 : FL RX3 82 2 3 := ⟨RX2, TX2, 15, rfl, ck_2, by decide, Or.inr ⟨"OneMirror", nb_in 151 (by decide +kernel) rfl⟩⟩
theorem fl_RX3_85 : FL RX3 85 8 9 := ⟨RX10, TX10, 10, rfl, ck_8, by decide, Or.inr ⟨"OneMirror", nb_in 50 (by decide +kernel) rfl⟩⟩
theorem fl_RX4_10 : FL RX4 10 3 0 := ⟨RX4, TX4, 2, rfl, ck_3, by decide, Or.inl (tb_in 261 (by decide +kernel) (by decide +kernel))⟩
theorem fl_RX4_18 : FL RX4 18 3 1 := ⟨RX4, TX4, 2, rfl, ck_3, by decide, Or.inl (tb_in 262 (by decide +kernel) (by decide +kernel))⟩
theorem fl_RX4_49 : FL RX4 49 2 5 := ⟨RX2, TX2, 15, rfl, ck_2, by decide, Or.inr ⟨"OneMirror", nb_in 157 (by decide +kernel) rfl⟩⟩
theorem fl_RX4_53 : FL RX4 53 5 3 := ⟨RX6, TX6, 4, rfl, ck_5, by decide, Or.inr ⟨"OneMirror", nb_in 127 (by decide +kernel) rfl⟩⟩
theorem fl_RX4_75 : FL RX4 75 2 8 := ⟨RX2, TX2, 15, rfl, ck_2, by decide, Or.inr ⟨"OneMirror", nb_in 168 (by decide +kernel) rfl⟩⟩
theorem fl_RX5_11 : FL RX5 11 4 0 := ⟨RX5, TX5, 5, rfl, ck_4, by decide, Or.inl (tb_in 275 (by decide +kernel) (by decide +kernel))⟩
theorem fl_RX5_15 : FL RX5 15 4 1 := ⟨RX5, TX5, 5, rfl, ck_4, by decide, Or.inl (tb_in 276 (by decide +kernel) (by decide +kernel))⟩
theorem fl_RX5_19 : FL RX5 19 4 2 := ⟨RX5, TX5, 5, rfl, ck_4, by decide, Or.inl (tb_in 277 (by decide +kernel) (by decide +kernel))⟩
theorem fl_RX5_35 : FL RX5 35 2 9 := ⟨RX2, TX2, 15, rfl, ck_2, by decide, Or.inr ⟨"OneMirror", nb_in 170 (by decide +kernel) rfl⟩⟩
theorem fl_RX5_58 : FL RX5 58 4 3 := ⟨RX5, TX5, 5, rfl, ck_4, by decide, Or.inl (tb_in 279 (by decide +kernel) (by decide +kernel))⟩
theorem fl_RX5_61 : FL RX5 61 2 6 := ⟨RX2, TX2, 15, rfl, ck_2, by decide, Or.inr ⟨"OneMirror", nb_in 161 (by decide +kernel) rfl⟩⟩
theorem fl_RX5_65 : FL RX5 65 5 3 := ⟨RX6, TX6, 4, rfl, ck_5, by decide, Or.inr ⟨"OneMirror", nb_in 126 (by decide +kernel) rfl⟩⟩
theorem fl_RX5_92 : FL RX5 92 2 10 := ⟨RX2, TX2, 15, rfl, ck_2, by decide, Or.inr ⟨"OneMirror", nb_in 178 (by decide +kernel) rfl⟩⟩
theorem fl_RX5_98 : FL RX5 98 4 4 := ⟨RX5, TX5, 5, rfl, ck_4, by decide, Or.inl (tb_in 280 (by decide +kernel) (by decide +kernel))⟩
theorem fl_RX6_9 : FL RX6 9 5 2 := ⟨RX6, TX6, 4, rfl, ck_5, by decide, Or.inl (tb_in 123 (by decide +kernel) (by decide +kernel))⟩
theorem fl_RX6_15 : FL RX6 15 5 1 := ⟨RX6, TX6, 4, rfl, ck_5, by decide, Or.inl (tb_in 122 (by decide +kernel) (by decide +kernel))⟩
theorem fl_RX6_18 : FL RX6 18 5 0 := ⟨RX6, TX6, 4, rfl, ck_5, by decide, Or.inl (tb_in 121 (by decide +kernel) (by decide +kernel))⟩
theorem fl_RX6_22 : FL RX6 22 5 3 := ⟨RX6, TX6, 4, rfl, ck_5, by decide, Or.inl (tb_in 124 (by decide +kernel) (by decide +kernel))⟩
theorem fl_RX7_9 : FL RX7 9 6 0 := ⟨RX7, TX7, 8, rfl, ck_6, by decide, Or.inl (tb_in 81 (by decide +kernel) (by decide +kernel))⟩
theorem fl_RX7_15 : FL RX7 15 6 1 := ⟨RX7, TX7, 8, rfl, ck_6, by decide, Or.inl (tb_in 82 (by decide +kernel) (by decide +kernel))⟩
theorem fl_RX7_18 : FL RX7 18 6 2 := ⟨RX7, TX7, 8, rfl, ck_6, by decide, Or.inl (tb_in 83 (by decide +kernel) (by decide +kernel))⟩
theorem fl_RX7_21 : FL RX7 21 6 3 := ⟨RX7, TX7, 8, rfl, ck_6, by decide, Or.inl (tb_in 84 (by decide +kernel) (by decide +kernel))⟩
theorem fl_RX7_24 : FL RX7 24 6 4 := ⟨RX7, TX7, 8, rfl, ck_6, by decide, Or.inl (tb_in 85 (by decide +kernel) (by decide +kernel))⟩
theorem fl_RX7_27 : FL RX7 27 6 5 := ⟨RX7, TX7, 8, rfl, ck_6, by decide, Or.inl (tb_in 86 (by decide +kernel) (by decide +kernel))⟩
theorem fl_RX7_31 : FL RX7 31 6 6 := ⟨RX7, TX7, 8, rfl, ck_6, by decide, Or.inl (tb_in 88 (by decide +kernel) (by decide +kernel))⟩
theorem fl_RX7_34 : FL RX7 34 6 7 := ⟨RX7, TX7, 8, rfl, ck_6, by decide, Or.inl (tb_in 89 (by decide +kernel) (by decide +kernel))⟩
theorem fl_RX7_50 : FL RX7 50 7 1 := ⟨RX9, TX9, 2, rfl, ck_7, by decide, Or.inr ⟨"OneMirror", nb_in 254 (by decide +kernel) rfl⟩⟩
theorem fl_RX7_59 : FL RX7 59 7 0 := ⟨RX9, TX9, 2, rfl, ck_7, by decide, Or.inr ⟨"OneMirror", nb_in 252 (by decide +kernel) rfl⟩⟩
theorem fl_RX8_23 : FL RX8 23 8 8 := ⟨RX10, TX10, 10, rfl, ck_8, by decide, Or.inr ⟨"OneMirror", nb_in 47 (by decide +kernel) rfl⟩⟩
theorem fl_RX8_34 : FL RX8 34 6 5 := ⟨RX7, TX7, 8, rfl, ck_6, by decide, Or.inr ⟨"OneMirror", nb_in 87 (by decide +kernel) rfl⟩⟩
theorem fl_RX8_61 : FL RX8 61 6 7 := ⟨RX7, TX7, 8, rfl, ck_6, by decide, Or.inr ⟨"OneMirror", nb_in 90 (by decide +kernel) rfl⟩⟩
theorem fl_RX8_67 : FL RX8 67 8 9 := ⟨RX10, TX10, 10, rfl, ck_8, by decide, Or.inr ⟨"OneMirror", nb_in 51 (by decide +kernel) rfl⟩⟩
theorem fl_RX9_9 : FL RX9 9 7 0 := ⟨RX9, TX9, 2, rfl, ck_7, by decide, Or.inl (tb_in 251 (by decide +kernel) (by decide +kernel))⟩
theorem fl_RX9_15 : FL RX9 15 7 1 := ⟨RX9, TX9, 2, rfl, ck_7, by decide, Or.inl (tb_in 253 (by decide +kernel) (by decide +kernel))⟩
theorem fl_RX9_18 : FL RX9 18 2 12 := ⟨RX2, TX2, 15, rfl, ck_2, by decide, Or.inr ⟨"OneMirror", nb_in 182 (by decide +kernel) rfl⟩⟩
theorem fl_RX9_28 : FL RX9 28 2 5 := ⟨RX2, TX2, 15, rfl, ck_2, by decide, Or.inr ⟨"OneMirror", nb_in 156 (by decide +kernel) rfl⟩⟩
theorem fl_RX10_9 : FL RX10 9 8 0 := ⟨RX10, TX10, 10, rfl, ck_8, by decide, Or.inl (tb_in 35 (by decide +kernel) (by decide +kernel))⟩
theorem fl_RX10_13 : FL RX10 13 8 1 := ⟨RX10, TX10, 10, rfl, ck_8, by decide, Or.inl (tb_in 36 (by decide +kernel) (by decide +kernel))⟩
theorem fl_RX10_16 : FL RX10 16 8 2 := ⟨RX10, TX10, 10, rfl, ck_8, by decide, Or.inl (tb_in 37 (by decide +kernel) (by decide +kernel))⟩
theorem fl_RX10_19 : FL RX10 19 8 3 := ⟨RX10, TX10, 10, rfl, ck_8, by decide, Or.inl (tb_in 38 (by decide +kernel) (by decide +kernel))⟩
theorem fl_RX10_22 : FL RX10 22 8 4 := ⟨RX10, TX10, 10, rfl, ck_8, by decide, Or.inl (tb_in 40 (by decide +kernel) (by decide +kernel))⟩
theorem fl_RX10_26 : FL RX10 26 8 5 := ⟨RX10, TX10, 10, rfl, ck_8, by decide, Or.inl (tb_in 41 (by decide +kernel) (by decide +kernel))⟩
theorem fl_RX10_29 : FL RX10 29 8 6 := ⟨RX10, TX10, 10, rfl, ck_8, by decide, Or.inl (tb_in 42 (by decide +kernel) (by decide +kernel))⟩
theorem fl_RX10_32 : FL RX10 32 8 7 := ⟨RX10, TX10, 10, rfl, ck_8, by decide, Or.inl (tb_in 43 (by decide +kernel) (by decide +kernel))⟩
theorem fl_RX10_43 : FL RX10 43 8 8 := ⟨RX10, TX10, 10, rfl, ck_8, by decide, Or.inl (tb_in 48 (by decide +kernel) (by decide +kernel))⟩
theorem fl_RX10_46 : FL RX10 46 8 9 := ⟨RX10, TX10, 10, rfl, ck_8, by decide, Or.inl (tb_in 49 (by decide +kernel) (by decide +kernel))⟩
theorem fl_RX12_7 : FL RX12 7 10 0 := ⟨RX12, TX12, 34, rfl, ck_10, by decide, Or.inl (tb_in 1053 (by decide +kernel) (by decide +kernel))⟩
theorem fl_RX12_13 : FL RX12 13 10 3 := ⟨RX12, TX12, 34, rfl, ck_10, by decide, Or.inl (tb_in 1056 (by decide +kernel) (by decide +kernel))⟩
theorem fl_RX12_17 : FL RX12 17 10 4 := ⟨RX12, TX12, 34, rfl, ck_10, by decide, Or.inl (tb_in 1057 (by decide +kernel) (by decide +kernel))⟩
theorem fl_RX12_20 : FL RX12 20 10 5 := ⟨RX12, TX12, 34, rfl, ck_10, by decide, Or.inl (tb_in 1058 (by decide +kernel) (by decide +kernel))⟩
theorem fl_RX12_23 : FL RX12 23 10 6 := ⟨RX12, TX12, 34, rfl, ck_10, by decide, Or.inl (tb_in 1059 (by decide +kernel) (by decide +kernel))⟩
theorem fl_RX12_26 : FL RX12 26 10 7 := ⟨RX12, TX12, 34, rfl, ck_10, by decide, Or.inl (tb_in 1060 (by decide +kernel) (by decide +kernel))⟩
theorem fl_RX12_29 : FL RX12 29 10 15 := ⟨RX12, TX12, 34, rfl, ck_10, by decide, Or.inl (tb_in 1068 (by decide +kernel) (by decide +kernel))⟩
theorem fl_RX12_32 : FL RX12 32 10 18 := ⟨RX12, TX12, 34, rfl, ck_10, by decide, Or.inl (tb_in 1071 (by decide +kernel) (by decide +kernel))⟩
theorem fl_RX12_36 : FL RX12 36 10 20 := ⟨RX12, TX12, 34, rfl, ck_10, by decide, Or.inl (tb_in 1073 (by decide +kernel) (by decide +kernel))⟩
theorem fl_RX12_39 : FL RX12 39 10 21 := ⟨RX12, TX12, 34, rfl, ck_10, by decide, Or.inl (tb_in 1074 (by decide +kernel) (by decide +kernel))⟩
theorem fl_RX12_42 : FL RX12 42 10 22 := ⟨RX12, TX12, 34, rfl, ck_10, by decide, Or.inl (tb_in 1075 (by decide +kernel) (by decide +kernel))⟩
theorem fl_RX12_46 : FL RX12 46 10 24 := ⟨RX12, TX12, 34, rfl, ck_10, by decide, Or.inl (tb_in 1077 (by decide +kernel) (by decide +kernel))⟩
theorem fl_RX12_50 : FL RX12 50 10 26 := ⟨RX12, TX12, 34, rfl, ck_10, by decide, Or.inl (tb_in 1079 (by decide +kernel) (by decide +kernel))⟩
theorem fl_RX12_53 : FL RX12 53 10 27 := ⟨RX12, TX12, 34, rfl, ck_10, by decide, Or.inl (tb_in 1080 (by decide +kernel) (by decide +kernel))⟩
theorem fl_RX12_56 : FL RX12 56 10 28 := ⟨RX12, TX12, 34, rfl, ck_10, by decide, Or.inl (tb_in 1081 (by decide +kernel) (by decide +kernel))⟩
theorem fl_RX12_59 : FL RX12 59 10 30 := ⟨RX12, TX12, 34, rfl, ck_10, by decide, Or.inl (tb_in 1083 (by decide +kernel) (by decide +kernel))⟩
theorem fl_RX12_62 : FL RX12 62 10 31 := ⟨RX12, TX12, 34, rfl, ck_10, by decide, Or.inl (tb_in 1084 (by decide +kernel) (by decide +kernel))⟩
theorem fl_RX12_65 : FL RX12 65 10 32 := ⟨RX12, TX12, 34, rfl, ck_10, by decide, Or.inl (tb_in 1085 (by decide +kernel) (by decide +kernel))⟩
theorem fl_RX12_68 : FL RX12 68 10 33 := ⟨RX12, TX12, 34, rfl, ck_10, by decide, Or.inl (tb_in 1086 (by decide +kernel) (by decide +kernel))⟩
theorem fl_RX12_72 : FL RX12 72 10 1 := ⟨RX12, TX12, 34, rfl, ck_10, by decide, Or.inl (tb_in 1054 (by decide +kernel) (by decide +kernel))⟩
theorem fl_RX12_79 : FL RX12 79 10 9 := ⟨RX12, TX12, 34, rfl, ck_10, by decide, Or.inl (tb_in 1062 (by decide +kernel) (by decide +kernel))⟩
theorem fl_RX12_82 : FL RX12 82 10 8 := ⟨RX12, TX12, 34, rfl, ck_10, by decide, Or.inl (tb_in 1061 (by decide +kernel) (by decide +kernel))⟩
theorem fl_RX12_107 : FL RX12 107 10 10 := ⟨RX12, TX12, 34, rfl, ck_10, by decide, Or.inl (tb_in 1063 (by decide +kernel) (by decide +kernel))⟩
theorem fl_RX12_130 : FL RX12 130 10 11 := ⟨RX12, TX12, 34, rfl, ck_10, by decide, Or.inl (tb_in 1064 (by decide +kernel) (by decide +kernel))⟩
theorem fl_RX12_133 : FL RX12 133 10 12 := ⟨RX12, TX12, 34, rfl, ck_10, by decide, Or.inl (tb_in 1065 (by decide +kernel) (by decide +kernel))⟩
theorem fl_RX12_136 : FL RX12 136 10 13 := ⟨RX12, TX12, 34, rfl, ck_10, by decide, Or.inl (tb_in 1066 (by decide +kernel) (by decide +kernel))⟩
theorem fl_RX12_139 : FL RX12 139 10 16 := ⟨RX12, TX12, 34, rfl, ck_10, by decide, Or.inl (tb_in 1069 (by decide +kernel) (by decide +kernel))⟩
theorem fl_RX12_206 : FL RX12 206 10 17 := ⟨RX12, TX12, 34, rfl, ck_10, by decide, Or.inl (tb_in 1070 (by decide +kernel) (by decide +kernel))⟩
theorem fl_RX12_242 : FL RX12 242 10 14 := ⟨RX12, TX12, 34, rfl, ck_10, by decide, Or.inl (tb_in 1067 (by decide +kernel) (by decide +kernel))⟩
theorem fl_RX12_254 : FL RX12 254 10 2 := ⟨RX12, TX12, 34, rfl, ck_10, by decide, Or.inl (tb_in 1055 (by decide +kernel) (by decide +kernel))⟩
theorem fl_RX12_260 : FL RX12 260 10 25 := ⟨RX12, TX12, 34, rfl, ck_10, by decide, Or.inl (tb_in 1078 (by decide +kernel) (by decide +kernel))⟩
theorem fl_RX12_263 : FL RX12 263 10 19 := ⟨RX12, TX12, 34, rfl, ck_10, by decide, Or.inl (tb_in 1072 (by decide +kernel) (by decide +kernel))⟩
theorem fl_RX12_419 : FL RX12 419 10 23 := ⟨RX12, TX12, 34, rfl, ck_10, by decide, Or.inl (tb_in 1076 (by decide +kernel) (by decide +kernel))⟩
theorem fl_RX12_422 : FL RX12 422 10 29 := ⟨RX12, TX12, 34, rfl, ck_10, by decide, Or.inl (tb_in 1082 (by decide +kernel) (by decide +kernel))⟩
end
section
/-! ===== fields to write ===== -/
theorem ff_RX11_10 : FF RX11 10 9 0 (tyX11 0) := ⟨RX11, TX11, 12, tyX11, rfl, ck_9, by decide, tyX11_ok, nmX11, tyX11_ok 0 (by decide), rfl, rfl, (tb_in 306 (by decide +kernel) (by decide +kernel))⟩
theorem ff_RX11_18 : FF RX11 18 9 1 (tyX11 1) := ⟨RX11, TX11, 12, tyX11, rfl, ck_9, by decide, tyX11_ok, nmX11, tyX11_ok 1 (by decide), rfl, rfl, (tb_in 307 (by decide +kernel) (by decide +kernel))⟩
theorem ff_RX11_23 : FF RX11 23 9 2 (tyX11 2) := ⟨RX11, TX11, 12, tyX11, rfl, ck_9, by decide, tyX11_ok, nmX11, tyX11_ok 2 (by decide), rfl, rfl, (tb_in 308 (by decide +kernel) (by decide +kernel))⟩
theorem ff_RX11_29 : FF RX11 29 9 3 (tyX11 3) := ⟨RX11, TX11, 12, tyX11, rfl, ck_9, by decide, tyX11_ok, nmX11, tyX11_ok 3 (by decide), rfl, rfl, (tb_in 309 (by decide +kernel) (by decide +kernel))⟩
theorem ff_RX11_34 : FF RX11 34 9 4 (tyX11 4) := ⟨RX11, TX11, 12, tyX11, rfl, ck_9, by decide, tyX11_ok, nmX11, tyX11_ok 4 (by decide), rfl, rfl, (tb_in 310 (by decide +kernel) (by decide +kernel))⟩
theorem ff_RX11_41 : FF RX11 41 9 5 (tyX11 5) := ⟨RX11, TX11, 12, tyX11, rfl, ck_9, by decide, tyX11_ok, nmX11, tyX11_ok 5 (by decide), rfl, rfl, (tb_in 311 (by decide +kernel) (by decide +kernel))⟩
theorem ff_RX11_48 : FF RX11 48 9 6 (tyX11 6) := ⟨RX11, TX11, 12, tyX11, rfl, ck_9, by decide, tyX11_ok, nmX11, tyX11_ok 6 (by decide), rfl, rfl, (tb_in 312 (by decide +kernel) (by decide +kernel))⟩
theorem ff_RX11_55 : FF RX11 55 9 7 (tyX11 7) := ⟨RX11, TX11, 12, tyX11, rfl, ck_9, by decide, tyX11_ok, nmX11, tyX11_ok 7 (by decide), rfl, rfl, (tb_in 313 (by decide +kernel) (by decide +kernel))⟩
theorem ff_RX11_62 : FF RX11 62 9 8 (tyX11 8) := ⟨RX11, TX11, 12, tyX11, rfl, ck_9, by decide, tyX11_ok, nmX11, tyX11_ok 8 (by decide), rfl, rfl, (tb_in 314 (by decide +kernel) (by decide +kernel))⟩
theorem fp_RX11_66 : FP RX11 66 9 9 (tyX11 9) false := ⟨RX11, TX11, 12, tyX11, rfl, ck_9, by decide, tyX11_ok, nmX11, tyX11_ok 9 (by decide), rfl, Or.inl (tb_in 315 (by decide +kernel) (by decide +kernel))⟩
theorem fp_RX11_70 : FP RX11 70 9 10 (tyX11 10) false := ⟨RX11, TX11, 12, tyX11, rfl, ck_9, by decide, tyX11_ok, nmX11, tyX11_ok 10 (by decide), rfl, Or.inl (tb_in 316 (by decide +kernel) (by decide +kernel))⟩
theorem fp_RX11_73 : FP RX11 73 8 4 (tyX10 4) false := ⟨RX10, TX10, 10, tyX10, rfl, ck_8, by decide, tyX10_ok, nmX10, tyX10_ok 4 (by decide), rfl, Or.inr ⟨"OneMirror", nb_in 39 (by decide +kernel) rfl⟩⟩
theorem fp_RX11_90 : FP RX11 90 2 13 (tyX2 13) false := ⟨RX2, TX2, 15, tyX2, rfl, ck_2, by decide, tyX2_ok, nmX2, tyX2_ok 13 (by decide), rfl, Or.inr ⟨"OneMirror", nb_in 187 (by decide +kernel) rfl⟩⟩
theorem fp_RX11_93 : FP RX11 93 2 14 (tyX2 14) false := ⟨RX2, TX2, 15, tyX2, rfl, ck_2, by decide, tyX2_ok, nmX2, tyX2_ok 14 (by decide), rfl, Or.inr ⟨"OneMirror", nb_in 189 (by decide +kernel) rfl⟩⟩
theorem fp_RX11_102 : FP RX11 102 9 11 (tyX11 11) false := ⟨RX11, TX11, 12, tyX11, rfl, ck_9, by decide, tyX11_ok, nmX11, tyX11_ok 11 (by decide), rfl, Or.inl (tb_in 317 (by decide +kernel) (by decide +kernel))⟩
theorem fp_RX11_140 : FP RX11 140 2 11 (tyX2 11) false := ⟨RX2, TX2, 15, tyX2, rfl, ck_2, by decide, tyX2_ok, nmX2, tyX2_ok 11 (by decide), rfl, Or.inr ⟨"OneMirror", nb_in 181 (by decide +kernel) rfl⟩⟩
theorem fp_RX11_144 : FP RX11 144 2 10 (tyX2 10) false := ⟨RX2, TX2, 15, tyX2, rfl, ck_2, by decide, tyX2_ok, nmX2, tyX2_ok 10 (by decide), rfl, Or.inr ⟨"OneMirror", nb_in 177 (by decide +kernel) rfl⟩⟩
theorem fp_RX11_205 : FP RX11 205 2 12 (tyX2 12) false := ⟨RX2, TX2, 15, tyX2, rfl, ck_2, by decide, tyX2_ok, nmX2, tyX2_ok 12 (by decide), rfl, Or.inr ⟨"OneMirror", nb_in 185 (by decide +kernel) rfl⟩⟩
theorem ff_RX0_9 : FF RX0 9 0 0 (tyX0 0) := ⟨RX0, TX0, 2, tyX0, rfl, ck_0, by decide, tyX0_ok, nmX0, tyX0_ok 0 (by decide), rfl, rfl, (tb_in 299 (by decide +kernel) (by decide +kernel))⟩
theorem ff_RX0_13 : FF RX0 13 0 1 (tyX0 1) := ⟨RX0, TX0, 2, tyX0, rfl, ck_0, by decide, tyX0_ok, nmX0, tyX0_ok 1 (by decide), rfl, rfl, (tb_in 300 (by decide +kernel) (by decide +kernel))⟩
theorem ff_RX1_9 : FF RX1 9 1 0 (tyX1 0) := ⟨RX1, TX1, 3, tyX1, rfl, ck_1, by decide, tyX1_ok, nmX1, tyX1_ok 0 (by decide), rfl, rfl, (tb_in 227 (by decide +kernel) (by decide +kernel))⟩
theorem fp_RX1_13 : FP RX1 13 1 2 (tyX1 2) false := ⟨RX1, TX1, 3, tyX1, rfl, ck_1, by decide, tyX1_ok, nmX1, tyX1_ok 2 (by decide), rfl, Or.inl (tb_in 229 (by decide +kernel) (by decide +kernel))⟩
theorem fp_RX1_17 : FP RX1 17 1 1 (tyX1 1) false := ⟨RX1, TX1, 3, tyX1, rfl, ck_1, by decide, tyX1_ok, nmX1, tyX1_ok 1 (by decide), rfl, Or.inl (tb_in 228 (by decide +kernel) (by decide +kernel))⟩
theorem fp_RX1_33 : FP RX1 33 2 12 (tyX2 12) false := ⟨RX2, TX2, 15, tyX2, rfl, ck_2, by decide, tyX2_ok, nmX2, tyX2_ok 12 (by decide), rfl, Or.inr ⟨"OneMirror", nb_in 184 (by decide +kernel) rfl⟩⟩
theorem fp_RX1_38 : FP RX1 38 2 10 (tyX2 10) false := ⟨RX2, TX2, 15, tyX2, rfl, ck_2, by decide, tyX2_ok, nmX2, tyX2_ok 10 (by decide), rfl, Or.inr ⟨"OneMirror", nb_in 176 (by decide +kernel) rfl⟩⟩
theorem fp_RX1_41 : FP RX1 41 2 11 (tyX2 11) false := ⟨RX2, TX2, 15, tyX2, rfl, ck_2, by decide, tyX2_ok, nmX2, tyX2_ok 11 (by decide), rfl, Or.inr ⟨"OneMirror", nb_in 180 (by decide +kernel) rfl⟩⟩
theorem ff_RX2_11 : FF RX2 11 2 0 (tyX2 0) := ⟨RX2, TX2, 15, tyX2, rfl, ck_2, by decide, tyX2_ok, nmX2, tyX2_ok 0 (by decide), rfl, rfl, (tb_in 140 (by decide +kernel) (by decide +kernel))⟩
theorem ff_RX2_15 : FF RX2 15 2 1 (tyX2 1) := ⟨RX2, TX2, 15, tyX2, rfl, ck_2, by decide, tyX2_ok, nmX2, tyX2_ok 1 (by decide), rfl, rfl, (tb_in 143 (by decide +kernel) (by decide +kernel))⟩
theorem ff_RX2_18 : FF RX2 18 2 2 (tyX2 2) := ⟨RX2, TX2, 15, tyX2, rfl, ck_2, by decide, tyX2_ok, nmX2, tyX2_ok 2 (by decide), rfl, rfl, (tb_in 147 (by decide +kernel) (by decide +kernel))⟩
theorem ff_RX2_21 : FF RX2 21 2 3 (tyX2 3) := ⟨RX2, TX2, 15, tyX2, rfl, ck_2, by decide, tyX2_ok, nmX2, tyX2_ok 3 (by decide), rfl, rfl, (tb_in 150 (by decide +kernel) (by decide +kernel))⟩
theorem ff_RX2_24 : FF RX2 24 2 4 (tyX2 4) := ⟨RX2, TX2, 15, tyX2, rfl, ck_2, by decide, tyX2_ok, nmX2, tyX2_ok 4 (by decide), rfl, rfl, (tb_in 153 (by decide +kernel) (by decide +kernel))⟩
theorem ff_RX2_32 : FF RX2 32 2 5 (tyX2 5) := ⟨RX2, TX2, 15, tyX2, rfl, ck_2, by decide, tyX2_ok, nmX2, tyX2_ok 5 (by decide), rfl, rfl, (tb_in 155 (by decide +kernel) (by decide +kernel))⟩
theorem ff_RX2_36 : FF RX2 36 2 6 (tyX2 6) := ⟨RX2, TX2, 15, tyX2, rfl, ck_2, by decide, tyX2_ok, nmX2, tyX2_ok 6 (by decide), rfl, rfl, (tb_in 160 (by decide +kernel) (by decide +kernel))⟩
theorem ff_RX2_39 : FF RX2 39 2 7 (tyX2 7) := ⟨RX2, TX2, 15, tyX2, rfl, ck_2, by decide, tyX2_ok, nmX2, tyX2_ok 7 (by decide), rfl, rfl, (tb_in 163 (by decide +kernel) (by decide +kernel))⟩
theorem fp_RX2_42 : FP RX2 42 2 13 (tyX2 13) false := ⟨RX2, TX2, 15, tyX2, rfl, ck_2, by decide, tyX2_ok, nmX2, tyX2_ok 13 (by decide), rfl, Or.inl (tb_in 186 (by decide +kernel) (by decide +kernel))⟩
theorem fp_RX2_50 : FP RX2 50 2 8 (tyX2 8) false := ⟨RX2, TX2, 15, tyX2, rfl, ck_2, by decide, tyX2_ok, nmX2, tyX2_ok 8 (by decide), rfl, Or.inl (tb_in 166 (by decide +kernel) (by decide +kernel))⟩
theorem fp_RX2_53 : FP RX2 53 2 9 (tyX2 9) false := ⟨RX2, TX2, 15, tyX2, rfl, ck_2, by decide, tyX2_ok, nmX2, tyX2_ok 9 (by decide), rfl, Or.inl (tb_in 172 (by decide +kernel) (by decide +kernel))⟩
theorem fp_RX2_56 : FP RX2 56 2 10 (tyX2 10) false := ⟨RX2, TX2, 15, tyX2, rfl, ck_2, by decide, tyX2_ok, nmX2, tyX2_ok 10 (by decide), rfl, Or.inl (tb_in 174 (by decide +kernel) (by decide +kernel))⟩
theorem fp_RX2_59 : FP RX2 59 2 11 (tyX2 11) false := ⟨RX2, TX2, 15, tyX2, rfl, ck_2, by decide, tyX2_ok, nmX2, tyX2_ok 11 (by decide), rfl, Or.inl (tb_in 179 (by decide +kernel) (by decide +kernel))⟩
theorem fp_RX2_63 : FP RX2 63 2 12 (tyX2 12) false := ⟨RX2, TX2, 15, tyX2, rfl, ck_2, by decide, tyX2_ok, nmX2, tyX2_ok 12 (by decide), rfl, Or.inl (tb_in 183 (by decide +kernel) (by decide +kernel))⟩
theorem fp_RX2_76 : FP RX2 76 2 14 (tyX2 14) false := ⟨RX2, TX2, 15, tyX2, rfl, ck_2, by decide, tyX2_ok, nmX2, tyX2_ok 14 (by decide), rfl, Or.inl (tb_in 188 (by decide +kernel) (by decide +kernel))⟩
theorem fp_RX3_30 : FP RX3 30 2 9 (tyX2 9) false := ⟨RX2, TX2, 15, tyX2, rfl, ck_2, by decide, tyX2_ok, nmX2, tyX2_ok 9 (by decide), rfl, Or.inr ⟨"OneMirror", nb_in 171 (by decide +kernel) rfl⟩⟩
theorem fp_RX3_41 : FP RX3 41 2 8 (tyX2 8) false := ⟨RX2, TX2, 15, tyX2, rfl, ck_2, by decide, tyX2_ok, nmX2, tyX2_ok 8 (by decide), rfl, Or.inr ⟨"OneMirror", nb_in 167 (by decide +kernel) rfl⟩⟩
theorem fp_RX3_54 : FP RX3 54 2 10 (tyX2 10) false := ⟨RX2, TX2, 15, tyX2, rfl, ck_2, by decide, tyX2_ok, nmX2, tyX2_ok 10 (by decide), rfl, Or.inr ⟨"OneMirror", nb_in 175 (by decide +kernel) rfl⟩⟩
theorem ff_RX4_10 : FF RX4 10 3 0 (tyX4 0) := ⟨RX4, TX4, 2, tyX4, rfl, ck_3, by decide, tyX4_ok, nmX4, tyX4_ok 0 (by decide), rfl, rfl, (tb_in 261 (by decide +kernel) (by decide +kernel))⟩
theorem ff_RX4_18 : FF RX4 18 3 1 (tyX4 1) := ⟨RX4, TX4, 2, tyX4, rfl, ck_3, by decide, tyX4_ok, nmX4, tyX4_ok 1 (by decide), rfl, rfl, (tb_in 262 (by decide +kernel) (by decide +kernel))⟩
theorem ff_RX5_11 : FF RX5 11 4 0 (tyX5 0) := ⟨RX5, TX5, 5, tyX5, rfl, ck_4, by decide, tyX5_ok, nmX5, tyX5_ok 0 (by decide), rfl, rfl, (tb_in 275 (by decide +kernel) (by decide +kernel))⟩
theorem ff_RX5_15 : FF RX5 15 4 1 (tyX5 1) := ⟨RX5, TX5, 5, tyX5, rfl, ck_4, by decide, tyX5_ok, nmX5, tyX5_ok 1 (by decide), rfl, rfl, (tb_in 276 (by decide +kernel) (by decide +kernel))⟩
theorem ff_RX5_19 : FF RX5 19 4 2 (tyX5 2) := ⟨RX5, TX5, 5, tyX5, rfl, ck_4, by decide, tyX5_ok, nmX5, tyX5_ok 2 (by decide), rfl, rfl, (tb_in 277 (by decide +kernel) (by decide +kernel))⟩
theorem fp_RX5_58 : FP RX5 58 4 3 (tyX5 3) false := ⟨RX5, TX5, 5, tyX5, rfl, ck_4, by decide, tyX5_ok, nmX5, tyX5_ok 3 (by decide), rfl, Or.inl (tb_in 279 (by decide +kernel) (by decide +kernel))⟩
theorem fp_RX5_98 : FP RX5 98 4 4 (tyX5 4) false := ⟨RX5, TX5, 5, tyX5, rfl, ck_4, by decide, tyX5_ok, nmX5, tyX5_ok 4 (by decide), rfl, Or.inl (tb_in 280 (by decide +kernel) (by decide +kernel))⟩
theorem ff_RX6_9 : FF RX6 9 5 2 (tyX6 2) := ⟨RX6, TX6, 4, tyX6, rfl, ck_5, by decide, tyX6_ok, nmX6, tyX6_ok 2 (by decide), rfl, rfl, (tb_in 123 (by decide +kernel) (by decide +kernel))⟩
theorem ff_RX6_15 : FF RX6 15 5 1 (tyX6 1) := ⟨RX6, TX6, 4, tyX6, rfl, ck_5, by decide, tyX6_ok, nmX6, tyX6_ok 1 (by decide), rfl, rfl, (tb_in 122 (by decide +kernel) (by decide +kernel))⟩
theorem ff_RX6_18 : FF RX6 18 5 0 (tyX6 0) := ⟨RX6, TX6, 4, tyX6, rfl, ck_5, by decide, tyX6_ok, nmX6, tyX6_ok 0 (by decide), rfl, rfl, (tb_in 121 (by decide +kernel) (by decide +kernel))⟩
theorem fp_RX6_22 : FP RX6 22 5 3 (tyX6 3) false := ⟨RX6, TX6, 4, tyX6, rfl, ck_5, by decide, tyX6_ok, nmX6, tyX6_ok 3 (by decide), rfl, Or.inl (tb_in 124 (by decide +kernel) (by decide +kernel))⟩
theorem ff_RX7_9 : FF RX7 9 6 0 (tyX7 0) := ⟨RX7, TX7, 8, tyX7, rfl, ck_6, by decide, tyX7_ok, nmX7, tyX7_ok 0 (by decide), rfl, rfl, (tb_in 81 (by decide +kernel) (by decide +kernel))⟩
theorem ff_RX7_15 : FF RX7 15 6 1 (tyX7 1) := ⟨RX7, TX7, 8, tyX7, rfl, ck_6, by decide, tyX7_ok, nmX7, tyX7_ok 1 (by decide), rfl, rfl, (tb_in 82 (by decide +kernel) (by decide +kernel))⟩
theorem ff_RX7_18 : FF RX7 18 6 2 (tyX7 2) := ⟨RX7, TX7, 8, tyX7, rfl, ck_6, by decide, tyX7_ok, nmX7, tyX7_ok 2 (by decide), rfl, rfl, (tb_in 83 (by decide +kernel) (by decide +kernel))⟩
theorem ff_RX7_21 : FF RX7 21 6 3 (tyX7 3) := ⟨RX7, TX7, 8, tyX7, rfl, ck_6, by decide, tyX7_ok, nmX7, tyX7_ok 3 (by decide), rfl, rfl, (tb_in 84 (by decide +kernel) (by decide +kernel))⟩
theorem ff_RX7_24 : FF RX7 24 6 4 (tyX7 4) := ⟨RX7, TX7, 8, tyX7, rfl, ck_6, by decide, tyX7_ok, nmX7, tyX7_ok 4 (by decide), rfl, rfl, (tb_in 85 (by decide +kernel) (by decide +kernel))⟩
theorem fp_RX7_27 : FP RX7 27 6 5 (tyX7 5) false := ⟨RX7, TX7, 8, tyX7, rfl, ck_6, by decide, tyX7_ok, nmX7, tyX7_ok 5 (by decide), rfl, Or.inl (tb_in 86 (by decide +kernel) (by decide +kernel))⟩
theorem fp_RX7_31 : FP RX7 31 6 6 (tyX7 6) false := ⟨RX7, TX7, 8, tyX7, rfl, ck_6, by decide, tyX7_ok, nmX7, tyX7_ok 6 (by decide), rfl, Or.inl (tb_in 88 (by decide +kernel) (by decide +kernel))⟩
theorem fp_RX7_34 : FP RX7 34 6 7 (tyX7 7) false := ⟨RX7, TX7, 8, tyX7, rfl, ck_6, by decide, tyX7_ok, nmX7, tyX7_ok 7 (by decide), rfl, Or.inl (tb_in 89 (by decide +kernel) (by decide +kernel))⟩
theorem fp_RX8_61 : FP RX8 61 6 7 (tyX7 7) false := ⟨RX7, TX7, 8, tyX7, rfl, ck_6, by decide, tyX7_ok, nmX7, tyX7_ok 7 (by decide), rfl, Or.inr ⟨"OneMirror", nb_in 90 (by decide +kernel) rfl⟩⟩
theorem ff_RX9_9 : FF RX9 9 7 0 (tyX9 0) := ⟨RX9, TX9, 2, tyX9, rfl, ck_7, by decide, tyX9_ok, nmX9, tyX9_ok 0 (by decide), rfl, rfl, (tb_in 251 (by decide +kernel) (by decide +kernel))⟩
theorem ff_RX9_15 : FF RX9 15 7 1 (tyX9 1) := ⟨RX9, TX9, 2, tyX9, rfl, ck_7, by decide, tyX9_ok, nmX9, tyX9_ok 1 (by decide), rfl, rfl, (tb_in 253 (by decide +kernel) (by decide +kernel))⟩
theorem ff_RX10_9 : FF RX10 9 8 0 (tyX10 0) := ⟨RX10, TX10, 10, tyX10, rfl, ck_8, by decide, tyX10_ok, nmX10, tyX10_ok 0 (by decide), rfl, rfl, (tb_in 35 (by decide +kernel) (by decide +kernel))⟩
theorem ff_RX10_13 : FF RX10 13 8 1 (tyX10 1) := ⟨RX10, TX10, 10, tyX10, rfl, ck_8, by decide, tyX10_ok, nmX10, tyX10_ok 1 (by decide), rfl, rfl, (tb_in 36 (by decide +kernel) (by decide +kernel))⟩
theorem ff_RX10_16 : FF RX10 16 8 2 (tyX10 2) := ⟨RX10, TX10, 10, tyX10, rfl, ck_8, by decide, tyX10_ok, nmX10, tyX10_ok 2 (by decide), rfl, rfl, (tb_in 37 (by decide +kernel) (by decide +kernel))⟩
theorem ff_RX10_19 : FF RX10 19 8 3 (tyX10 3) := ⟨RX10, TX10, 10, tyX10, rfl, ck_8, by decide, tyX10_ok, nmX10, tyX10_ok 3 (by decide), rfl, rfl, (tb_in 38 (by decide +kernel) (by decide +kernel))⟩
theorem fp_RX10_22 : FP RX10 22 8 4 (tyX10 4) false := ⟨RX10, TX10, 10, tyX10, rfl, ck_8, by decide, tyX10_ok, nmX10, tyX10_ok 4 (by decide), rfl, Or.inl (tb_in 40 (by decide +kernel) (by decide +kernel))⟩
theorem fp_RX10_26 : FP RX10 26 8 5 (tyX10 5) false := ⟨RX10, TX10, 10, tyX10, rfl, ck_8, by decide, tyX10_ok, nmX10, tyX10_ok 5 (by decide), rfl, Or.inl (tb_in 41 (by decide +kernel) (by decide +kernel))⟩
theorem fp_RX10_29 : FP RX10 29 8 6 (tyX10 6) false := ⟨RX10, TX10, 10, tyX10, rfl, ck_8, by decide, tyX10_ok, nmX10, tyX10_ok 6 (by decide), rfl, Or.inl (tb_in 42 (by decide +kernel) (by decide +kernel))⟩
theorem fp_RX10_32 : FP RX10 32 8 7 (tyX10 7) false := ⟨RX10, TX10, 10, tyX10, rfl, ck_8, by decide, tyX10_ok, nmX10, tyX10_ok 7 (by decide), rfl, Or.inl (tb_in 43 (by decide +kernel) (by decide +kernel))⟩
theorem fp_RX10_43 : FP RX10 43 8 8 (tyX10 8) false := ⟨RX10, TX10, 10, tyX10, rfl, ck_8, by decide, tyX10_ok, nmX10, tyX10_ok 8 (by decide), rfl, Or.inl (tb_in 48 (by decide +kernel) (by decide +kernel))⟩
theorem fp_RX10_46 : FP RX10 46 8 9 (tyX10 9) false := ⟨RX10, TX10, 10, tyX10, rfl, ck_8, by decide, tyX10_ok, nmX10, tyX10_ok 9 (by decide), rfl, Or.inl (tb_in 49 (by decide +kernel) (by decide +kernel))⟩
theorem ff_RX12_7 : FF RX12 7 10 0 (tyX12 0) := ⟨RX12, TX12, 34, tyX12, rfl, ck_10, by decide, tyX12_ok, nmX12, tyX12_ok 0 (by decide), rfl, rfl, (tb_in 1053 (by decide +kernel) (by decide +kernel))⟩
theorem ff_RX12_13 : FF RX12 13 10 3 (tyX12 3) := ⟨RX12, TX12, 34, tyX12, rfl, ck_10, by decide, tyX12_ok, nmX12, tyX12_ok 3 (by decide), rfl, rfl, (tb_in 1056 (by decide +kernel) (by decide +kernel))⟩
theorem ff_RX12_17 : FF RX12 17 10 4 (tyX12 4) := ⟨RX12, TX12, 34, tyX12, rfl, ck_10, by decide, tyX12_ok, nmX12, tyX12_ok 4 (by decide), rfl, rfl, (tb_in 1057 (by decide +kernel) (by decide +kernel))⟩
theorem ff_RX12_20 : FF RX12 20 10 5 (tyX12 5) := ⟨RX12, TX12, 34, tyX12, rfl, ck_10, by decide, tyX12_ok, nmX12, tyX12_ok 5 (by decide), rfl, rfl, (tb_in 1058 (by decide +kernel) (by decide +kernel))⟩
theorem ff_RX12_23 : FF RX12 23 10 6 (tyX12 6) := ⟨RX12, TX12, 34, tyX12, rfl, ck_10, by decide, tyX12_ok, nmX12, tyX12_ok 6 (by decide), rfl, rfl, (tb_in 1059 (by decide +kernel) (by decide +kernel))⟩
theorem ff_RX12_26 : FF RX12 26 10 7 (tyX12 7) := ⟨RX12, TX12, 34, tyX12, rfl, ck_10, by decide, tyX12_ok, nmX12, tyX12_ok 7 (by decide), rfl, rfl, (tb_in 1060 (by decide +kernel) (by decide +kernel))⟩
theorem ff_RX12_29 : FF RX12 29 10 15 (tyX12 15) := ⟨RX12, TX12, 34, tyX12, rfl, ck_10, by decide, tyX12_ok, nmX12, tyX12_ok 15 (by decide), rfl, rfl, (tb_in 1068 (by decide +kernel) (by decide +kernel))⟩
theorem ff_RX12_32 : FF RX12 32 10 18 (tyX12 18) := ⟨RX12, TX12, 34, tyX12, rfl, ck_10, by decide, tyX12_ok, nmX12, tyX12_ok 18 (by decide), rfl, rfl, (tb_in 1071 (by decide +kernel) (by decide +kernel))⟩
theorem ff_RX12_36 : FF RX12 36 10 20 (tyX12 20) := ⟨RX12, TX12, 34, tyX12, rfl, ck_10, by decide, tyX12_ok, nmX12, tyX12_ok 20 (by decide), rfl, rfl, (tb_in 1073 (by decide +kernel) (by decide +kernel))⟩
theorem ff_RX12_39 : FF RX12 39 10 21 (tyX12 21) := ⟨RX12, TX12, 34, tyX12, rfl, ck_10, by decide, tyX12_ok, nmX12, tyX12_ok 21 (by decide), rfl, rfl, (tb_in 1074 (by decide +kernel) (by decide +kernel))⟩
theorem fp_RX12_42 : FP RX12 42 10 22 (tyX12 22) false := ⟨RX12, TX12, 34, tyX12, rfl, ck_10, by decide, tyX12_ok, nmX12, tyX12_ok 22 (by decide), rfl, Or.inl (tb_in 1075 (by decide +kernel) (by decide +kernel))⟩
theorem ff_RX12_46 : FF RX12 46 10 24 (tyX12 24) := ⟨RX12, TX12, 34, tyX12, rfl, ck_10, by decide, tyX12_ok, nmX12, tyX12_ok 24 (by decide), rfl, rfl, (tb_in 1077 (by decide +kernel) (by decide +kernel))⟩
theorem ff_RX12_50 : FF RX12 50 10 26 (tyX12 26) := ⟨RX12, TX12, 34, tyX12, rfl, ck_10, by decide, tyX12_ok, nmX12, tyX12_ok 26 (by decide), rfl, rfl, (tb_in 1079 (by decide +kernel) (by decide +kernel))⟩
theorem ff_RX12_53 : FF RX12 53 10 27 (tyX12 27) := ⟨RX12, TX12, 34, tyX12, rfl, ck_10, by decide, tyX12_ok, nmX12, tyX12_ok 27 (by decide), rfl, rfl, (tb_in 1080 (by decide +kernel) (by decide +kernel))⟩
theorem ff_RX12_56 : FF RX12 56 10 28 (tyX12 28) := ⟨RX12, TX12, 34, tyX12, rfl, ck_10, by decide, tyX12_ok, nmX12, tyX12_ok 28 (by decide), rfl, rfl, (tb_in 1081 (by decide +kernel) (by decide +kernel))⟩
theorem ff_RX12_59 : FF RX12 59 10 30 (tyX12 30) := ⟨RX12, TX12, 34, tyX12, rfl, ck_10, by decide, tyX12_ok, nmX12, tyX12_ok 30 (by decide), rfl, rfl, (tb_in 1083 (by decide +kernel) (by decide +kernel))⟩
theorem ff_RX12_62 : FF RX12 62 10 31 (tyX12 31) := ⟨RX12, TX12, 34, tyX12, rfl, ck_10, by decide, tyX12_ok, nmX12, tyX12_ok 31 (by decide), rfl, rfl, (tb_in 1084 (by decide +kernel) (by decide +kernel))⟩
theorem ff_RX12_65 : FF RX12 65 10 32 (tyX12 32) := ⟨RX12, TX12, 34, tyX12, rfl, ck_10, by decide, tyX12_ok, nmX12, tyX12_ok 32 (by decide), rfl, rfl, (tb_in 1085 (by decide +kernel) (by decide +kernel))⟩
theorem ff_RX12_68 : FF RX12 68 10 33 (tyX12 33) := ⟨RX12, TX12, 34, tyX12, rfl, ck_10, by decide, tyX12_ok, nmX12, tyX12_ok 33 (by decide), rfl, rfl, (tb_in 1086 (by decide +kernel) (by decide +kernel))⟩
theorem fp_RX12_72 : FP RX12 72 10 1 (tyX12 1) false := ⟨RX12, TX12, 34, tyX12, rfl, ck_10, by decide, tyX12_ok, nmX12, tyX12_ok 1 (by decide), rfl, Or.inl (tb_in 1054 (by decide +kernel) (by decide +kernel))⟩
theorem fp_RX12_79 : FP RX12 79 10 9 (tyX12 9) false := ⟨RX12, TX12, 34, tyX12, rfl, ck_10, by decide, tyX12_ok, nmX12, tyX12_ok 9 (by decide), rfl, Or.inl (tb_in 1062 (by decide +kernel) (by decide +kernel))⟩
theorem fp_RX12_82 : FP RX12 82 10 8 (tyX12 8) false := ⟨RX12, TX12, 34, tyX12, rfl, ck_10, by decide, tyX12_ok, nmX12, tyX12_ok 8 (by decide), rfl, Or.inl (tb_in 1061 (by decide +kernel) (by decide +kernel))⟩
theorem fp_RX12_107 : FP RX12 107 10 10 (tyX12 10) false := ⟨RX12, TX12, 34, tyX12, rfl, ck_10, by decide, tyX12_ok, nmX12, tyX12_ok 10 (by decide), rfl, Or.inl (tb_in 1063 (by decide +kernel) (by decide +kernel))⟩
theorem fp_RX12_130 : FP RX12 130 10 11 (tyX12 11) false := ⟨RX12, TX12, 34, tyX12, rfl, ck_10, by decide, tyX12_ok, nmX12, tyX12_ok 11 (by decide), rfl, Or.inl (tb_in 1064 (by decide +kernel) (by decide +kernel))⟩
theorem fp_RX12_133 : FP RX12 133 10 12 (tyX12 12) false := ⟨RX12, TX12, 34, tyX12, rfl, ck_10, by decide, tyX12_ok, nmX12, tyX12_ok 12 (by decide), rfl, Or.inl (tb_in 1065 (by decide +kernel) (by decide +kernel))⟩
theorem fp_RX12_136 : FP RX12 136 10 13 (tyX12 13) false := ⟨RX12, TX12, 34, tyX12, rfl, ck_10, by decide, tyX12_ok, nmX12, tyX12_ok 13 (by decide), rfl, Or.inl (tb_in 1066 (by decide +kernel) (by decide +kernel))⟩
theorem fp_RX12_139 : FP RX12 139 10 16 (tyX12 16) false := ⟨RX12, TX12, 34, tyX12, rfl, ck_10, by decide, tyX12_ok, nmX12, tyX12_ok 16 (by decide), rfl, Or.inl (tb_in 1069 (by decide +kernel) (by decide +kernel))⟩
theorem fp_RX12_206 : FP RX12 206 10 17 (tyX12 17) false := ⟨RX12, TX12, 34, tyX12, rfl, ck_10, by decide, tyX12_ok, nmX12, tyX12_ok 17 (by decide), rfl, Or.inl (tb_in 1070 (by decide +kernel) (by decide +kernel))⟩
theorem fp_RX12_242 : FP RX12 242 10 14 (tyX12 14) false := ⟨RX12, TX12, 34, tyX12, rfl, ck_10, by decide, tyX12_ok, nmX12, tyX12_ok 14 (by decide), rfl, Or.inl (tb_in 1067 (by decide +kernel) (by decide +kernel))⟩
theorem fp_RX12_254 : FP RX12 254 10 2 (tyX12 2) false := ⟨RX12, TX12, 34, tyX12, rfl, ck_10, by decide, tyX12_ok, nmX12, tyX12_ok 2 (by decide), rfl, Or.inl (tb_in 1055 (by decide +kernel) (by decide +kernel))⟩
theorem fp_RX12_260 : FP RX12 260 10 25 (tyX12 25) false := ⟨RX12, TX12, 34, tyX12, rfl, ck_10, by decide, tyX12_ok, nmX12, tyX12_ok 25 (by decide), rfl, Or.inl (tb_in 1078 (by decide +kernel) (by decide +kernel))⟩
theorem fp_RX12_263 : FP RX12 263 10 19 (tyX12 19) false := ⟨RX12, TX12, 34, tyX12, rfl, ck_10, by decide, tyX12_ok, nmX12, tyX12_ok 19 (by decide), rfl, Or.inl (tb_in 1072 (by decide +kernel) (by decide +kernel))⟩
theorem fp_RX12_419 : FP RX12 419 10 23 (tyX12 23) false := ⟨RX12, TX12, 34, tyX12, rfl, ck_10, by decide, tyX12_ok, nmX12, tyX12_ok 23 (by decide), rfl, Or.inl (tb_in 1076 (by decide +kernel) (by decide +kernel))⟩
theorem fp_RX12_422 : FP RX12 422 10 29 (tyX12 29) false := ⟨RX12, TX12, 34, tyX12, rfl, ck_10, by decide, tyX12_ok, nmX12, tyX12_ok 29 (by decide), rfl, Or.inl (tb_in 1082 (by decide +kernel) (by decide +kernel))⟩
end
section
/-! ===== methods: their codes, and the entries that call them ===== -/
abbrev yy_X0_init : aY := (yX0_init, cX0_init, 1, none)
theorem mk_X0_init : MK yy_X0_init := ⟨(tb_in 297 (by decide +kernel) (by decide +kernel)), (tb_in 10 (by decide +kernel) (by decide +kernel)), (by decide +kernel), (by decide +kernel)⟩
abbrev yy_X0_fewestFor : aY := (yX0_fewestFor, cX0_fewestFor, 5, (some .int))
theorem mk_X0_fewestFor : MK yy_X0_fewestFor := ⟨(tb_in 969 (by decide +kernel) (by decide +kernel)), (tb_in 10 (by decide +kernel) (by decide +kernel)), (by decide +kernel), (by decide +kernel)⟩
abbrev yy_X0_fewestOf : aY := (yX0_fewestOf, cX0_fewestOf, 6, (some .int))
theorem mk_X0_fewestOf : MK yy_X0_fewestOf := ⟨(tb_in 979 (by decide +kernel) (by decide +kernel)), (tb_in 10 (by decide +kernel) (by decide +kernel)), (by decide +kernel), (by decide +kernel)⟩
abbrev yy_X1_init : aY := (yX1_init, cX1_init, 1, none)
theorem mk_X1_init : MK yy_X1_init := ⟨(tb_in 225 (by decide +kernel) (by decide +kernel)), (tb_in 6 (by decide +kernel) (by decide +kernel)), (by decide +kernel), (by decide +kernel)⟩
abbrev yy_X1_forget : aY := (yX1_forget, cX1_forget, 1, none)
theorem mk_X1_forget : MK yy_X1_forget := ⟨(tb_in 501 (by decide +kernel) (by decide +kernel)), (tb_in 6 (by decide +kernel) (by decide +kernel)), (by decide +kernel), (by decide +kernel)⟩
abbrev yy_X1_startOfNewest : aY := (yX1_startOfNewest, cX1_startOfNewest, 1, (some .int))
theorem mk_X1_startOfNewest : MK yy_X1_startOfNewest := ⟨(tb_in 716 (by decide +kernel) (by decide +kernel)), (tb_in 6 (by decide +kernel) (by decide +kernel)), (by decide +kernel), (by decide +kernel)⟩
abbrev yy_X1_remember : aY := (yX1_remember, cX1_remember, 3, none)
theorem mk_X1_remember : MK yy_X1_remember := ⟨(tb_in 706 (by decide +kernel) (by decide +kernel)), (tb_in 6 (by decide +kernel) (by decide +kernel)), (by decide +kernel), (by decide +kernel)⟩
abbrev yy_X1_restore : aY := (yX1_restore, cX1_restore, 3, none)
theorem mk_X1_restore : MK yy_X1_restore := ⟨(tb_in 787 (by decide +kernel) (by decide +kernel)), (tb_in 6 (by decide +kernel) (by decide +kernel)), (by decide +kernel), (by decide +kernel)⟩
abbrev yy_X2_init : aY := (yX2_init, cX2_init, 1, none)
theorem mk_X2_init : MK yy_X2_init := ⟨(tb_in 113 (by decide +kernel) (by decide +kernel)), (tb_in 4 (by decide +kernel) (by decide +kernel)), (by decide +kernel), (by decide +kernel)⟩
abbrev yy_X2_clear : aY := (yX2_clear, cX2_clear, 2, none)
theorem mk_X2_clear : MK yy_X2_clear := ⟨(tb_in 365 (by decide +kernel) (by decide +kernel)), (tb_in 4 (by decide +kernel) (by decide +kernel)), (by decide +kernel), (by decide +kernel)⟩
abbrev yy_X2_copyFrom : aY := (yX2_copyFrom, cX2_copyFrom, 2, none)
theorem mk_X2_copyFrom : MK yy_X2_copyFrom := ⟨(tb_in 1001 (by decide +kernel) (by decide +kernel)), (tb_in 4 (by decide +kernel) (by decide +kernel)), (by decide +kernel), (by decide +kernel)⟩
abbrev yy_X2_has : aY := (yX2_has, cX2_has, 2, (some .boolean))
theorem mk_X2_has : MK yy_X2_has := ⟨(tb_in 494 (by decide +kernel) (by decide +kernel)), (tb_in 4 (by decide +kernel) (by decide +kernel)), (by decide +kernel), (by decide +kernel)⟩
abbrev yy_X2_hasTwo : aY := (yX2_hasTwo, cX2_hasTwo, 3, (some .boolean))
theorem mk_X2_hasTwo : MK yy_X2_hasTwo := ⟨(tb_in 490 (by decide +kernel) (by decide +kernel)), (tb_in 4 (by decide +kernel) (by decide +kernel)), (by decide +kernel), (by decide +kernel)⟩
abbrev yy_X2_hasMark : aY := (yX2_hasMark, cX2_hasMark, 2, (some .boolean))
theorem mk_X2_hasMark : MK yy_X2_hasMark := ⟨(tb_in 661 (by decide +kernel) (by decide +kernel)), (tb_in 4 (by decide +kernel) (by decide +kernel)), (by decide +kernel), (by decide +kernel)⟩
abbrev yy_X2_lastFace : aY := (yX2_lastFace, cX2_lastFace, 1, (some .int))
theorem mk_X2_lastFace : MK yy_X2_lastFace := ⟨(tb_in 480 (by decide +kernel) (by decide +kernel)), (tb_in 4 (by decide +kernel) (by decide +kernel)), (by decide +kernel), (by decide +kernel)⟩
abbrev yy_X2_isFace : aY := (yX2_isFace, cX2_isFace, 2, (some .boolean))
theorem mk_X2_isFace : MK yy_X2_isFace := ⟨(tb_in 739 (by decide +kernel) (by decide +kernel)), (tb_in 4 (by decide +kernel) (by decide +kernel)), (by decide +kernel), (by decide +kernel)⟩
abbrev yy_X2_faceOf : aY := (yX2_faceOf, cX2_faceOf, 2, (some .int))
theorem mk_X2_faceOf : MK yy_X2_faceOf := ⟨(tb_in 696 (by decide +kernel) (by decide +kernel)), (tb_in 4 (by decide +kernel) (by decide +kernel)), (by decide +kernel), (by decide +kernel)⟩
abbrev yy_X2_hasBoat : aY := (yX2_hasBoat, cX2_hasBoat, 3, (some .boolean))
theorem mk_X2_hasBoat : MK yy_X2_hasBoat := ⟨(tb_in 758 (by decide +kernel) (by decide +kernel)), (tb_in 4 (by decide +kernel) (by decide +kernel)), (by decide +kernel), (by decide +kernel)⟩
abbrev yy_X2_heed : aY := (yX2_heed, cX2_heed, 4, (some .int))
theorem mk_X2_heed : MK yy_X2_heed := ⟨(tb_in 616 (by decide +kernel) (by decide +kernel)), (tb_in 4 (by decide +kernel) (by decide +kernel)), (by decide +kernel), (by decide +kernel)⟩
abbrev yy_X2_whoHeedsMost : aY := (yX2_whoHeedsMost, cX2_whoHeedsMost, 5, (some .int))
theorem mk_X2_whoHeedsMost : MK yy_X2_whoHeedsMost := ⟨(tb_in 809 (by decide +kernel) (by decide +kernel)), (tb_in 4 (by decide +kernel) (by decide +kernel)), (by decide +kernel), (by decide +kernel)⟩
abbrev yy_X2_nextDraw : aY := (yX2_nextDraw, cX2_nextDraw, 1, (some .int))
theorem mk_X2_nextDraw : MK yy_X2_nextDraw := ⟨(tb_in 1016 (by decide +kernel) (by decide +kernel)), (tb_in 4 (by decide +kernel) (by decide +kernel)), (by decide +kernel), (by decide +kernel)⟩
abbrev yy_X2_addTelling : aY := (yX2_addTelling, cX2_addTelling, 7, none)
theorem mk_X2_addTelling : MK yy_X2_addTelling := ⟨(tb_in 723 (by decide +kernel) (by decide +kernel)), (tb_in 4 (by decide +kernel) (by decide +kernel)), (by decide +kernel), (by decide +kernel)⟩
abbrev yy_X2_addLook : aY := (yX2_addLook, cX2_addLook, 1, none)
theorem mk_X2_addLook : MK yy_X2_addLook := ⟨(tb_in 748 (by decide +kernel) (by decide +kernel)), (tb_in 4 (by decide +kernel) (by decide +kernel)), (by decide +kernel), (by decide +kernel)⟩
abbrev yy_X2_addWish : aY := (yX2_addWish, cX2_addWish, 5, none)
theorem mk_X2_addWish : MK yy_X2_addWish := ⟨(tb_in 889 (by decide +kernel) (by decide +kernel)), (tb_in 4 (by decide +kernel) (by decide +kernel)), (by decide +kernel), (by decide +kernel)⟩
abbrev yy_X2_addView : aY := (yX2_addView, cX2_addView, 3, none)
theorem mk_X2_addView : MK yy_X2_addView := ⟨(tb_in 949 (by decide +kernel) (by decide +kernel)), (tb_in 4 (by decide +kernel) (by decide +kernel)), (by decide +kernel), (by decide +kernel)⟩
abbrev yy_X2_isLook : aY := (yX2_isLook, cX2_isLook, 2, (some .boolean))
theorem mk_X2_isLook : MK yy_X2_isLook := ⟨(tb_in 570 (by decide +kernel) (by decide +kernel)), (tb_in 4 (by decide +kernel) (by decide +kernel)), (by decide +kernel), (by decide +kernel)⟩
abbrev yy_X2_looksOf : aY := (yX2_looksOf, cX2_looksOf, 4, (some .int))
theorem mk_X2_looksOf : MK yy_X2_looksOf := ⟨(tb_in 566 (by decide +kernel) (by decide +kernel)), (tb_in 4 (by decide +kernel) (by decide +kernel)), (by decide +kernel), (by decide +kernel)⟩
abbrev yy_X2_lookers : aY := (yX2_lookers, cX2_lookers, 3, (some .int))
theorem mk_X2_lookers : MK yy_X2_lookers := ⟨(tb_in 801 (by decide +kernel) (by decide +kernel)), (tb_in 4 (by decide +kernel) (by decide +kernel)), (by decide +kernel), (by decide +kernel)⟩
abbrev yy_X2_nextToLook : aY := (yX2_nextToLook, cX2_nextToLook, 3, (some .int))
theorem mk_X2_nextToLook : MK yy_X2_nextToLook := ⟨(tb_in 814 (by decide +kernel) (by decide +kernel)), (tb_in 4 (by decide +kernel) (by decide +kernel)), (by decide +kernel), (by decide +kernel)⟩
abbrev yy_X2_leanOf : aY := (yX2_leanOf, cX2_leanOf, 5, (some .int))
theorem mk_X2_leanOf : MK yy_X2_leanOf := ⟨(tb_in 823 (by decide +kernel) (by decide +kernel)), (tb_in 4 (by decide +kernel) (by decide +kernel)), (by decide +kernel), (by decide +kernel)⟩
abbrev yy_X2_flatteryOf : aY := (yX2_flatteryOf, cX2_flatteryOf, 7, (some .int))
theorem mk_X2_flatteryOf : MK yy_X2_flatteryOf := ⟨(tb_in 848 (by decide +kernel) (by decide +kernel)), (tb_in 4 (by decide +kernel) (by decide +kernel)), (by decide +kernel), (by decide +kernel)⟩
abbrev yy_X2_flatterer : aY := (yX2_flatterer, cX2_flatterer, 5, (some .int))
theorem mk_X2_flatterer : MK yy_X2_flatterer := ⟨(tb_in 852 (by decide +kernel) (by decide +kernel)), (tb_in 4 (by decide +kernel) (by decide +kernel)), (by decide +kernel), (by decide +kernel)⟩
abbrev yy_X2_firstOf : aY := (yX2_firstOf, cX2_firstOf, 4, (some .int))
theorem mk_X2_firstOf : MK yy_X2_firstOf := ⟨(tb_in 872 (by decide +kernel) (by decide +kernel)), (tb_in 4 (by decide +kernel) (by decide +kernel)), (by decide +kernel), (by decide +kernel)⟩
abbrev yy_X2_slippedAt : aY := (yX2_slippedAt, cX2_slippedAt, 7, (some .int))
theorem mk_X2_slippedAt : MK yy_X2_slippedAt := ⟨(tb_in 880 (by decide +kernel) (by decide +kernel)), (tb_in 4 (by decide +kernel) (by decide +kernel)), (by decide +kernel), (by decide +kernel)⟩
abbrev yy_X2_canBeOf : aY := (yX2_canBeOf, cX2_canBeOf, 3, (some .boolean))
theorem mk_X2_canBeOf : MK yy_X2_canBeOf := ⟨(tb_in 961 (by decide +kernel) (by decide +kernel)), (tb_in 4 (by decide +kernel) (by decide +kernel)), (by decide +kernel), (by decide +kernel)⟩
abbrev yy_X2_peopleFitting : aY := (yX2_peopleFitting, cX2_peopleFitting, 4, (some .int))
theorem mk_X2_peopleFitting : MK yy_X2_peopleFitting := ⟨(tb_in 957 (by decide +kernel) (by decide +kernel)), (tb_in 4 (by decide +kernel) (by decide +kernel)), (by decide +kernel), (by decide +kernel)⟩
abbrev yy_X2_viewsOf : aY := (yX2_viewsOf, cX2_viewsOf, 4, (some .int))
theorem mk_X2_viewsOf : MK yy_X2_viewsOf := ⟨(tb_in 975 (by decide +kernel) (by decide +kernel)), (tb_in 4 (by decide +kernel) (by decide +kernel)), (by decide +kernel), (by decide +kernel)⟩
abbrev yy_X2_mostViewsOfOne : aY := (yX2_mostViewsOfOne, cX2_mostViewsOfOne, 3, (some .int))
theorem mk_X2_mostViewsOfOne : MK yy_X2_mostViewsOfOne := ⟨(tb_in 983 (by decide +kernel) (by decide +kernel)), (tb_in 4 (by decide +kernel) (by decide +kernel)), (by decide +kernel), (by decide +kernel)⟩
abbrev yy_X2_sworn : aY := (yX2_sworn, cX2_sworn, 4, (some .int))
theorem mk_X2_sworn : MK yy_X2_sworn := ⟨(tb_in 989 (by decide +kernel) (by decide +kernel)), (tb_in 4 (by decide +kernel) (by decide +kernel)), (by decide +kernel), (by decide +kernel)⟩
abbrev yy_X3_readAll : aY := (yX3_readAll, cX3_readAll, 3, none)
theorem mk_X3_readAll : MK yy_X3_readAll := ⟨(tb_in 361 (by decide +kernel) (by decide +kernel)), (tb_in 12 (by decide +kernel) (by decide +kernel)), (by decide +kernel), (by decide +kernel)⟩
abbrev yy_X3_readClause : aY := (yX3_readClause, cX3_readClause, 6, none)
theorem mk_X3_readClause : MK yy_X3_readClause := ⟨(tb_in 459 (by decide +kernel) (by decide +kernel)), (tb_in 12 (by decide +kernel) (by decide +kernel)), (by decide +kernel), (by decide +kernel)⟩
abbrev yy_X3_readPerson : aY := (yX3_readPerson, cX3_readPerson, 4, none)
theorem mk_X3_readPerson : MK yy_X3_readPerson := ⟨(tb_in 476 (by decide +kernel) (by decide +kernel)), (tb_in 12 (by decide +kernel) (by decide +kernel)), (by decide +kernel), (by decide +kernel)⟩
abbrev yy_X3_readTie : aY := (yX3_readTie, cX3_readTie, 5, none)
theorem mk_X3_readTie : MK yy_X3_readTie := ⟨(tb_in 483 (by decide +kernel) (by decide +kernel)), (tb_in 12 (by decide +kernel) (by decide +kernel)), (by decide +kernel), (by decide +kernel)⟩
abbrev yy_X3_readBoat : aY := (yX3_readBoat, cX3_readBoat, 4, none)
theorem mk_X3_readBoat : MK yy_X3_readBoat := ⟨(tb_in 497 (by decide +kernel) (by decide +kernel)), (tb_in 12 (by decide +kernel) (by decide +kernel)), (by decide +kernel), (by decide +kernel)⟩
abbrev yy_X3_takeOther : aY := (yX3_takeOther, cX3_takeOther, 3, (some .int))
theorem mk_X3_takeOther : MK yy_X3_takeOther := ⟨(tb_in 486 (by decide +kernel) (by decide +kernel)), (tb_in 12 (by decide +kernel) (by decide +kernel)), (by decide +kernel), (by decide +kernel)⟩
abbrev yy_X4_init : aY := (yX4_init, cX4_init, 1, none)
theorem mk_X4_init : MK yy_X4_init := ⟨(tb_in 243 (by decide +kernel) (by decide +kernel)), (tb_in 7 (by decide +kernel) (by decide +kernel)), (by decide +kernel), (by decide +kernel)⟩
abbrev yy_X4_told : aY := (yX4_told, cX4_told, 7, (some .int))
theorem mk_X4_told : MK yy_X4_told := ⟨(tb_in 700 (by decide +kernel) (by decide +kernel)), (tb_in 7 (by decide +kernel) (by decide +kernel)), (by decide +kernel), (by decide +kernel)⟩
abbrev yy_X4_weightOf : aY := (yX4_weightOf, cX4_weightOf, 4, (some .int))
theorem mk_X4_weightOf : MK yy_X4_weightOf := ⟨(tb_in 603 (by decide +kernel) (by decide +kernel)), (tb_in 7 (by decide +kernel) (by decide +kernel)), (by decide +kernel), (by decide +kernel)⟩
abbrev yy_X4_addUp : aY := (yX4_addUp, cX4_addUp, 5, none)
theorem mk_X4_addUp : MK yy_X4_addUp := ⟨(tb_in 594 (by decide +kernel) (by decide +kernel)), (tb_in 7 (by decide +kernel) (by decide +kernel)), (by decide +kernel), (by decide +kernel)⟩
abbrev yy_X4_addLeans : aY := (yX4_addLeans, cX4_addLeans, 5, none)
theorem mk_X4_addLeans : MK yy_X4_addLeans := ⟨(tb_in 837 (by decide +kernel) (by decide +kernel)), (tb_in 7 (by decide +kernel) (by decide +kernel)), (by decide +kernel), (by decide +kernel)⟩
abbrev yy_X4_clearSums : aY := (yX4_clearSums, cX4_clearSums, 2, none)
theorem mk_X4_clearSums : MK yy_X4_clearSums := ⟨(tb_in 598 (by decide +kernel) (by decide +kernel)), (tb_in 7 (by decide +kernel) (by decide +kernel)), (by decide +kernel), (by decide +kernel)⟩
abbrev yy_X4_addFace : aY := (yX4_addFace, cX4_addFace, 5, none)
theorem mk_X4_addFace : MK yy_X4_addFace := ⟨(tb_in 641 (by decide +kernel) (by decide +kernel)), (tb_in 7 (by decide +kernel) (by decide +kernel)), (by decide +kernel), (by decide +kernel)⟩
abbrev yy_X4_believed : aY := (yX4_believed, cX4_believed, 4, (some .int))
theorem mk_X4_believed : MK yy_X4_believed := ⟨(tb_in 590 (by decide +kernel) (by decide +kernel)), (tb_in 7 (by decide +kernel) (by decide +kernel)), (by decide +kernel), (by decide +kernel)⟩
abbrev yy_X4_open : aY := (yX4_open, cX4_open, 4, (some .int))
theorem mk_X4_open : MK yy_X4_open := ⟨(tb_in 649 (by decide +kernel) (by decide +kernel)), (tb_in 7 (by decide +kernel) (by decide +kernel)), (by decide +kernel), (by decide +kernel)⟩
abbrev yy_X4_marksAbove : aY := (yX4_marksAbove, cX4_marksAbove, 4, (some .int))
theorem mk_X4_marksAbove : MK yy_X4_marksAbove := ⟨(tb_in 645 (by decide +kernel) (by decide +kernel)), (tb_in 7 (by decide +kernel) (by decide +kernel)), (by decide +kernel), (by decide +kernel)⟩
abbrev yy_X4_marksEven : aY := (yX4_marksEven, cX4_marksEven, 4, (some .int))
theorem mk_X4_marksEven : MK yy_X4_marksEven := ⟨(tb_in 653 (by decide +kernel) (by decide +kernel)), (tb_in 7 (by decide +kernel) (by decide +kernel)), (by decide +kernel), (by decide +kernel)⟩
abbrev yy_X4_marksTurnedBy : aY := (yX4_marksTurnedBy, cX4_marksTurnedBy, 8, (some .int))
theorem mk_X4_marksTurnedBy : MK yy_X4_marksTurnedBy := ⟨(tb_in 861 (by decide +kernel) (by decide +kernel)), (tb_in 7 (by decide +kernel) (by decide +kernel)), (by decide +kernel), (by decide +kernel)⟩
abbrev yy_X5_init : aY := (yX5_init, cX5_init, 1, none)
theorem mk_X5_init : MK yy_X5_init := ⟨(tb_in 273 (by decide +kernel) (by decide +kernel)), (tb_in 9 (by decide +kernel) (by decide +kernel)), (by decide +kernel), (by decide +kernel)⟩
abbrev yy_X5_plan : aY := (yX5_plan, cX5_plan, 6, none)
theorem mk_X5_plan : MK yy_X5_plan := ⟨(tb_in 897 (by decide +kernel) (by decide +kernel)), (tb_in 9 (by decide +kernel) (by decide +kernel)), (by decide +kernel), (by decide +kernel)⟩
abbrev yy_X5_addWorths : aY := (yX5_addWorths, cX5_addWorths, 5, none)
theorem mk_X5_addWorths : MK yy_X5_addWorths := ⟨(tb_in 903 (by decide +kernel) (by decide +kernel)), (tb_in 9 (by decide +kernel) (by decide +kernel)), (by decide +kernel), (by decide +kernel)⟩
abbrev yy_X5_start : aY := (yX5_start, cX5_start, 3, (some .int))
theorem mk_X5_start : MK yy_X5_start := ⟨(tb_in 911 (by decide +kernel) (by decide +kernel)), (tb_in 9 (by decide +kernel) (by decide +kernel)), (by decide +kernel), (by decide +kernel)⟩
abbrev yy_X5_served : aY := (yX5_served, cX5_served, 5, (some .int))
theorem mk_X5_served : MK yy_X5_served := ⟨(tb_in 918 (by decide +kernel) (by decide +kernel)), (tb_in 9 (by decide +kernel) (by decide +kernel)), (by decide +kernel), (by decide +kernel)⟩
abbrev yy_X5_canGo : aY := (yX5_canGo, cX5_canGo, 3, (some .boolean))
theorem mk_X5_canGo : MK yy_X5_canGo := ⟨(tb_in 914 (by decide +kernel) (by decide +kernel)), (tb_in 9 (by decide +kernel) (by decide +kernel)), (by decide +kernel), (by decide +kernel)⟩
abbrev yy_X5_gather : aY := (yX5_gather, cX5_gather, 9, none)
theorem mk_X5_gather : MK yy_X5_gather := ⟨(tb_in 908 (by decide +kernel) (by decide +kernel)), (tb_in 9 (by decide +kernel) (by decide +kernel)), (by decide +kernel), (by decide +kernel)⟩
abbrev yy_X5_serve : aY := (yX5_serve, cX5_serve, 4, none)
theorem mk_X5_serve : MK yy_X5_serve := ⟨(tb_in 922 (by decide +kernel) (by decide +kernel)), (tb_in 9 (by decide +kernel) (by decide +kernel)), (by decide +kernel), (by decide +kernel)⟩
abbrev yy_X5_serveWithinWords : aY := (yX5_serveWithinWords, cX5_serveWithinWords, 6, none)
theorem mk_X5_serveWithinWords : MK yy_X5_serveWithinWords := ⟨(tb_in 926 (by decide +kernel) (by decide +kernel)), (tb_in 9 (by decide +kernel) (by decide +kernel)), (by decide +kernel), (by decide +kernel)⟩
abbrev yy_X5_serveByWords : aY := (yX5_serveByWords, cX5_serveByWords, 4, none)
theorem mk_X5_serveByWords : MK yy_X5_serveByWords := ⟨(tb_in 933 (by decide +kernel) (by decide +kernel)), (tb_in 9 (by decide +kernel) (by decide +kernel)), (by decide +kernel), (by decide +kernel)⟩
abbrev yy_X5_mostWith : aY := (yX5_mostWith, cX5_mostWith, 8, (some .int))
theorem mk_X5_mostWith : MK yy_X5_mostWith := ⟨(tb_in 941 (by decide +kernel) (by decide +kernel)), (tb_in 9 (by decide +kernel) (by decide +kernel)), (by decide +kernel), (by decide +kernel)⟩
abbrev yy_X5_follow : aY := (yX5_follow, cX5_follow, 7, none)
theorem mk_X5_follow : MK yy_X5_follow := ⟨(tb_in 937 (by decide +kernel) (by decide +kernel)), (tb_in 9 (by decide +kernel) (by decide +kernel)), (by decide +kernel), (by decide +kernel)⟩
abbrev yy_X6_init : aY := (yX6_init, cX6_init, 3, none)
theorem mk_X6_init : MK yy_X6_init := ⟨(tb_in 119 (by decide +kernel) (by decide +kernel)), (tb_in 5 (by decide +kernel) (by decide +kernel)), (by decide +kernel), (by decide +kernel)⟩
abbrev yy_X6_has : aY := (yX6_has, cX6_has, 2, (some .boolean))
theorem mk_X6_has : MK yy_X6_has := ⟨(tb_in 578 (by decide +kernel) (by decide +kernel)), (tb_in 5 (by decide +kernel) (by decide +kernel)), (by decide +kernel), (by decide +kernel)⟩
abbrev yy_X6_isFull : aY := (yX6_isFull, cX6_isFull, 1, (some .boolean))
theorem mk_X6_isFull : MK yy_X6_isFull := ⟨(tb_in 692 (by decide +kernel) (by decide +kernel)), (tb_in 5 (by decide +kernel) (by decide +kernel)), (by decide +kernel), (by decide +kernel)⟩
abbrev yy_X6_at : aY := (yX6_at, cX6_at, 3, (some .int))
theorem mk_X6_at : MK yy_X6_at := ⟨(tb_in 574 (by decide +kernel) (by decide +kernel)), (tb_in 5 (by decide +kernel) (by decide +kernel)), (by decide +kernel), (by decide +kernel)⟩
abbrev yy_X6_addRow : aY := (yX6_addRow, cX6_addRow, 1, none)
theorem mk_X6_addRow : MK yy_X6_addRow := ⟨(tb_in 727 (by decide +kernel) (by decide +kernel)), (tb_in 5 (by decide +kernel) (by decide +kernel)), (by decide +kernel), (by decide +kernel)⟩
abbrev yy_X6_put : aY := (yX6_put, cX6_put, 3, none)
theorem mk_X6_put : MK yy_X6_put := ⟨(tb_in 731 (by decide +kernel) (by decide +kernel)), (tb_in 5 (by decide +kernel) (by decide +kernel)), (by decide +kernel), (by decide +kernel)⟩
abbrev yy_X6_cutTo : aY := (yX6_cutTo, cX6_cutTo, 2, none)
theorem mk_X6_cutTo : MK yy_X6_cutTo := ⟨(tb_in 369 (by decide +kernel) (by decide +kernel)), (tb_in 5 (by decide +kernel) (by decide +kernel)), (by decide +kernel), (by decide +kernel)⟩
abbrev yy_X6_copyFrom : aY := (yX6_copyFrom, cX6_copyFrom, 3, none)
theorem mk_X6_copyFrom : MK yy_X6_copyFrom := ⟨(tb_in 1006 (by decide +kernel) (by decide +kernel)), (tb_in 5 (by decide +kernel) (by decide +kernel)), (by decide +kernel), (by decide +kernel)⟩
abbrev yy_X7_init : aY := (yX7_init, cX7_init, 1, none)
theorem mk_X7_init : MK yy_X7_init := ⟨(tb_in 79 (by decide +kernel) (by decide +kernel)), (tb_in 3 (by decide +kernel) (by decide +kernel)), (by decide +kernel), (by decide +kernel)⟩
abbrev yy_X7_clear : aY := (yX7_clear, cX7_clear, 1, none)
theorem mk_X7_clear : MK yy_X7_clear := ⟨(tb_in 513 (by decide +kernel) (by decide +kernel)), (tb_in 3 (by decide +kernel) (by decide +kernel)), (by decide +kernel), (by decide +kernel)⟩
abbrev yy_X7_addCode : aY := (yX7_addCode, cX7_addCode, 2, none)
theorem mk_X7_addCode : MK yy_X7_addCode := ⟨(tb_in 529 (by decide +kernel) (by decide +kernel)), (tb_in 3 (by decide +kernel) (by decide +kernel)), (by decide +kernel), (by decide +kernel)⟩
abbrev yy_X7_addClause : aY := (yX7_addClause, cX7_addClause, 4, none)
theorem mk_X7_addClause : MK yy_X7_addClause := ⟨(tb_in 545 (by decide +kernel) (by decide +kernel)), (tb_in 3 (by decide +kernel) (by decide +kernel)), (by decide +kernel), (by decide +kernel)⟩
abbrev yy_X7_chosen : aY := (yX7_chosen, cX7_chosen, 8, (some .int))
theorem mk_X7_chosen : MK yy_X7_chosen := ⟨(tb_in 621 (by decide +kernel) (by decide +kernel)), (tb_in 3 (by decide +kernel) (by decide +kernel)), (by decide +kernel), (by decide +kernel)⟩
abbrev yy_X7_reckoned : aY := (yX7_reckoned, cX7_reckoned, 8, (some .long))
theorem mk_X7_reckoned : MK yy_X7_reckoned := ⟨(tb_in 625 (by decide +kernel) (by decide +kernel)), (tb_in 3 (by decide +kernel) (by decide +kernel)), (by decide +kernel), (by decide +kernel)⟩
abbrev yy_X7_joined : aY := (yX7_joined, cX7_joined, 5, (some .long))
theorem mk_X7_joined : MK yy_X7_joined := ⟨(tb_in 631 (by decide +kernel) (by decide +kernel)), (tb_in 3 (by decide +kernel) (by decide +kernel)), (by decide +kernel), (by decide +kernel)⟩
abbrev yy_X8_readAll : aY := (yX8_readAll, cX8_readAll, 3, none)
theorem mk_X8_readAll : MK yy_X8_readAll := ⟨(tb_in 509 (by decide +kernel) (by decide +kernel)), (tb_in 17 (by decide +kernel) (by decide +kernel)), (by decide +kernel), (by decide +kernel)⟩
abbrev yy_X8_readClause : aY := (yX8_readClause, cX8_readClause, 6, none)
theorem mk_X8_readClause : MK yy_X8_readClause := ⟨(tb_in 517 (by decide +kernel) (by decide +kernel)), (tb_in 17 (by decide +kernel) (by decide +kernel)), (by decide +kernel), (by decide +kernel)⟩
abbrev yy_X8_readTest : aY := (yX8_readTest, cX8_readTest, 6, none)
theorem mk_X8_readTest : MK yy_X8_readTest := ⟨(tb_in 532 (by decide +kernel) (by decide +kernel)), (tb_in 17 (by decide +kernel) (by decide +kernel)), (by decide +kernel), (by decide +kernel)⟩
abbrev yy_X8_readFact : aY := (yX8_readFact, cX8_readFact, 4, none)
theorem mk_X8_readFact : MK yy_X8_readFact := ⟨(tb_in 535 (by decide +kernel) (by decide +kernel)), (tb_in 17 (by decide +kernel) (by decide +kernel)), (by decide +kernel), (by decide +kernel)⟩
abbrev yy_X8_readOpened : aY := (yX8_readOpened, cX8_readOpened, 4, none)
theorem mk_X8_readOpened : MK yy_X8_readOpened := ⟨(tb_in 538 (by decide +kernel) (by decide +kernel)), (tb_in 17 (by decide +kernel) (by decide +kernel)), (by decide +kernel), (by decide +kernel)⟩
abbrev yy_X8_isComparing : aY := (yX8_isComparing, cX8_isComparing, 1, (some .boolean))
theorem mk_X8_isComparing : MK yy_X8_isComparing := ⟨(tb_in 541 (by decide +kernel) (by decide +kernel)), (tb_in 17 (by decide +kernel) (by decide +kernel)), (by decide +kernel), (by decide +kernel)⟩
abbrev yy_X8_readSum : aY := (yX8_readSum, cX8_readSum, 6, none)
theorem mk_X8_readSum : MK yy_X8_readSum := ⟨(tb_in 522 (by decide +kernel) (by decide +kernel)), (tb_in 17 (by decide +kernel) (by decide +kernel)), (by decide +kernel), (by decide +kernel)⟩
abbrev yy_X8_readValue : aY := (yX8_readValue, cX8_readValue, 4, none)
theorem mk_X8_readValue : MK yy_X8_readValue := ⟨(tb_in 525 (by decide +kernel) (by decide +kernel)), (tb_in 17 (by decide +kernel) (by decide +kernel)), (by decide +kernel), (by decide +kernel)⟩
abbrev yy_X9_init : aY := (yX9_init, cX9_init, 1, none)
theorem mk_X9_init : MK yy_X9_init := ⟨(tb_in 249 (by decide +kernel) (by decide +kernel)), (tb_in 8 (by decide +kernel) (by decide +kernel)), (by decide +kernel), (by decide +kernel)⟩
abbrev yy_X9_set : aY := (yX9_set, cX9_set, 6, none)
theorem mk_X9_set : MK yy_X9_set := ⟨(tb_in 612 (by decide +kernel) (by decide +kernel)), (tb_in 8 (by decide +kernel) (by decide +kernel)), (by decide +kernel), (by decide +kernel)⟩
abbrev yy_X9_setAs : aY := (yX9_setAs, cX9_setAs, 4, none)
theorem mk_X9_setAs : MK yy_X9_setAs := ⟨(tb_in 607 (by decide +kernel) (by decide +kernel)), (tb_in 8 (by decide +kernel) (by decide +kernel)), (by decide +kernel), (by decide +kernel)⟩
abbrev yy_X10_init : aY := (yX10_init, cX10_init, 1, none)
theorem mk_X10_init : MK yy_X10_init := ⟨(tb_in 33 (by decide +kernel) (by decide +kernel)), (tb_in 2 (by decide +kernel) (by decide +kernel)), (by decide +kernel), (by decide +kernel)⟩
abbrev yy_X10_append : aY := (yX10_append, cX10_append, 3, none)
theorem mk_X10_append : MK yy_X10_append := ⟨(tb_in 350 (by decide +kernel) (by decide +kernel)), (tb_in 2 (by decide +kernel) (by decide +kernel)), (by decide +kernel), (by decide +kernel)⟩
abbrev yy_X10_scan : aY := (yX10_scan, cX10_scan, 3, none)
theorem mk_X10_scan : MK yy_X10_scan := ⟨(tb_in 373 (by decide +kernel) (by decide +kernel)), (tb_in 2 (by decide +kernel) (by decide +kernel)), (by decide +kernel), (by decide +kernel)⟩
abbrev yy_X10_scanOne : aY := (yX10_scanOne, cX10_scanOne, 3, (some .int))
theorem mk_X10_scanOne : MK yy_X10_scanOne := ⟨(tb_in 377 (by decide +kernel) (by decide +kernel)), (tb_in 2 (by decide +kernel) (by decide +kernel)), (by decide +kernel), (by decide +kernel)⟩
abbrev yy_X10_scanNumber : aY := (yX10_scanNumber, cX10_scanNumber, 5, (some .int))
theorem mk_X10_scanNumber : MK yy_X10_scanNumber := ⟨(tb_in 388 (by decide +kernel) (by decide +kernel)), (tb_in 2 (by decide +kernel) (by decide +kernel)), (by decide +kernel), (by decide +kernel)⟩
abbrev yy_X10_scanWord : aY := (yX10_scanWord, cX10_scanWord, 4, (some .int))
theorem mk_X10_scanWord : MK yy_X10_scanWord := ⟨(tb_in 399 (by decide +kernel) (by decide +kernel)), (tb_in 2 (by decide +kernel) (by decide +kernel)), (by decide +kernel), (by decide +kernel)⟩
abbrev yy_X10_wordOf : aY := (yX10_wordOf, cX10_wordOf, 6, (some .int))
theorem mk_X10_wordOf : MK yy_X10_wordOf := ⟨(tb_in 403 (by decide +kernel) (by decide +kernel)), (tb_in 2 (by decide +kernel) (by decide +kernel)), (by decide +kernel), (by decide +kernel)⟩
abbrev yy_X10_isWordAt : aY := (yX10_isWordAt, cX10_isWordAt, 5, (some .boolean))
theorem mk_X10_isWordAt : MK yy_X10_isWordAt := ⟨(tb_in 456 (by decide +kernel) (by decide +kernel)), (tb_in 2 (by decide +kernel) (by decide +kernel)), (by decide +kernel), (by decide +kernel)⟩
abbrev yy_X10_byteAt : aY := (yX10_byteAt, cX10_byteAt, 2, (some .int))
theorem mk_X10_byteAt : MK yy_X10_byteAt := ⟨(tb_in 381 (by decide +kernel) (by decide +kernel)), (tb_in 2 (by decide +kernel) (by decide +kernel)), (by decide +kernel), (by decide +kernel)⟩
abbrev yy_X10_isDigit : aY := (yX10_isDigit, cX10_isDigit, 1, (some .boolean))
theorem mk_X10_isDigit : MK yy_X10_isDigit := ⟨(tb_in 384 (by decide +kernel) (by decide +kernel)), (tb_in 2 (by decide +kernel) (by decide +kernel)), (by decide +kernel), (by decide +kernel)⟩
abbrev yy_X10_isLetter : aY := (yX10_isLetter, cX10_isLetter, 1, (some .boolean))
theorem mk_X10_isLetter : MK yy_X10_isLetter := ⟨(tb_in 395 (by decide +kernel) (by decide +kernel)), (tb_in 2 (by decide +kernel) (by decide +kernel)), (by decide +kernel), (by decide +kernel)⟩
abbrev yy_X10_addToken : aY := (yX10_addToken, cX10_addToken, 4, none)
theorem mk_X10_addToken : MK yy_X10_addToken := ⟨(tb_in 392 (by decide +kernel) (by decide +kernel)), (tb_in 2 (by decide +kernel) (by decide +kernel)), (by decide +kernel), (by decide +kernel)⟩
abbrev yy_X10_step : aY := (yX10_step, cX10_step, 1, none)
theorem mk_X10_step : MK yy_X10_step := ⟨(tb_in 467 (by decide +kernel) (by decide +kernel)), (tb_in 2 (by decide +kernel) (by decide +kernel)), (by decide +kernel), (by decide +kernel)⟩
abbrev yy_X10_refuse : aY := (yX10_refuse, cX10_refuse, 2, none)
theorem mk_X10_refuse : MK yy_X10_refuse := ⟨(tb_in 463 (by decide +kernel) (by decide +kernel)), (tb_in 2 (by decide +kernel) (by decide +kernel)), (by decide +kernel), (by decide +kernel)⟩
abbrev yy_X10_takeNumber : aY := (yX10_takeNumber, cX10_takeNumber, 4, (some .int))
theorem mk_X10_takeNumber : MK yy_X10_takeNumber := ⟨(tb_in 471 (by decide +kernel) (by decide +kernel)), (tb_in 2 (by decide +kernel) (by decide +kernel)), (by decide +kernel), (by decide +kernel)⟩
abbrev yy_X11_init : aY := (yX11_init, cX11_init, 2, none)
theorem mk_X11_init : MK yy_X11_init := ⟨(tb_in 25 (by decide +kernel) (by decide +kernel)), (tb_in 1 (by decide +kernel) (by decide +kernel)), (by decide +kernel), (by decide +kernel)⟩
abbrev yy_X11_feed : aY := (yX11_feed, cX11_feed, 6, (some .int))
theorem mk_X11_feed : MK yy_X11_feed := ⟨(tb_in 346 (by decide +kernel) (by decide +kernel)), (tb_in 1 (by decide +kernel) (by decide +kernel)), (by decide +kernel), (by decide +kernel)⟩
abbrev yy_X11_end : aY := (yX11_end, cX11_end, 2, (some .int))
theorem mk_X11_end : MK yy_X11_end := ⟨(tb_in 354 (by decide +kernel) (by decide +kernel)), (tb_in 1 (by decide +kernel) (by decide +kernel)), (by decide +kernel), (by decide +kernel)⟩
abbrev yy_X11_island : aY := (yX11_island, cX11_island, 2, (some .int))
theorem mk_X11_island : MK yy_X11_island := ⟨(tb_in 358 (by decide +kernel) (by decide +kernel)), (tb_in 1 (by decide +kernel) (by decide +kernel)), (by decide +kernel), (by decide +kernel)⟩
abbrev yy_X11_rule : aY := (yX11_rule, cX11_rule, 1, (some .int))
theorem mk_X11_rule : MK yy_X11_rule := ⟨(tb_in 506 (by decide +kernel) (by decide +kernel)), (tb_in 1 (by decide +kernel) (by decide +kernel)), (by decide +kernel), (by decide +kernel)⟩
abbrev yy_X11_force : aY := (yX11_force, cX11_force, 3, (some .int))
theorem mk_X11_force : MK yy_X11_force := ⟨(tb_in 549 (by decide +kernel) (by decide +kernel)), (tb_in 1 (by decide +kernel) (by decide +kernel)), (by decide +kernel), (by decide +kernel)⟩
abbrev yy_X11_person : aY := (yX11_person, cX11_person, 3, (some .int))
theorem mk_X11_person : MK yy_X11_person := ⟨(tb_in 561 (by decide +kernel) (by decide +kernel)), (tb_in 1 (by decide +kernel) (by decide +kernel)), (by decide +kernel), (by decide +kernel)⟩
abbrev yy_X11_sum : aY := (yX11_sum, cX11_sum, 3, (some .int))
theorem mk_X11_sum : MK yy_X11_sum := ⟨(tb_in 657 (by decide +kernel) (by decide +kernel)), (tb_in 1 (by decide +kernel) (by decide +kernel)), (by decide +kernel), (by decide +kernel)⟩
abbrev yy_X11_tie : aY := (yX11_tie, cX11_tie, 3, (some .int))
theorem mk_X11_tie : MK yy_X11_tie := ⟨(tb_in 667 (by decide +kernel) (by decide +kernel)), (tb_in 1 (by decide +kernel) (by decide +kernel)), (by decide +kernel), (by decide +kernel)⟩
abbrev yy_X11_telling : aY := (yX11_telling, cX11_telling, 3, (some .int))
theorem mk_X11_telling : MK yy_X11_telling := ⟨(tb_in 673 (by decide +kernel) (by decide +kernel)), (tb_in 1 (by decide +kernel) (by decide +kernel)), (by decide +kernel), (by decide +kernel)⟩
abbrev yy_X11_tell : aY := (yX11_tell, cX11_tell, 7, (some .int))
theorem mk_X11_tell : MK yy_X11_tell := ⟨(tb_in 680 (by decide +kernel) (by decide +kernel)), (tb_in 1 (by decide +kernel) (by decide +kernel)), (by decide +kernel), (by decide +kernel)⟩
abbrev yy_X11_retell : aY := (yX11_retell, cX11_retell, 7, (some .int))
theorem mk_X11_retell : MK yy_X11_retell := ⟨(tb_in 735 (by decide +kernel) (by decide +kernel)), (tb_in 1 (by decide +kernel) (by decide +kernel)), (by decide +kernel), (by decide +kernel)⟩
abbrev yy_X11_look : aY := (yX11_look, cX11_look, 1, (some .int))
theorem mk_X11_look : MK yy_X11_look := ⟨(tb_in 744 (by decide +kernel) (by decide +kernel)), (tb_in 1 (by decide +kernel) (by decide +kernel)), (by decide +kernel), (by decide +kernel)⟩
abbrev yy_X11_give : aY := (yX11_give, cX11_give, 2, (some .int))
theorem mk_X11_give : MK yy_X11_give := ⟨(tb_in 754 (by decide +kernel) (by decide +kernel)), (tb_in 1 (by decide +kernel) (by decide +kernel)), (by decide +kernel), (by decide +kernel)⟩
abbrev yy_X11_save : aY := (yX11_save, cX11_save, 1, (some .int))
theorem mk_X11_save : MK yy_X11_save := ⟨(tb_in 763 (by decide +kernel) (by decide +kernel)), (tb_in 1 (by decide +kernel) (by decide +kernel)), (by decide +kernel), (by decide +kernel)⟩
abbrev yy_X11_sell : aY := (yX11_sell, cX11_sell, 4, (some .int))
theorem mk_X11_sell : MK yy_X11_sell := ⟨(tb_in 767 (by decide +kernel) (by decide +kernel)), (tb_in 1 (by decide +kernel) (by decide +kernel)), (by decide +kernel), (by decide +kernel)⟩
abbrev yy_X11_spend : aY := (yX11_spend, cX11_spend, 2, (some .int))
theorem mk_X11_spend : MK yy_X11_spend := ⟨(tb_in 771 (by decide +kernel) (by decide +kernel)), (tb_in 1 (by decide +kernel) (by decide +kernel)), (by decide +kernel), (by decide +kernel)⟩
abbrev yy_X11_keep : aY := (yX11_keep, cX11_keep, 2, (some .boolean))
theorem mk_X11_keep : MK yy_X11_keep := ⟨(tb_in 775 (by decide +kernel) (by decide +kernel)), (tb_in 1 (by decide +kernel) (by decide +kernel)), (by decide +kernel), (by decide +kernel)⟩
abbrev yy_X11_rest : aY := (yX11_rest, cX11_rest, 1, (some .int))
theorem mk_X11_rest : MK yy_X11_rest := ⟨(tb_in 779 (by decide +kernel) (by decide +kernel)), (tb_in 1 (by decide +kernel) (by decide +kernel)), (by decide +kernel), (by decide +kernel)⟩
abbrev yy_X11_undo : aY := (yX11_undo, cX11_undo, 1, (some .int))
theorem mk_X11_undo : MK yy_X11_undo := ⟨(tb_in 783 (by decide +kernel) (by decide +kernel)), (tb_in 1 (by decide +kernel) (by decide +kernel)), (by decide +kernel), (by decide +kernel)⟩
abbrev yy_X11_run : aY := (yX11_run, cX11_run, 4, (some .int))
theorem mk_X11_run : MK yy_X11_run := ⟨(tb_in 793 (by decide +kernel) (by decide +kernel)), (tb_in 1 (by decide +kernel) (by decide +kernel)), (by decide +kernel), (by decide +kernel)⟩
abbrev yy_X11_lean : aY := (yX11_lean, cX11_lean, 2, (some .int))
theorem mk_X11_lean : MK yy_X11_lean := ⟨(tb_in 819 (by decide +kernel) (by decide +kernel)), (tb_in 1 (by decide +kernel) (by decide +kernel)), (by decide +kernel), (by decide +kernel)⟩
abbrev yy_X11_likeliest : aY := (yX11_likeliest, cX11_likeliest, 3, (some .int))
theorem mk_X11_likeliest : MK yy_X11_likeliest := ⟨(tb_in 833 (by decide +kernel) (by decide +kernel)), (tb_in 1 (by decide +kernel) (by decide +kernel)), (by decide +kernel), (by decide +kernel)⟩
abbrev yy_X11_flatters : aY := (yX11_flatters, cX11_flatters, 3, (some .int))
theorem mk_X11_flatters : MK yy_X11_flatters := ⟨(tb_in 844 (by decide +kernel) (by decide +kernel)), (tb_in 1 (by decide +kernel) (by decide +kernel)), (by decide +kernel), (by decide +kernel)⟩
abbrev yy_X11_ask : aY := (yX11_ask, cX11_ask, 7, (some .int))
theorem mk_X11_ask : MK yy_X11_ask := ⟨(tb_in 857 (by decide +kernel) (by decide +kernel)), (tb_in 1 (by decide +kernel) (by decide +kernel)), (by decide +kernel), (by decide +kernel)⟩
abbrev yy_X11_chain : aY := (yX11_chain, cX11_chain, 3, (some .int))
theorem mk_X11_chain : MK yy_X11_chain := ⟨(tb_in 868 (by decide +kernel) (by decide +kernel)), (tb_in 1 (by decide +kernel) (by decide +kernel)), (by decide +kernel), (by decide +kernel)⟩
abbrev yy_X11_slip : aY := (yX11_slip, cX11_slip, 4, (some .int))
theorem mk_X11_slip : MK yy_X11_slip := ⟨(tb_in 876 (by decide +kernel) (by decide +kernel)), (tb_in 1 (by decide +kernel) (by decide +kernel)), (by decide +kernel), (by decide +kernel)⟩
abbrev yy_X11_wish : aY := (yX11_wish, cX11_wish, 5, (some .int))
theorem mk_X11_wish : MK yy_X11_wish := ⟨(tb_in 884 (by decide +kernel) (by decide +kernel)), (tb_in 1 (by decide +kernel) (by decide +kernel)), (by decide +kernel), (by decide +kernel)⟩
abbrev yy_X11_round : aY := (yX11_round, cX11_round, 3, (some .int))
theorem mk_X11_round : MK yy_X11_round := ⟨(tb_in 893 (by decide +kernel) (by decide +kernel)), (tb_in 1 (by decide +kernel) (by decide +kernel)), (by decide +kernel), (by decide +kernel)⟩
abbrev yy_X11_view : aY := (yX11_view, cX11_view, 3, (some .int))
theorem mk_X11_view : MK yy_X11_view := ⟨(tb_in 945 (by decide +kernel) (by decide +kernel)), (tb_in 1 (by decide +kernel) (by decide +kernel)), (by decide +kernel), (by decide +kernel)⟩
abbrev yy_X11_fits : aY := (yX11_fits, cX11_fits, 2, (some .int))
theorem mk_X11_fits : MK yy_X11_fits := ⟨(tb_in 953 (by decide +kernel) (by decide +kernel)), (tb_in 1 (by decide +kernel) (by decide +kernel)), (by decide +kernel), (by decide +kernel)⟩
abbrev yy_X11_views : aY := (yX11_views, cX11_views, 2, (some .int))
theorem mk_X11_views : MK yy_X11_views := ⟨(tb_in 965 (by decide +kernel) (by decide +kernel)), (tb_in 1 (by decide +kernel) (by decide +kernel)), (by decide +kernel), (by decide +kernel)⟩
abbrev yy_X11_seed : aY := (yX11_seed, cX11_seed, 3, (some .int))
theorem mk_X11_seed : MK yy_X11_seed := ⟨(tb_in 993 (by decide +kernel) (by decide +kernel)), (tb_in 1 (by decide +kernel) (by decide +kernel)), (by decide +kernel), (by decide +kernel)⟩
abbrev yy_X11_drawn : aY := (yX11_drawn, cX11_drawn, 9, (some .int))
theorem mk_X11_drawn : MK yy_X11_drawn := ⟨(tb_in 997 (by decide +kernel) (by decide +kernel)), (tb_in 1 (by decide +kernel) (by decide +kernel)), (by decide +kernel), (by decide +kernel)⟩
abbrev yy_X11_count : aY := (yX11_count, cX11_count, 2, (some .int))
theorem mk_X11_count : MK yy_X11_count := ⟨(tb_in 1037 (by decide +kernel) (by decide +kernel)), (tb_in 1 (by decide +kernel) (by decide +kernel)), (by decide +kernel), (by decide +kernel)⟩
abbrev yy_X11_image : aY := (yX11_image, cX11_image, 2, (some .int))
theorem mk_X11_image : MK yy_X11_image := ⟨(tb_in 1041 (by decide +kernel) (by decide +kernel)), (tb_in 1 (by decide +kernel) (by decide +kernel)), (by decide +kernel), (by decide +kernel)⟩
abbrev yy_X11_back : aY := (yX11_back, cX11_back, 2, (some .int))
theorem mk_X11_back : MK yy_X11_back := ⟨(tb_in 1045 (by decide +kernel) (by decide +kernel)), (tb_in 1 (by decide +kernel) (by decide +kernel)), (by decide +kernel), (by decide +kernel)⟩
abbrev yy_X11_isRule : aY := (yX11_isRule, cX11_isRule, 2, (some .boolean))
theorem mk_X11_isRule : MK yy_X11_isRule := ⟨(tb_in 557 (by decide +kernel) (by decide +kernel)), (tb_in 1 (by decide +kernel) (by decide +kernel)), (by decide +kernel), (by decide +kernel)⟩
abbrev yy_X11_isRuleOrNone : aY := (yX11_isRuleOrNone, cX11_isRuleOrNone, 2, (some .boolean))
theorem mk_X11_isRuleOrNone : MK yy_X11_isRuleOrNone := ⟨(tb_in 553 (by decide +kernel) (by decide +kernel)), (tb_in 1 (by decide +kernel) (by decide +kernel)), (by decide +kernel), (by decide +kernel)⟩
abbrev yy_X11_ruleAt : aY := (yX11_ruleAt, cX11_ruleAt, 2, (some (.object "OneMirror$Rule")))
theorem mk_X11_ruleAt : MK yy_X11_ruleAt := ⟨(tb_in 586 (by decide +kernel) (by decide +kernel)), (tb_in 1 (by decide +kernel) (by decide +kernel)), (by decide +kernel), (by decide +kernel)⟩
abbrev yy_X11_inForce : aY := (yX11_inForce, cX11_inForce, 1, (some (.object "OneMirror$Rule")))
theorem mk_X11_inForce : MK yy_X11_inForce := ⟨(tb_in 582 (by decide +kernel) (by decide +kernel)), (tb_in 1 (by decide +kernel) (by decide +kernel)), (by decide +kernel), (by decide +kernel)⟩
abbrev yy_X11_canAct : aY := (yX11_canAct, cX11_canAct, 1, (some .boolean))
theorem mk_X11_canAct : MK yy_X11_canAct := ⟨(tb_in 688 (by decide +kernel) (by decide +kernel)), (tb_in 1 (by decide +kernel) (by decide +kernel)), (by decide +kernel), (by decide +kernel)⟩
abbrev yy_X11_canTell : aY := (yX11_canTell, cX11_canTell, 1, (some .boolean))
theorem mk_X11_canTell : MK yy_X11_canTell := ⟨(tb_in 684 (by decide +kernel) (by decide +kernel)), (tb_in 1 (by decide +kernel) (by decide +kernel)), (by decide +kernel), (by decide +kernel)⟩
abbrev yy_X11_runHour : aY := (yX11_runHour, cX11_runHour, 4, none)
theorem mk_X11_runHour : MK yy_X11_runHour := ⟨(tb_in 797 (by decide +kernel) (by decide +kernel)), (tb_in 1 (by decide +kernel) (by decide +kernel)), (by decide +kernel), (by decide +kernel)⟩
abbrev yy_X11_tellWhoHeedsMost : aY := (yX11_tellWhoHeedsMost, cX11_tellWhoHeedsMost, 5, none)
theorem mk_X11_tellWhoHeedsMost : MK yy_X11_tellWhoHeedsMost := ⟨(tb_in 805 (by decide +kernel) (by decide +kernel)), (tb_in 1 (by decide +kernel) (by decide +kernel)), (by decide +kernel), (by decide +kernel)⟩
abbrev yy_X11_drawHour : aY := (yX11_drawHour, cX11_drawHour, 8, none)
theorem mk_X11_drawHour : MK yy_X11_drawHour := ⟨(tb_in 1012 (by decide +kernel) (by decide +kernel)), (tb_in 1 (by decide +kernel) (by decide +kernel)), (by decide +kernel), (by decide +kernel)⟩
abbrev yy_X11_drawSlips : aY := (yX11_drawSlips, cX11_drawSlips, 5, (some .int))
theorem mk_X11_drawSlips : MK yy_X11_drawSlips := ⟨(tb_in 1024 (by decide +kernel) (by decide +kernel)), (tb_in 1 (by decide +kernel) (by decide +kernel)), (by decide +kernel), (by decide +kernel)⟩
abbrev yy_X11_peopleWhoKnow : aY := (yX11_peopleWhoKnow, cX11_peopleWhoKnow, 4, (some .int))
theorem mk_X11_peopleWhoKnow : MK yy_X11_peopleWhoKnow := ⟨(tb_in 1028 (by decide +kernel) (by decide +kernel)), (tb_in 1 (by decide +kernel) (by decide +kernel)), (by decide +kernel), (by decide +kernel)⟩
abbrev yy_X11_marksOpen : aY := (yX11_marksOpen, cX11_marksOpen, 4, (some .int))
theorem mk_X11_marksOpen : MK yy_X11_marksOpen := ⟨(tb_in 1032 (by decide +kernel) (by decide +kernel)), (tb_in 1 (by decide +kernel) (by decide +kernel)), (by decide +kernel), (by decide +kernel)⟩
abbrev yy_X12_init : aY := (yX12_init, cX12_init, 1, none)
theorem mk_X12_init : MK yy_X12_init := ⟨(tb_in 1050 (by decide +kernel) (by decide +kernel)), (tb_in 11 (by decide +kernel) (by decide +kernel)), (by decide +kernel), (by decide +kernel)⟩
abbrev yy_X12_in : aY := (yX12_in, cX12_in, 6, (some .boolean))
theorem mk_X12_in : MK yy_X12_in := ⟨(tb_in 1233 (by decide +kernel) (by decide +kernel)), (tb_in 11 (by decide +kernel) (by decide +kernel)), (by decide +kernel), (by decide +kernel)⟩
abbrev yy_X12_isOf : aY := (yX12_isOf, cX12_isOf, 2, (some .boolean))
theorem mk_X12_isOf : MK yy_X12_isOf := ⟨(tb_in 1367 (by decide +kernel) (by decide +kernel)), (tb_in 11 (by decide +kernel) (by decide +kernel)), (by decide +kernel), (by decide +kernel)⟩
abbrev yy_X12_bits : aY := (yX12_bits, cX12_bits, 3, (some .int))
theorem mk_X12_bits : MK yy_X12_bits := ⟨(tb_in 1532 (by decide +kernel) (by decide +kernel)), (tb_in 11 (by decide +kernel) (by decide +kernel)), (by decide +kernel), (by decide +kernel)⟩
abbrev yy_X12_four : aY := (yX12_four, cX12_four, 3, none)
theorem mk_X12_four : MK yy_X12_four := ⟨(tb_in 1163 (by decide +kernel) (by decide +kernel)), (tb_in 11 (by decide +kernel) (by decide +kernel)), (by decide +kernel), (by decide +kernel)⟩
abbrev yy_X12_feed : aY := (yX12_feed, cX12_feed, 6, (some .int))
theorem mk_X12_feed : MK yy_X12_feed := ⟨(tb_in 1159 (by decide +kernel) (by decide +kernel)), (tb_in 11 (by decide +kernel) (by decide +kernel)), (by decide +kernel), (by decide +kernel)⟩
abbrev yy_X12_end : aY := (yX12_end, cX12_end, 2, (some .int))
theorem mk_X12_end : MK yy_X12_end := ⟨(tb_in 1167 (by decide +kernel) (by decide +kernel)), (tb_in 11 (by decide +kernel) (by decide +kernel)), (by decide +kernel), (by decide +kernel)⟩
abbrev yy_X12_fails : aY := (yX12_fails, cX12_fails, 3, (some .boolean))
theorem mk_X12_fails : MK yy_X12_fails := ⟨(tb_in 1206 (by decide +kernel) (by decide +kernel)), (tb_in 11 (by decide +kernel) (by decide +kernel)), (by decide +kernel), (by decide +kernel)⟩
abbrev yy_X12_see : aY := (yX12_see, cX12_see, 1, (some .int))
theorem mk_X12_see : MK yy_X12_see := ⟨(tb_in 1183 (by decide +kernel) (by decide +kernel)), (tb_in 11 (by decide +kernel) (by decide +kernel)), (by decide +kernel), (by decide +kernel)⟩
abbrev yy_X12_isDigit : aY := (yX12_isDigit, cX12_isDigit, 2, (some .boolean))
theorem mk_X12_isDigit : MK yy_X12_isDigit := ⟨(tb_in 1230 (by decide +kernel) (by decide +kernel)), (tb_in 11 (by decide +kernel) (by decide +kernel)), (by decide +kernel), (by decide +kernel)⟩
abbrev yy_X12_isLetter : aY := (yX12_isLetter, cX12_isLetter, 2, (some .boolean))
theorem mk_X12_isLetter : MK yy_X12_isLetter := ⟨(tb_in 1196 (by decide +kernel) (by decide +kernel)), (tb_in 11 (by decide +kernel) (by decide +kernel)), (by decide +kernel), (by decide +kernel)⟩
abbrev yy_X12_isWord : aY := (yX12_isWord, cX12_isWord, 6, (some .boolean))
theorem mk_X12_isWord : MK yy_X12_isWord := ⟨(tb_in 1192 (by decide +kernel) (by decide +kernel)), (tb_in 11 (by decide +kernel) (by decide +kernel)), (by decide +kernel), (by decide +kernel)⟩
abbrev yy_X12_passWord : aY := (yX12_passWord, cX12_passWord, 1, none)
theorem mk_X12_passWord : MK yy_X12_passWord := ⟨(tb_in 1218 (by decide +kernel) (by decide +kernel)), (tb_in 11 (by decide +kernel) (by decide +kernel)), (by decide +kernel), (by decide +kernel)⟩
abbrev yy_X12_takesWord : aY := (yX12_takesWord, cX12_takesWord, 3, (some .boolean))
theorem mk_X12_takesWord : MK yy_X12_takesWord := ⟨(tb_in 1294 (by decide +kernel) (by decide +kernel)), (tb_in 11 (by decide +kernel) (by decide +kernel)), (by decide +kernel), (by decide +kernel)⟩
abbrev yy_X12_numberHere : aY := (yX12_numberHere, cX12_numberHere, 5, (some .boolean))
theorem mk_X12_numberHere : MK yy_X12_numberHere := ⟨(tb_in 1226 (by decide +kernel) (by decide +kernel)), (tb_in 11 (by decide +kernel) (by decide +kernel)), (by decide +kernel), (by decide +kernel)⟩
abbrev yy_X12_wordHere : aY := (yX12_wordHere, cX12_wordHere, 1, (some .int))
theorem mk_X12_wordHere : MK yy_X12_wordHere := ⟨(tb_in 1282 (by decide +kernel) (by decide +kernel)), (tb_in 11 (by decide +kernel) (by decide +kernel)), (by decide +kernel), (by decide +kernel)⟩
abbrev yy_X12_puts : aY := (yX12_puts, cX12_puts, 3, none)
theorem mk_X12_puts : MK yy_X12_puts := ⟨(tb_in 1278 (by decide +kernel) (by decide +kernel)), (tb_in 11 (by decide +kernel) (by decide +kernel)), (by decide +kernel), (by decide +kernel)⟩
abbrev yy_X12_makes : aY := (yX12_makes, cX12_makes, 2, (some .boolean))
theorem mk_X12_makes : MK yy_X12_makes := ⟨(tb_in 1274 (by decide +kernel) (by decide +kernel)), (tb_in 11 (by decide +kernel) (by decide +kernel)), (by decide +kernel), (by decide +kernel)⟩
abbrev yy_X12_opens : aY := (yX12_opens, cX12_opens, 2, (some .boolean))
theorem mk_X12_opens : MK yy_X12_opens := ⟨(tb_in 1307 (by decide +kernel) (by decide +kernel)), (tb_in 11 (by decide +kernel) (by decide +kernel)), (by decide +kernel), (by decide +kernel)⟩
abbrev yy_X12_strength : aY := (yX12_strength, cX12_strength, 1, (some .int))
theorem mk_X12_strength : MK yy_X12_strength := ⟨(tb_in 1322 (by decide +kernel) (by decide +kernel)), (tb_in 11 (by decide +kernel) (by decide +kernel)), (by decide +kernel), (by decide +kernel)⟩
abbrev yy_X12_settles : aY := (yX12_settles, cX12_settles, 2, none)
theorem mk_X12_settles : MK yy_X12_settles := ⟨(tb_in 1319 (by decide +kernel) (by decide +kernel)), (tb_in 11 (by decide +kernel) (by decide +kernel)), (by decide +kernel), (by decide +kernel)⟩
abbrev yy_X12_value : aY := (yX12_value, cX12_value, 3, (some .boolean))
theorem mk_X12_value : MK yy_X12_value := ⟨(tb_in 1269 (by decide +kernel) (by decide +kernel)), (tb_in 11 (by decide +kernel) (by decide +kernel)), (by decide +kernel), (by decide +kernel)⟩
abbrev yy_X12_term : aY := (yX12_term, cX12_term, 2, (some .boolean))
theorem mk_X12_term : MK yy_X12_term := ⟨(tb_in 1265 (by decide +kernel) (by decide +kernel)), (tb_in 11 (by decide +kernel) (by decide +kernel)), (by decide +kernel), (by decide +kernel)⟩
abbrev yy_X12_summed : aY := (yX12_summed, cX12_summed, 2, (some .boolean))
theorem mk_X12_summed : MK yy_X12_summed := ⟨(tb_in 1261 (by decide +kernel) (by decide +kernel)), (tb_in 11 (by decide +kernel) (by decide +kernel)), (by decide +kernel), (by decide +kernel)⟩
abbrev yy_X12_compare : aY := (yX12_compare, cX12_compare, 5, (some .boolean))
theorem mk_X12_compare : MK yy_X12_compare := ⟨(tb_in 1311 (by decide +kernel) (by decide +kernel)), (tb_in 11 (by decide +kernel) (by decide +kernel)), (by decide +kernel), (by decide +kernel)⟩
abbrev yy_X12_fact : aY := (yX12_fact, cX12_fact, 3, (some .boolean))
theorem mk_X12_fact : MK yy_X12_fact := ⟨(tb_in 1302 (by decide +kernel) (by decide +kernel)), (tb_in 11 (by decide +kernel) (by decide +kernel)), (by decide +kernel), (by decide +kernel)⟩
abbrev yy_X12_isInside : aY := (yX12_isInside, cX12_isInside, 2, (some .boolean))
theorem mk_X12_isInside : MK yy_X12_isInside := ⟨(tb_in 1326 (by decide +kernel) (by decide +kernel)), (tb_in 11 (by decide +kernel) (by decide +kernel)), (by decide +kernel), (by decide +kernel)⟩
abbrev yy_X12_closes : aY := (yX12_closes, cX12_closes, 1, none)
theorem mk_X12_closes : MK yy_X12_closes := ⟨(tb_in 1315 (by decide +kernel) (by decide +kernel)), (tb_in 11 (by decide +kernel) (by decide +kernel)), (by decide +kernel), (by decide +kernel)⟩
abbrev yy_X12_tested : aY := (yX12_tested, cX12_tested, 3, (some .boolean))
theorem mk_X12_tested : MK yy_X12_tested := ⟨(tb_in 1298 (by decide +kernel) (by decide +kernel)), (tb_in 11 (by decide +kernel) (by decide +kernel)), (by decide +kernel), (by decide +kernel)⟩
abbrev yy_X12_isDoingHere : aY := (yX12_isDoingHere, cX12_isDoingHere, 3, (some .boolean))
theorem mk_X12_isDoingHere : MK yy_X12_isDoingHere := ⟨(tb_in 1257 (by decide +kernel) (by decide +kernel)), (tb_in 11 (by decide +kernel) (by decide +kernel)), (by decide +kernel), (by decide +kernel)⟩
abbrev yy_X12_cellHere : aY := (yX12_cellHere, cX12_cellHere, 4, (some .boolean))
theorem mk_X12_cellHere : MK yy_X12_cellHere := ⟨(tb_in 1222 (by decide +kernel) (by decide +kernel)), (tb_in 11 (by decide +kernel) (by decide +kernel)), (by decide +kernel), (by decide +kernel)⟩
abbrev yy_X12_areMarksHere : aY := (yX12_areMarksHere, cX12_areMarksHere, 2, (some .boolean))
theorem mk_X12_areMarksHere : MK yy_X12_areMarksHere := ⟨(tb_in 1214 (by decide +kernel) (by decide +kernel)), (tb_in 11 (by decide +kernel) (by decide +kernel)), (by decide +kernel), (by decide +kernel)⟩
abbrev yy_X12_isPersonHere : aY := (yX12_isPersonHere, cX12_isPersonHere, 4, (some .boolean))
theorem mk_X12_isPersonHere : MK yy_X12_isPersonHere := ⟨(tb_in 1237 (by decide +kernel) (by decide +kernel)), (tb_in 11 (by decide +kernel) (by decide +kernel)), (by decide +kernel), (by decide +kernel)⟩
abbrev yy_X12_twoHere : aY := (yX12_twoHere, cX12_twoHere, 2, (some .boolean))
theorem mk_X12_twoHere : MK yy_X12_twoHere := ⟨(tb_in 1245 (by decide +kernel) (by decide +kernel)), (tb_in 11 (by decide +kernel) (by decide +kernel)), (by decide +kernel), (by decide +kernel)⟩
abbrev yy_X12_isTieHere : aY := (yX12_isTieHere, cX12_isTieHere, 1, (some .boolean))
theorem mk_X12_isTieHere : MK yy_X12_isTieHere := ⟨(tb_in 1241 (by decide +kernel) (by decide +kernel)), (tb_in 11 (by decide +kernel) (by decide +kernel)), (by decide +kernel), (by decide +kernel)⟩
abbrev yy_X12_isBoatHere : aY := (yX12_isBoatHere, cX12_isBoatHere, 1, (some .boolean))
theorem mk_X12_isBoatHere : MK yy_X12_isBoatHere := ⟨(tb_in 1249 (by decide +kernel) (by decide +kernel)), (tb_in 11 (by decide +kernel) (by decide +kernel)), (by decide +kernel), (by decide +kernel)⟩
abbrev yy_X12_isGlassHere : aY := (yX12_isGlassHere, cX12_isGlassHere, 1, (some .boolean))
theorem mk_X12_isGlassHere : MK yy_X12_isGlassHere := ⟨(tb_in 1253 (by decide +kernel) (by decide +kernel)), (tb_in 11 (by decide +kernel) (by decide +kernel)), (by decide +kernel), (by decide +kernel)⟩
abbrev yy_X12_islandLineHere : aY := (yX12_islandLineHere, cX12_islandLineHere, 2, (some .boolean))
theorem mk_X12_islandLineHere : MK yy_X12_islandLineHere := ⟨(tb_in 1210 (by decide +kernel) (by decide +kernel)), (tb_in 11 (by decide +kernel) (by decide +kernel)), (by decide +kernel), (by decide +kernel)⟩
abbrev yy_X12_isIslandWord : aY := (yX12_isIslandWord, cX12_isIslandWord, 1, (some .boolean))
theorem mk_X12_isIslandWord : MK yy_X12_isIslandWord := ⟨(tb_in 1187 (by decide +kernel) (by decide +kernel)), (tb_in 11 (by decide +kernel) (by decide +kernel)), (by decide +kernel), (by decide +kernel)⟩
abbrev yy_X12_clauseHere : aY := (yX12_clauseHere, cX12_clauseHere, 3, (some .boolean))
theorem mk_X12_clauseHere : MK yy_X12_clauseHere := ⟨(tb_in 1179 (by decide +kernel) (by decide +kernel)), (tb_in 11 (by decide +kernel) (by decide +kernel)), (by decide +kernel), (by decide +kernel)⟩
abbrev yy_X12_readsAll : aY := (yX12_readsAll, cX12_readsAll, 2, (some .boolean))
theorem mk_X12_readsAll : MK yy_X12_readsAll := ⟨(tb_in 1175 (by decide +kernel) (by decide +kernel)), (tb_in 11 (by decide +kernel) (by decide +kernel)), (by decide +kernel), (by decide +kernel)⟩
abbrev yy_X12_rule : aY := (yX12_rule, cX12_rule, 1, (some .int))
theorem mk_X12_rule : MK yy_X12_rule := ⟨(tb_in 1171 (by decide +kernel) (by decide +kernel)), (tb_in 11 (by decide +kernel) (by decide +kernel)), (by decide +kernel), (by decide +kernel)⟩
abbrev yy_X12_island : aY := (yX12_island, cX12_island, 2, (some .int))
theorem mk_X12_island : MK yy_X12_island := ⟨(tb_in 1332 (by decide +kernel) (by decide +kernel)), (tb_in 11 (by decide +kernel) (by decide +kernel)), (by decide +kernel), (by decide +kernel)⟩
abbrev yy_X12_isRule : aY := (yX12_isRule, cX12_isRule, 2, (some .boolean))
theorem mk_X12_isRule : MK yy_X12_isRule := ⟨(tb_in 1340 (by decide +kernel) (by decide +kernel)), (tb_in 11 (by decide +kernel) (by decide +kernel)), (by decide +kernel), (by decide +kernel)⟩
abbrev yy_X12_push : aY := (yX12_push, cX12_push, 3, none)
theorem mk_X12_push : MK yy_X12_push := ⟨(tb_in 1395 (by decide +kernel) (by decide +kernel)), (tb_in 11 (by decide +kernel) (by decide +kernel)), (by decide +kernel), (by decide +kernel)⟩
abbrev yy_X12_pop : aY := (yX12_pop, cX12_pop, 1, (some .long))
theorem mk_X12_pop : MK yy_X12_pop := ⟨(tb_in 1399 (by decide +kernel) (by decide +kernel)), (tb_in 11 (by decide +kernel) (by decide +kernel)), (by decide +kernel), (by decide +kernel)⟩
abbrev yy_X12_one : aY := (yX12_one, cX12_one, 5, (some .long))
theorem mk_X12_one : MK yy_X12_one := ⟨(tb_in 1402 (by decide +kernel) (by decide +kernel)), (tb_in 11 (by decide +kernel) (by decide +kernel)), (by decide +kernel), (by decide +kernel)⟩
abbrev yy_X12_reckons : aY := (yX12_reckons, cX12_reckons, 11, (some .long))
theorem mk_X12_reckons : MK yy_X12_reckons := ⟨(tb_in 1391 (by decide +kernel) (by decide +kernel)), (tb_in 11 (by decide +kernel) (by decide +kernel)), (by decide +kernel), (by decide +kernel)⟩
abbrev yy_X12_isIsland : aY := (yX12_isIsland, cX12_isIsland, 1, (some .boolean))
theorem mk_X12_isIsland : MK yy_X12_isIsland := ⟨(tb_in 1452 (by decide +kernel) (by decide +kernel)), (tb_in 11 (by decide +kernel) (by decide +kernel)), (by decide +kernel), (by decide +kernel)⟩
abbrev yy_X12_isPerson : aY := (yX12_isPerson, cX12_isPerson, 2, (some .boolean))
theorem mk_X12_isPerson : MK yy_X12_isPerson := ⟨(tb_in 1348 (by decide +kernel) (by decide +kernel)), (tb_in 11 (by decide +kernel) (by decide +kernel)), (by decide +kernel), (by decide +kernel)⟩
abbrev yy_X12_isTelling : aY := (yX12_isTelling, cX12_isTelling, 2, (some .boolean))
theorem mk_X12_isTelling : MK yy_X12_isTelling := ⟨(tb_in 1431 (by decide +kernel) (by decide +kernel)), (tb_in 11 (by decide +kernel) (by decide +kernel)), (by decide +kernel), (by decide +kernel)⟩
abbrev yy_X12_personOf : aY := (yX12_personOf, cX12_personOf, 3, (some .int))
theorem mk_X12_personOf : MK yy_X12_personOf := ⟨(tb_in 1352 (by decide +kernel) (by decide +kernel)), (tb_in 11 (by decide +kernel) (by decide +kernel)), (by decide +kernel), (by decide +kernel)⟩
abbrev yy_X12_tellingOf : aY := (yX12_tellingOf, cX12_tellingOf, 3, (some .int))
theorem mk_X12_tellingOf : MK yy_X12_tellingOf := ⟨(tb_in 1364 (by decide +kernel) (by decide +kernel)), (tb_in 11 (by decide +kernel) (by decide +kernel)), (by decide +kernel), (by decide +kernel)⟩
abbrev yy_X12_tieOf : aY := (yX12_tieOf, cX12_tieOf, 3, (some .int))
theorem mk_X12_tieOf : MK yy_X12_tieOf := ⟨(tb_in 1383 (by decide +kernel) (by decide +kernel)), (tb_in 11 (by decide +kernel) (by decide +kernel)), (by decide +kernel), (by decide +kernel)⟩
abbrev yy_X12_isLook : aY := (yX12_isLook, cX12_isLook, 2, (some .boolean))
theorem mk_X12_isLook : MK yy_X12_isLook := ⟨(tb_in 1410 (by decide +kernel) (by decide +kernel)), (tb_in 11 (by decide +kernel) (by decide +kernel)), (by decide +kernel), (by decide +kernel)⟩
abbrev yy_X12_allMarks : aY := (yX12_allMarks, cX12_allMarks, 1, (some .int))
theorem mk_X12_allMarks : MK yy_X12_allMarks := ⟨(tb_in 1464 (by decide +kernel) (by decide +kernel)), (tb_in 11 (by decide +kernel) (by decide +kernel)), (by decide +kernel), (by decide +kernel)⟩
abbrev yy_X12_stepsOf : aY := (yX12_stepsOf, cX12_stepsOf, 4, (some .int))
theorem mk_X12_stepsOf : MK yy_X12_stepsOf := ⟨(tb_in 1375 (by decide +kernel) (by decide +kernel)), (tb_in 11 (by decide +kernel) (by decide +kernel)), (by decide +kernel), (by decide +kernel)⟩
abbrev yy_X12_force : aY := (yX12_force, cX12_force, 3, (some .int))
theorem mk_X12_force : MK yy_X12_force := ⟨(tb_in 1336 (by decide +kernel) (by decide +kernel)), (tb_in 11 (by decide +kernel) (by decide +kernel)), (by decide +kernel), (by decide +kernel)⟩
abbrev yy_X12_words : aY := (yX12_words, cX12_words, 7, none)
theorem mk_X12_words : MK yy_X12_words := ⟨(tb_in 1379 (by decide +kernel) (by decide +kernel)), (tb_in 11 (by decide +kernel) (by decide +kernel)), (by decide +kernel), (by decide +kernel)⟩
abbrev yy_X12_clauseFor : aY := (yX12_clauseFor, cX12_clauseFor, 5, (some .int))
theorem mk_X12_clauseFor : MK yy_X12_clauseFor := ⟨(tb_in 1387 (by decide +kernel) (by decide +kernel)), (tb_in 11 (by decide +kernel) (by decide +kernel)), (by decide +kernel), (by decide +kernel)⟩
abbrev yy_X12_heldSum : aY := (yX12_heldSum, cX12_heldSum, 6, (some .int))
theorem mk_X12_heldSum : MK yy_X12_heldSum := ⟨(tb_in 1406 (by decide +kernel) (by decide +kernel)), (tb_in 11 (by decide +kernel) (by decide +kernel)), (by decide +kernel), (by decide +kernel)⟩
abbrev yy_X12_weightOf : aY := (yX12_weightOf, cX12_weightOf, 3, (some .int))
theorem mk_X12_weightOf : MK yy_X12_weightOf := ⟨(tb_in 1371 (by decide +kernel) (by decide +kernel)), (tb_in 11 (by decide +kernel) (by decide +kernel)), (by decide +kernel), (by decide +kernel)⟩
abbrev yy_X12_sumOf : aY := (yX12_sumOf, cX12_sumOf, 5, (some .int))
theorem mk_X12_sumOf : MK yy_X12_sumOf := ⟨(tb_in 1360 (by decide +kernel) (by decide +kernel)), (tb_in 11 (by decide +kernel) (by decide +kernel)), (by decide +kernel), (by decide +kernel)⟩
abbrev yy_X12_believedBy : aY := (yX12_believedBy, cX12_believedBy, 4, (some .int))
theorem mk_X12_believedBy : MK yy_X12_believedBy := ⟨(tb_in 1356 (by decide +kernel) (by decide +kernel)), (tb_in 11 (by decide +kernel) (by decide +kernel)), (by decide +kernel), (by decide +kernel)⟩
abbrev yy_X12_openOf : aY := (yX12_openOf, cX12_openOf, 4, (some .int))
theorem mk_X12_openOf : MK yy_X12_openOf := ⟨(tb_in 1414 (by decide +kernel) (by decide +kernel)), (tb_in 11 (by decide +kernel) (by decide +kernel)), (by decide +kernel), (by decide +kernel)⟩
abbrev yy_X12_person : aY := (yX12_person, cX12_person, 3, (some .int))
theorem mk_X12_person : MK yy_X12_person := ⟨(tb_in 1344 (by decide +kernel) (by decide +kernel)), (tb_in 11 (by decide +kernel) (by decide +kernel)), (by decide +kernel), (by decide +kernel)⟩
abbrev yy_X12_sum : aY := (yX12_sum, cX12_sum, 3, (some .int))
theorem mk_X12_sum : MK yy_X12_sum := ⟨(tb_in 1418 (by decide +kernel) (by decide +kernel)), (tb_in 11 (by decide +kernel) (by decide +kernel)), (by decide +kernel), (by decide +kernel)⟩
abbrev yy_X12_tie : aY := (yX12_tie, cX12_tie, 3, (some .int))
theorem mk_X12_tie : MK yy_X12_tie := ⟨(tb_in 1423 (by decide +kernel) (by decide +kernel)), (tb_in 11 (by decide +kernel) (by decide +kernel)), (by decide +kernel), (by decide +kernel)⟩
abbrev yy_X12_telling : aY := (yX12_telling, cX12_telling, 3, (some .int))
theorem mk_X12_telling : MK yy_X12_telling := ⟨(tb_in 1427 (by decide +kernel) (by decide +kernel)), (tb_in 11 (by decide +kernel) (by decide +kernel)), (by decide +kernel), (by decide +kernel)⟩
abbrev yy_X12_keepsAct : aY := (yX12_keepsAct, cX12_keepsAct, 2, none)
theorem mk_X12_keepsAct : MK yy_X12_keepsAct := ⟨(tb_in 1456 (by decide +kernel) (by decide +kernel)), (tb_in 11 (by decide +kernel) (by decide +kernel)), (by decide +kernel), (by decide +kernel)⟩
abbrev yy_X12_undo : aY := (yX12_undo, cX12_undo, 2, (some .int))
theorem mk_X12_undo : MK yy_X12_undo := ⟨(tb_in 1436 (by decide +kernel) (by decide +kernel)), (tb_in 11 (by decide +kernel) (by decide +kernel)), (by decide +kernel), (by decide +kernel)⟩
abbrev yy_X12_isHourLeft : aY := (yX12_isHourLeft, cX12_isHourLeft, 1, (some .boolean))
theorem mk_X12_isHourLeft : MK yy_X12_isHourLeft := ⟨(tb_in 1448 (by decide +kernel) (by decide +kernel)), (tb_in 11 (by decide +kernel) (by decide +kernel)), (by decide +kernel), (by decide +kernel)⟩
abbrev yy_X12_comes : aY := (yX12_comes, cX12_comes, 7, none)
theorem mk_X12_comes : MK yy_X12_comes := ⟨(tb_in 1468 (by decide +kernel) (by decide +kernel)), (tb_in 11 (by decide +kernel) (by decide +kernel)), (by decide +kernel), (by decide +kernel)⟩
abbrev yy_X12_faceBy : aY := (yX12_faceBy, cX12_faceBy, 7, (some .int))
theorem mk_X12_faceBy : MK yy_X12_faceBy := ⟨(tb_in 1460 (by decide +kernel) (by decide +kernel)), (tb_in 11 (by decide +kernel) (by decide +kernel)), (by decide +kernel), (by decide +kernel)⟩
abbrev yy_X12_mayBe : aY := (yX12_mayBe, cX12_mayBe, 2, (some .boolean))
theorem mk_X12_mayBe : MK yy_X12_mayBe := ⟨(tb_in 1444 (by decide +kernel) (by decide +kernel)), (tb_in 11 (by decide +kernel) (by decide +kernel)), (by decide +kernel), (by decide +kernel)⟩
abbrev yy_X12_tell : aY := (yX12_tell, cX12_tell, 5, (some .int))
theorem mk_X12_tell : MK yy_X12_tell := ⟨(tb_in 1440 (by decide +kernel) (by decide +kernel)), (tb_in 11 (by decide +kernel) (by decide +kernel)), (by decide +kernel), (by decide +kernel)⟩
abbrev yy_X12_retell : aY := (yX12_retell, cX12_retell, 4, (some .int))
theorem mk_X12_retell : MK yy_X12_retell := ⟨(tb_in 1472 (by decide +kernel) (by decide +kernel)), (tb_in 11 (by decide +kernel) (by decide +kernel)), (by decide +kernel), (by decide +kernel)⟩
abbrev yy_X12_looks : aY := (yX12_looks, cX12_looks, 2, none)
theorem mk_X12_looks : MK yy_X12_looks := ⟨(tb_in 1480 (by decide +kernel) (by decide +kernel)), (tb_in 11 (by decide +kernel) (by decide +kernel)), (by decide +kernel), (by decide +kernel)⟩
abbrev yy_X12_look : aY := (yX12_look, cX12_look, 1, (some .int))
theorem mk_X12_look : MK yy_X12_look := ⟨(tb_in 1476 (by decide +kernel) (by decide +kernel)), (tb_in 11 (by decide +kernel) (by decide +kernel)), (by decide +kernel), (by decide +kernel)⟩
abbrev yy_X12_glassGoes : aY := (yX12_glassGoes, cX12_glassGoes, 2, none)
theorem mk_X12_glassGoes : MK yy_X12_glassGoes := ⟨(tb_in 1488 (by decide +kernel) (by decide +kernel)), (tb_in 11 (by decide +kernel) (by decide +kernel)), (by decide +kernel), (by decide +kernel)⟩
abbrev yy_X12_give : aY := (yX12_give, cX12_give, 2, (some .int))
theorem mk_X12_give : MK yy_X12_give := ⟨(tb_in 1484 (by decide +kernel) (by decide +kernel)), (tb_in 11 (by decide +kernel) (by decide +kernel)), (by decide +kernel), (by decide +kernel)⟩
abbrev yy_X12_save : aY := (yX12_save, cX12_save, 1, (some .int))
theorem mk_X12_save : MK yy_X12_save := ⟨(tb_in 1492 (by decide +kernel) (by decide +kernel)), (tb_in 11 (by decide +kernel) (by decide +kernel)), (by decide +kernel), (by decide +kernel)⟩
abbrev yy_X12_sell : aY := (yX12_sell, cX12_sell, 4, (some .int))
theorem mk_X12_sell : MK yy_X12_sell := ⟨(tb_in 1496 (by decide +kernel) (by decide +kernel)), (tb_in 11 (by decide +kernel) (by decide +kernel)), (by decide +kernel), (by decide +kernel)⟩
abbrev yy_X12_spend : aY := (yX12_spend, cX12_spend, 2, (some .int))
theorem mk_X12_spend : MK yy_X12_spend := ⟨(tb_in 1500 (by decide +kernel) (by decide +kernel)), (tb_in 11 (by decide +kernel) (by decide +kernel)), (by decide +kernel), (by decide +kernel)⟩
abbrev yy_X12_keep : aY := (yX12_keep, cX12_keep, 2, (some .boolean))
theorem mk_X12_keep : MK yy_X12_keep := ⟨(tb_in 1504 (by decide +kernel) (by decide +kernel)), (tb_in 11 (by decide +kernel) (by decide +kernel)), (by decide +kernel), (by decide +kernel)⟩
abbrev yy_X12_rest : aY := (yX12_rest, cX12_rest, 1, (some .int))
theorem mk_X12_rest : MK yy_X12_rest := ⟨(tb_in 1508 (by decide +kernel) (by decide +kernel)), (tb_in 11 (by decide +kernel) (by decide +kernel)), (by decide +kernel), (by decide +kernel)⟩
abbrev yy_X12_heeding : aY := (yX12_heeding, cX12_heeding, 4, (some .int))
theorem mk_X12_heeding : MK yy_X12_heeding := ⟨(tb_in 1521 (by decide +kernel) (by decide +kernel)), (tb_in 11 (by decide +kernel) (by decide +kernel)), (by decide +kernel), (by decide +kernel)⟩
abbrev yy_X12_passes : aY := (yX12_passes, cX12_passes, 4, none)
theorem mk_X12_passes : MK yy_X12_passes := ⟨(tb_in 1517 (by decide +kernel) (by decide +kernel)), (tb_in 11 (by decide +kernel) (by decide +kernel)), (by decide +kernel), (by decide +kernel)⟩
abbrev yy_X12_run : aY := (yX12_run, cX12_run, 4, (some .int))
theorem mk_X12_run : MK yy_X12_run := ⟨(tb_in 1512 (by decide +kernel) (by decide +kernel)), (tb_in 11 (by decide +kernel) (by decide +kernel)), (by decide +kernel), (by decide +kernel)⟩
abbrev yy_X12_leanOf : aY := (yX12_leanOf, cX12_leanOf, 5, (some .int))
theorem mk_X12_leanOf : MK yy_X12_leanOf := ⟨(tb_in 1529 (by decide +kernel) (by decide +kernel)), (tb_in 11 (by decide +kernel) (by decide +kernel)), (by decide +kernel), (by decide +kernel)⟩
abbrev yy_X12_lean : aY := (yX12_lean, cX12_lean, 2, (some .int))
theorem mk_X12_lean : MK yy_X12_lean := ⟨(tb_in 1525 (by decide +kernel) (by decide +kernel)), (tb_in 11 (by decide +kernel) (by decide +kernel)), (by decide +kernel), (by decide +kernel)⟩
abbrev yy_X12_countFor : aY := (yX12_countFor, cX12_countFor, 5, (some .int))
theorem mk_X12_countFor : MK yy_X12_countFor := ⟨(tb_in 1540 (by decide +kernel) (by decide +kernel)), (tb_in 11 (by decide +kernel) (by decide +kernel)), (by decide +kernel), (by decide +kernel)⟩
abbrev yy_X12_likeliest : aY := (yX12_likeliest, cX12_likeliest, 6, (some .int))
theorem mk_X12_likeliest : MK yy_X12_likeliest := ⟨(tb_in 1536 (by decide +kernel) (by decide +kernel)), (tb_in 11 (by decide +kernel) (by decide +kernel)), (by decide +kernel), (by decide +kernel)⟩
abbrev yy_X12_flatteryOf : aY := (yX12_flatteryOf, cX12_flatteryOf, 6, (some .int))
theorem mk_X12_flatteryOf : MK yy_X12_flatteryOf := ⟨(tb_in 1548 (by decide +kernel) (by decide +kernel)), (tb_in 11 (by decide +kernel) (by decide +kernel)), (by decide +kernel), (by decide +kernel)⟩
abbrev yy_X12_flatters : aY := (yX12_flatters, cX12_flatters, 5, (some .int))
theorem mk_X12_flatters : MK yy_X12_flatters := ⟨(tb_in 1544 (by decide +kernel) (by decide +kernel)), (tb_in 11 (by decide +kernel) (by decide +kernel)), (by decide +kernel), (by decide +kernel)⟩
abbrev yy_X12_turnedBy : aY := (yX12_turnedBy, cX12_turnedBy, 8, (some .int))
theorem mk_X12_turnedBy : MK yy_X12_turnedBy := ⟨(tb_in 1556 (by decide +kernel) (by decide +kernel)), (tb_in 11 (by decide +kernel) (by decide +kernel)), (by decide +kernel), (by decide +kernel)⟩
abbrev yy_X12_ask : aY := (yX12_ask, cX12_ask, 7, (some .int))
theorem mk_X12_ask : MK yy_X12_ask := ⟨(tb_in 1552 (by decide +kernel) (by decide +kernel)), (tb_in 11 (by decide +kernel) (by decide +kernel)), (by decide +kernel), (by decide +kernel)⟩
abbrev yy_X12_chain : aY := (yX12_chain, cX12_chain, 4, (some .int))
theorem mk_X12_chain : MK yy_X12_chain := ⟨(tb_in 1560 (by decide +kernel) (by decide +kernel)), (tb_in 11 (by decide +kernel) (by decide +kernel)), (by decide +kernel), (by decide +kernel)⟩
abbrev yy_X12_slip : aY := (yX12_slip, cX12_slip, 5, (some .int))
theorem mk_X12_slip : MK yy_X12_slip := ⟨(tb_in 1565 (by decide +kernel) (by decide +kernel)), (tb_in 11 (by decide +kernel) (by decide +kernel)), (by decide +kernel), (by decide +kernel)⟩
abbrev yy_X12_wish : aY := (yX12_wish, cX12_wish, 6, (some .int))
theorem mk_X12_wish : MK yy_X12_wish := ⟨(tb_in 1569 (by decide +kernel) (by decide +kernel)), (tb_in 11 (by decide +kernel) (by decide +kernel)), (by decide +kernel), (by decide +kernel)⟩
abbrev yy_X12_servedAt : aY := (yX12_servedAt, cX12_servedAt, 7, (some .int))
theorem mk_X12_servedAt : MK yy_X12_servedAt := ⟨(tb_in 1592 (by decide +kernel) (by decide +kernel)), (tb_in 11 (by decide +kernel) (by decide +kernel)), (by decide +kernel), (by decide +kernel)⟩
abbrev yy_X12_worthOf : aY := (yX12_worthOf, cX12_worthOf, 4, (some .int))
theorem mk_X12_worthOf : MK yy_X12_worthOf := ⟨(tb_in 1596 (by decide +kernel) (by decide +kernel)), (tb_in 11 (by decide +kernel) (by decide +kernel)), (by decide +kernel), (by decide +kernel)⟩
abbrev yy_X12_placeAt : aY := (yX12_placeAt, cX12_placeAt, 3, (some .int))
theorem mk_X12_placeAt : MK yy_X12_placeAt := ⟨(tb_in 1584 (by decide +kernel) (by decide +kernel)), (tb_in 11 (by decide +kernel) (by decide +kernel)), (by decide +kernel), (by decide +kernel)⟩
abbrev yy_X12_mostFrom : aY := (yX12_mostFrom, cX12_mostFrom, 9, (some .int))
theorem mk_X12_mostFrom : MK yy_X12_mostFrom := ⟨(tb_in 1588 (by decide +kernel) (by decide +kernel)), (tb_in 11 (by decide +kernel) (by decide +kernel)), (by decide +kernel), (by decide +kernel)⟩
abbrev yy_X12_fillsRounds : aY := (yX12_fillsRounds, cX12_fillsRounds, 5, none)
theorem mk_X12_fillsRounds : MK yy_X12_fillsRounds := ⟨(tb_in 1581 (by decide +kernel) (by decide +kernel)), (tb_in 11 (by decide +kernel) (by decide +kernel)), (by decide +kernel), (by decide +kernel)⟩
abbrev yy_X12_round : aY := (yX12_round, cX12_round, 9, (some .int))
theorem mk_X12_round : MK yy_X12_round := ⟨(tb_in 1575 (by decide +kernel) (by decide +kernel)), (tb_in 11 (by decide +kernel) (by decide +kernel)), (by decide +kernel), (by decide +kernel)⟩
abbrev yy_X12_view : aY := (yX12_view, cX12_view, 3, (some .int))
theorem mk_X12_view : MK yy_X12_view := ⟨(tb_in 1600 (by decide +kernel) (by decide +kernel)), (tb_in 11 (by decide +kernel) (by decide +kernel)), (by decide +kernel), (by decide +kernel)⟩
abbrev yy_X12_viewsOf : aY := (yX12_viewsOf, cX12_viewsOf, 4, (some .int))
theorem mk_X12_viewsOf : MK yy_X12_viewsOf := ⟨(tb_in 1608 (by decide +kernel) (by decide +kernel)), (tb_in 11 (by decide +kernel) (by decide +kernel)), (by decide +kernel), (by decide +kernel)⟩
abbrev yy_X12_fits : aY := (yX12_fits, cX12_fits, 4, (some .int))
theorem mk_X12_fits : MK yy_X12_fits := ⟨(tb_in 1604 (by decide +kernel) (by decide +kernel)), (tb_in 11 (by decide +kernel) (by decide +kernel)), (by decide +kernel), (by decide +kernel)⟩
abbrev yy_X12_fewestFaces : aY := (yX12_fewestFaces, cX12_fewestFaces, 5, (some .int))
theorem mk_X12_fewestFaces : MK yy_X12_fewestFaces := ⟨(tb_in 1616 (by decide +kernel) (by decide +kernel)), (tb_in 11 (by decide +kernel) (by decide +kernel)), (by decide +kernel), (by decide +kernel)⟩
abbrev yy_X12_views : aY := (yX12_views, cX12_views, 6, (some .int))
theorem mk_X12_views : MK yy_X12_views := ⟨(tb_in 1612 (by decide +kernel) (by decide +kernel)), (tb_in 11 (by decide +kernel) (by decide +kernel)), (by decide +kernel), (by decide +kernel)⟩
abbrev yy_X12_seed : aY := (yX12_seed, cX12_seed, 3, (some .int))
theorem mk_X12_seed : MK yy_X12_seed := ⟨(tb_in 1620 (by decide +kernel) (by decide +kernel)), (tb_in 11 (by decide +kernel) (by decide +kernel)), (by decide +kernel), (by decide +kernel)⟩
abbrev yy_X12_draw : aY := (yX12_draw, cX12_draw, 2, (some .int))
theorem mk_X12_draw : MK yy_X12_draw := ⟨(tb_in 1634 (by decide +kernel) (by decide +kernel)), (tb_in 11 (by decide +kernel) (by decide +kernel)), (by decide +kernel), (by decide +kernel)⟩
abbrev yy_X12_drawsHour : aY := (yX12_drawsHour, cX12_drawsHour, 7, none)
theorem mk_X12_drawsHour : MK yy_X12_drawsHour := ⟨(tb_in 1630 (by decide +kernel) (by decide +kernel)), (tb_in 11 (by decide +kernel) (by decide +kernel)), (by decide +kernel), (by decide +kernel)⟩
abbrev yy_X12_drawn : aY := (yX12_drawn, cX12_drawn, 10, (some .int))
theorem mk_X12_drawn : MK yy_X12_drawn := ⟨(tb_in 1624 (by decide +kernel) (by decide +kernel)), (tb_in 11 (by decide +kernel) (by decide +kernel)), (by decide +kernel), (by decide +kernel)⟩
abbrev yy_X12_count : aY := (yX12_count, cX12_count, 2, (some .int))
theorem mk_X12_count : MK yy_X12_count := ⟨(tb_in 1642 (by decide +kernel) (by decide +kernel)), (tb_in 11 (by decide +kernel) (by decide +kernel)), (by decide +kernel), (by decide +kernel)⟩
abbrev yy_X12_image : aY := (yX12_image, cX12_image, 3, (some .int))
theorem mk_X12_image : MK yy_X12_image := ⟨(tb_in 1646 (by decide +kernel) (by decide +kernel)), (tb_in 11 (by decide +kernel) (by decide +kernel)), (by decide +kernel), (by decide +kernel)⟩
abbrev yy_X12_back : aY := (yX12_back, cX12_back, 3, (some .int))
theorem mk_X12_back : MK yy_X12_back := ⟨(tb_in 1651 (by decide +kernel) (by decide +kernel)), (tb_in 11 (by decide +kernel) (by decide +kernel)), (by decide +kernel), (by decide +kernel)⟩
abbrev yy_J6_bitCount_0f7a4 : aY := (yJ6_bitCount_0f7a4, cJ6_bitCount_0f7a4, 1, (some .int))
theorem mk_J6_bitCount_0f7a4 : MK yy_J6_bitCount_0f7a4 := ⟨(tb_in 826 (by decide +kernel) (by decide +kernel)), (tb_in 20 (by decide +kernel) (by decide +kernel)), (by decide +kernel), (by decide +kernel)⟩
abbrev yy_J9_floorMod_7cf53 : aY := (yJ9_floorMod_7cf53, cJ9_floorMod_7cf53, 3, (some .int))
theorem mk_J9_floorMod_7cf53 : MK yy_J9_floorMod_7cf53 := ⟨(tb_in 709 (by decide +kernel) (by decide +kernel)), (tb_in 18 (by decide +kernel) (by decide +kernel)), (by decide +kernel), (by decide +kernel)⟩
abbrev yy_J9_abs_0f7a4 : aY := (yJ9_abs_0f7a4, cJ9_abs_0f7a4, 1, (some .int))
theorem mk_J9_abs_0f7a4 : MK yy_J9_abs_0f7a4 := ⟨(tb_in 864 (by decide +kernel) (by decide +kernel)), (tb_in 18 (by decide +kernel) (by decide +kernel)), (by decide +kernel), (by decide +kernel)⟩
abbrev yy_J9_max_7cf53 : aY := (yJ9_max_7cf53, cJ9_max_7cf53, 2, (some .int))
theorem mk_J9_max_7cf53 : MK yy_J9_max_7cf53 := ⟨(tb_in 628 (by decide +kernel) (by decide +kernel)), (tb_in 18 (by decide +kernel) (by decide +kernel)), (by decide +kernel), (by decide +kernel)⟩
abbrev yy_J9_max_f86c9 : aY := (yJ9_max_f86c9, cJ9_max_f86c9, 4, (some .long))
theorem mk_J9_max_f86c9 : MK yy_J9_max_f86c9 := ⟨(tb_in 637 (by decide +kernel) (by decide +kernel)), (tb_in 18 (by decide +kernel) (by decide +kernel)), (by decide +kernel), (by decide +kernel)⟩
abbrev yy_J9_min_7cf53 : aY := (yJ9_min_7cf53, cJ9_min_7cf53, 2, (some .int))
theorem mk_J9_min_7cf53 : MK yy_J9_min_7cf53 := ⟨(tb_in 712 (by decide +kernel) (by decide +kernel)), (tb_in 18 (by decide +kernel) (by decide +kernel)), (by decide +kernel), (by decide +kernel)⟩
abbrev yy_J9_min_f86c9 : aY := (yJ9_min_f86c9, cJ9_min_f86c9, 4, (some .long))
theorem mk_J9_min_f86c9 : MK yy_J9_min_f86c9 := ⟨(tb_in 634 (by decide +kernel) (by decide +kernel)), (tb_in 18 (by decide +kernel) (by decide +kernel)), (by decide +kernel), (by decide +kernel)⟩
abbrev yy_J0_length_8abf5 : aY := (yJ0_length_8abf5, cJ0_length_8abf5, 1, (some .int))
theorem mk_J0_length_8abf5 : MK yy_J0_length_8abf5 := ⟨(tb_in 408 (by decide +kernel) (by decide +kernel)), (tb_in 13 (by decide +kernel) (by decide +kernel)), (by decide +kernel), (by decide +kernel)⟩
abbrev yy_J0_charAt_5068e : aY := (yJ0_charAt_5068e, cJ0_charAt_5068e, 2, (some .char))
theorem mk_J0_charAt_5068e : MK yy_J0_charAt_5068e := ⟨(tb_in 418 (by decide +kernel) (by decide +kernel)), (tb_in 13 (by decide +kernel) (by decide +kernel)), (by decide +kernel), (by decide +kernel)⟩
abbrev yy_J0_coder_7d493 : aY := (yJ0_coder_7d493, cJ0_coder_7d493, 1, (some .byte))
theorem mk_J0_coder_7d493 : MK yy_J0_coder_7d493 := ⟨(tb_in 412 (by decide +kernel) (by decide +kernel)), (tb_in 13 (by decide +kernel) (by decide +kernel)), (by decide +kernel), (by decide +kernel)⟩
abbrev yy_J0_isLatin1_aae02 : aY := (yJ0_isLatin1_aae02, cJ0_isLatin1_aae02, 1, (some .boolean))
theorem mk_J0_isLatin1_aae02 : MK yy_J0_isLatin1_aae02 := ⟨(tb_in 422 (by decide +kernel) (by decide +kernel)), (tb_in 13 (by decide +kernel) (by decide +kernel)), (by decide +kernel), (by decide +kernel)⟩
abbrev yy_J0_checkIndex_df160 : aY := (yJ0_checkIndex_df160, cJ0_checkIndex_df160, 2, none)
theorem mk_J0_checkIndex_df160 : MK yy_J0_checkIndex_df160 := ⟨(tb_in 428 (by decide +kernel) (by decide +kernel)), (tb_in 13 (by decide +kernel) (by decide +kernel)), (by decide +kernel), (by decide +kernel)⟩
abbrev yy_J1_charAt_3b067 : aY := (yJ1_charAt_3b067, cJ1_charAt_3b067, 2, (some .char))
theorem mk_J1_charAt_3b067 : MK yy_J1_charAt_3b067 := ⟨(tb_in 425 (by decide +kernel) (by decide +kernel)), (tb_in 14 (by decide +kernel) (by decide +kernel)), (by decide +kernel), (by decide +kernel)⟩
abbrev yy_J2_getChar_3b067 : aY := (yJ2_getChar_3b067, cJ2_getChar_3b067, 2, (some .char))
theorem mk_J2_getChar_3b067 : MK yy_J2_getChar_3b067 := ⟨(tb_in 446 (by decide +kernel) (by decide +kernel)), (tb_in 16 (by decide +kernel) (by decide +kernel)), (by decide +kernel), (by decide +kernel)⟩
abbrev yy_J2_length_9d52b : aY := (yJ2_length_9d52b, cJ2_length_9d52b, 1, (some .int))
theorem mk_J2_length_9d52b : MK yy_J2_length_9d52b := ⟨(tb_in 442 (by decide +kernel) (by decide +kernel)), (tb_in 16 (by decide +kernel) (by decide +kernel)), (by decide +kernel), (by decide +kernel)⟩
abbrev yy_J2_charAt_3b067 : aY := (yJ2_charAt_3b067, cJ2_charAt_3b067, 2, (some .char))
theorem mk_J2_charAt_3b067 : MK yy_J2_charAt_3b067 := ⟨(tb_in 436 (by decide +kernel) (by decide +kernel)), (tb_in 16 (by decide +kernel) (by decide +kernel)), (by decide +kernel), (by decide +kernel)⟩
abbrev yy_J2_checkIndex_2214a : aY := (yJ2_checkIndex_2214a, cJ2_checkIndex_2214a, 2, none)
theorem mk_J2_checkIndex_2214a : MK yy_J2_checkIndex_2214a := ⟨(tb_in 439 (by decide +kernel) (by decide +kernel)), (tb_in 16 (by decide +kernel) (by decide +kernel)), (by decide +kernel), (by decide +kernel)⟩
abbrev yy_J3_checkIndex_8e157 : aY := (yJ3_checkIndex_8e157, cJ3_checkIndex_8e157, 3, (some .int))
theorem mk_J3_checkIndex_8e157 : MK yy_J3_checkIndex_8e157 := ⟨(tb_in 433 (by decide +kernel) (by decide +kernel)), (tb_in 15 (by decide +kernel) (by decide +kernel)), (by decide +kernel), (by decide +kernel)⟩
end
section
/-! ===== the entries that call methods ===== -/
theorem li_RX11_9 : LI RX11 9 yy_X10_init 0 := ⟨mk_X10_init, (by decide +kernel), (tb_in 32 (by decide +kernel) (by decide +kernel)), rfl, rfl, Or.inr ⟨"OneMirror", nb_in 31 (by decide +kernel) rfl⟩⟩
theorem li_RX11_22 : LI RX11 22 yy_X7_init 0 := ⟨mk_X7_init, (by decide +kernel), (tb_in 78 (by decide +kernel) (by decide +kernel)), rfl, rfl, Or.inr ⟨"OneMirror", nb_in 77 (by decide +kernel) rfl⟩⟩
theorem li_RX11_33 : LI RX11 33 yy_X2_init 0 := ⟨mk_X2_init, (by decide +kernel), (tb_in 112 (by decide +kernel) (by decide +kernel)), rfl, rfl, Or.inr ⟨"OneMirror", nb_in 111 (by decide +kernel) rfl⟩⟩
theorem li_RX11_40 : LI RX11 40 yy_X1_init 0 := ⟨mk_X1_init, (by decide +kernel), (tb_in 224 (by decide +kernel) (by decide +kernel)), rfl, rfl, Or.inr ⟨"OneMirror", nb_in 223 (by decide +kernel) rfl⟩⟩
theorem li_RX11_47 : LI RX11 47 yy_X4_init 0 := ⟨mk_X4_init, (by decide +kernel), (tb_in 242 (by decide +kernel) (by decide +kernel)), rfl, rfl, Or.inr ⟨"OneMirror", nb_in 241 (by decide +kernel) rfl⟩⟩
theorem li_RX11_54 : LI RX11 54 yy_X5_init 0 := ⟨mk_X5_init, (by decide +kernel), (tb_in 272 (by decide +kernel) (by decide +kernel)), rfl, rfl, Or.inr ⟨"OneMirror", nb_in 271 (by decide +kernel) rfl⟩⟩
theorem li_RX11_61 : LI RX11 61 yy_X0_init 0 := ⟨mk_X0_init, (by decide +kernel), (tb_in 296 (by decide +kernel) (by decide +kernel)), rfl, rfl, Or.inr ⟨"OneMirror", nb_in 295 (by decide +kernel) rfl⟩⟩
theorem lv_RX11_77 : LV RX11 77 yy_X10_append 1 := ⟨mk_X10_append, (by decide +kernel), (tb_in 349 (by decide +kernel) (by decide +kernel)), (sb_in 0 (by decide +kernel) (by decide +kernel)), Or.inr ⟨"OneMirror", nb_in 347 (by decide +kernel) rfl⟩⟩
theorem lt_RX11_81 : LT RX11 81 yy_X3_readAll 2 := ⟨mk_X3_readAll, (by decide +kernel), (tb_in 360 (by decide +kernel) (by decide +kernel)), Or.inr ⟨"OneMirror", nb_in 359 (by decide +kernel) rfl⟩⟩
theorem lv_RX11_96 : LV RX11 96 yy_X1_forget 0 := ⟨mk_X1_forget, (by decide +kernel), (tb_in 500 (by decide +kernel) (by decide +kernel)), (sb_in 17 (by decide +kernel) (by decide +kernel)), Or.inr ⟨"OneMirror", nb_in 498 (by decide +kernel) rfl⟩⟩
theorem lt_RX11_105 : LT RX11 105 yy_X8_readAll 2 := ⟨mk_X8_readAll, (by decide +kernel), (tb_in 508 (by decide +kernel) (by decide +kernel)), Or.inr ⟨"OneMirror", nb_in 507 (by decide +kernel) rfl⟩⟩
theorem lv_RX11_110 : LV RX11 110 yy_X11_isRuleOrNone 1 := ⟨mk_X11_isRuleOrNone, (by decide +kernel), (tb_in 552 (by decide +kernel) (by decide +kernel)), (sb_in 21 (by decide +kernel) (by decide +kernel)), Or.inl (tb_in 550 (by decide +kernel) (by decide +kernel))⟩
theorem lv_RX11_114 : LV RX11 114 yy_X2_has 1 := ⟨mk_X2_has, (by decide +kernel), (tb_in 493 (by decide +kernel) (by decide +kernel)), (sb_in 16 (by decide +kernel) (by decide +kernel)), Or.inr ⟨"OneMirror", nb_in 562 (by decide +kernel) rfl⟩⟩
theorem lv_RX11_126 : LV RX11 126 yy_X2_looksOf 1 := ⟨mk_X2_looksOf, (by decide +kernel), (tb_in 565 (by decide +kernel) (by decide +kernel)), (sb_in 23 (by decide +kernel) (by decide +kernel)), Or.inr ⟨"OneMirror", nb_in 563 (by decide +kernel) rfl⟩⟩
theorem lv_RX11_130 : LV RX11 130 yy_X11_inForce 0 := ⟨mk_X11_inForce, (by decide +kernel), (tb_in 581 (by decide +kernel) (by decide +kernel)), (sb_in 27 (by decide +kernel) (by decide +kernel)), Or.inl (tb_in 579 (by decide +kernel) (by decide +kernel))⟩
theorem lv_RX11_133 : LV RX11 133 yy_X4_believed 3 := ⟨mk_X4_believed, (by decide +kernel), (tb_in 589 (by decide +kernel) (by decide +kernel)), (sb_in 29 (by decide +kernel) (by decide +kernel)), Or.inr ⟨"OneMirror", nb_in 587 (by decide +kernel) rfl⟩⟩
theorem lv_RX11_137 : LV RX11 137 yy_X4_open 3 := ⟨mk_X4_open, (by decide +kernel), (tb_in 648 (by decide +kernel) (by decide +kernel)), (sb_in 40 (by decide +kernel) (by decide +kernel)), Or.inr ⟨"OneMirror", nb_in 646 (by decide +kernel) rfl⟩⟩
theorem lv_RX11_150 : LV RX11 150 yy_X2_hasMark 1 := ⟨mk_X2_hasMark, (by decide +kernel), (tb_in 660 (by decide +kernel) (by decide +kernel)), (sb_in 42 (by decide +kernel) (by decide +kernel)), Or.inr ⟨"OneMirror", nb_in 658 (by decide +kernel) rfl⟩⟩
theorem lv_RX11_154 : LV RX11 154 yy_X4_addUp 3 := ⟨mk_X4_addUp, (by decide +kernel), (tb_in 593 (by decide +kernel) (by decide +kernel)), (sb_in 30 (by decide +kernel) (by decide +kernel)), Or.inr ⟨"OneMirror", nb_in 663 (by decide +kernel) rfl⟩⟩
theorem lv_RX11_161 : LV RX11 161 yy_X2_hasTwo 2 := ⟨mk_X2_hasTwo, (by decide +kernel), (tb_in 489 (by decide +kernel) (by decide +kernel)), (sb_in 15 (by decide +kernel) (by decide +kernel)), Or.inr ⟨"OneMirror", nb_in 668 (by decide +kernel) rfl⟩⟩
theorem lv_RX11_165 : LV RX11 165 yy_X2_heed 2 := ⟨mk_X2_heed, (by decide +kernel), (tb_in 615 (by decide +kernel) (by decide +kernel)), (sb_in 35 (by decide +kernel) (by decide +kernel)), Or.inr ⟨"OneMirror", nb_in 669 (by decide +kernel) rfl⟩⟩
theorem lv_RX11_173 : LV RX11 173 yy_X6_has 1 := ⟨mk_X6_has, (by decide +kernel), (tb_in 577 (by decide +kernel) (by decide +kernel)), (sb_in 26 (by decide +kernel) (by decide +kernel)), Or.inr ⟨"OneMirror", nb_in 674 (by decide +kernel) rfl⟩⟩
theorem lv_RX11_176 : LV RX11 176 yy_X6_at 2 := ⟨mk_X6_at, (by decide +kernel), (tb_in 573 (by decide +kernel) (by decide +kernel)), (sb_in 25 (by decide +kernel) (by decide +kernel)), Or.inr ⟨"OneMirror", nb_in 675 (by decide +kernel) rfl⟩⟩
theorem lv_RX11_179 : LV RX11 179 yy_X2_isLook 1 := ⟨mk_X2_isLook, (by decide +kernel), (tb_in 569 (by decide +kernel) (by decide +kernel)), (sb_in 24 (by decide +kernel) (by decide +kernel)), Or.inr ⟨"OneMirror", nb_in 676 (by decide +kernel) rfl⟩⟩
theorem lv_RX11_182 : LV RX11 182 yy_X11_canTell 0 := ⟨mk_X11_canTell, (by decide +kernel), (tb_in 683 (by decide +kernel) (by decide +kernel)), (sb_in 43 (by decide +kernel) (by decide +kernel)), Or.inl (tb_in 681 (by decide +kernel) (by decide +kernel))⟩
theorem lv_RX11_186 : LV RX11 186 yy_X2_faceOf 1 := ⟨mk_X2_faceOf, (by decide +kernel), (tb_in 695 (by decide +kernel) (by decide +kernel)), (sb_in 46 (by decide +kernel) (by decide +kernel)), Or.inr ⟨"OneMirror", nb_in 693 (by decide +kernel) rfl⟩⟩
theorem lv_RX11_189 : LV RX11 189 yy_X11_ruleAt 1 := ⟨mk_X11_ruleAt, (by decide +kernel), (tb_in 585 (by decide +kernel) (by decide +kernel)), (sb_in 28 (by decide +kernel) (by decide +kernel)), Or.inl (tb_in 583 (by decide +kernel) (by decide +kernel))⟩
theorem lv_RX11_193 : LV RX11 193 yy_X4_told 6 := ⟨mk_X4_told, (by decide +kernel), (tb_in 699 (by decide +kernel) (by decide +kernel)), (sb_in 47 (by decide +kernel) (by decide +kernel)), Or.inr ⟨"OneMirror", nb_in 697 (by decide +kernel) rfl⟩⟩
theorem lv_RX11_197 : LV RX11 197 yy_X1_remember 1 := ⟨mk_X1_remember, (by decide +kernel), (tb_in 705 (by decide +kernel) (by decide +kernel)), (sb_in 48 (by decide +kernel) (by decide +kernel)), Or.inr ⟨"OneMirror", nb_in 703 (by decide +kernel) rfl⟩⟩
theorem lv_RX11_201 : LV RX11 201 yy_X2_addTelling 5 := ⟨mk_X2_addTelling, (by decide +kernel), (tb_in 722 (by decide +kernel) (by decide +kernel)), (sb_in 50 (by decide +kernel) (by decide +kernel)), Or.inr ⟨"OneMirror", nb_in 720 (by decide +kernel) rfl⟩⟩
theorem lv_RX11_211 : LV RX11 211 yy_X2_isFace 1 := ⟨mk_X2_isFace, (by decide +kernel), (tb_in 738 (by decide +kernel) (by decide +kernel)), (sb_in 53 (by decide +kernel) (by decide +kernel)), Or.inr ⟨"OneMirror", nb_in 736 (by decide +kernel) rfl⟩⟩
theorem lv_RX11_214 : LV RX11 214 yy_X2_addLook 0 := ⟨mk_X2_addLook, (by decide +kernel), (tb_in 747 (by decide +kernel) (by decide +kernel)), (sb_in 54 (by decide +kernel) (by decide +kernel)), Or.inr ⟨"OneMirror", nb_in 745 (by decide +kernel) rfl⟩⟩
theorem lv_RX11_217 : LV RX11 217 yy_X11_canAct 0 := ⟨mk_X11_canAct, (by decide +kernel), (tb_in 687 (by decide +kernel) (by decide +kernel)), (sb_in 44 (by decide +kernel) (by decide +kernel)), Or.inl (tb_in 685 (by decide +kernel) (by decide +kernel))⟩
theorem lv_RX11_220 : LV RX11 220 yy_X2_hasBoat 2 := ⟨mk_X2_hasBoat, (by decide +kernel), (tb_in 757 (by decide +kernel) (by decide +kernel)), (sb_in 55 (by decide +kernel) (by decide +kernel)), Or.inr ⟨"OneMirror", nb_in 755 (by decide +kernel) rfl⟩⟩
theorem lv_RX11_224 : LV RX11 224 yy_X1_restore 1 := ⟨mk_X1_restore, (by decide +kernel), (tb_in 786 (by decide +kernel) (by decide +kernel)), (sb_in 56 (by decide +kernel) (by decide +kernel)), Or.inr ⟨"OneMirror", nb_in 784 (by decide +kernel) rfl⟩⟩
theorem lv_RX11_227 : LV RX11 227 yy_X11_isRule 1 := ⟨mk_X11_isRule, (by decide +kernel), (tb_in 556 (by decide +kernel) (by decide +kernel)), (sb_in 22 (by decide +kernel) (by decide +kernel)), Or.inl (tb_in 554 (by decide +kernel) (by decide +kernel))⟩
theorem lv_RX11_230 : LV RX11 230 yy_X11_runHour 1 := ⟨mk_X11_runHour, (by decide +kernel), (tb_in 796 (by decide +kernel) (by decide +kernel)), (sb_in 57 (by decide +kernel) (by decide +kernel)), Or.inl (tb_in 794 (by decide +kernel) (by decide +kernel))⟩
theorem lv_RX11_234 : LV RX11 234 yy_X2_leanOf 1 := ⟨mk_X2_leanOf, (by decide +kernel), (tb_in 822 (by decide +kernel) (by decide +kernel)), (sb_in 62 (by decide +kernel) (by decide +kernel)), Or.inr ⟨"OneMirror", nb_in 820 (by decide +kernel) rfl⟩⟩
theorem lv_RX11_237 : LV RX11 237 yy_X4_addLeans 2 := ⟨mk_X4_addLeans, (by decide +kernel), (tb_in 836 (by decide +kernel) (by decide +kernel)), (sb_in 63 (by decide +kernel) (by decide +kernel)), Or.inr ⟨"OneMirror", nb_in 834 (by decide +kernel) rfl⟩⟩
theorem lv_RX11_241 : LV RX11 241 yy_X4_marksAbove 1 := ⟨mk_X4_marksAbove, (by decide +kernel), (tb_in 644 (by decide +kernel) (by decide +kernel)), (sb_in 39 (by decide +kernel) (by decide +kernel)), Or.inr ⟨"OneMirror", nb_in 839 (by decide +kernel) rfl⟩⟩
theorem lv_RX11_245 : LV RX11 245 yy_X4_marksEven 1 := ⟨mk_X4_marksEven, (by decide +kernel), (tb_in 652 (by decide +kernel) (by decide +kernel)), (sb_in 41 (by decide +kernel) (by decide +kernel)), Or.inr ⟨"OneMirror", nb_in 840 (by decide +kernel) rfl⟩⟩
theorem lv_RX11_248 : LV RX11 248 yy_X2_flatteryOf 1 := ⟨mk_X2_flatteryOf, (by decide +kernel), (tb_in 847 (by decide +kernel) (by decide +kernel)), (sb_in 64 (by decide +kernel) (by decide +kernel)), Or.inr ⟨"OneMirror", nb_in 845 (by decide +kernel) rfl⟩⟩
theorem lv_RX11_251 : LV RX11 251 yy_X2_flatterer 0 := ⟨mk_X2_flatterer, (by decide +kernel), (tb_in 851 (by decide +kernel) (by decide +kernel)), (sb_in 65 (by decide +kernel) (by decide +kernel)), Or.inr ⟨"OneMirror", nb_in 849 (by decide +kernel) rfl⟩⟩
theorem lv_RX11_255 : LV RX11 255 yy_X4_marksTurnedBy 4 := ⟨mk_X4_marksTurnedBy, (by decide +kernel), (tb_in 860 (by decide +kernel) (by decide +kernel)), (sb_in 66 (by decide +kernel) (by decide +kernel)), Or.inr ⟨"OneMirror", nb_in 858 (by decide +kernel) rfl⟩⟩
theorem lv_RX11_259 : LV RX11 259 yy_X2_firstOf 1 := ⟨mk_X2_firstOf, (by decide +kernel), (tb_in 871 (by decide +kernel) (by decide +kernel)), (sb_in 67 (by decide +kernel) (by decide +kernel)), Or.inr ⟨"OneMirror", nb_in 869 (by decide +kernel) rfl⟩⟩
theorem lv_RX11_262 : LV RX11 262 yy_X2_slippedAt 2 := ⟨mk_X2_slippedAt, (by decide +kernel), (tb_in 879 (by decide +kernel) (by decide +kernel)), (sb_in 68 (by decide +kernel) (by decide +kernel)), Or.inr ⟨"OneMirror", nb_in 877 (by decide +kernel) rfl⟩⟩
theorem lv_RX11_268 : LV RX11 268 yy_X6_cutTo 1 := ⟨mk_X6_cutTo, (by decide +kernel), (tb_in 368 (by decide +kernel) (by decide +kernel)), (sb_in 2 (by decide +kernel) (by decide +kernel)), Or.inr ⟨"OneMirror", nb_in 885 (by decide +kernel) rfl⟩⟩
theorem lv_RX11_271 : LV RX11 271 yy_X6_isFull 0 := ⟨mk_X6_isFull, (by decide +kernel), (tb_in 691 (by decide +kernel) (by decide +kernel)), (sb_in 45 (by decide +kernel) (by decide +kernel)), Or.inr ⟨"OneMirror", nb_in 689 (by decide +kernel) rfl⟩⟩
theorem lv_RX11_274 : LV RX11 274 yy_X2_addWish 4 := ⟨mk_X2_addWish, (by decide +kernel), (tb_in 888 (by decide +kernel) (by decide +kernel)), (sb_in 69 (by decide +kernel) (by decide +kernel)), Or.inr ⟨"OneMirror", nb_in 886 (by decide +kernel) rfl⟩⟩
theorem lv_RX11_278 : LV RX11 278 yy_X5_plan 2 := ⟨mk_X5_plan, (by decide +kernel), (tb_in 896 (by decide +kernel) (by decide +kernel)), (sb_in 70 (by decide +kernel) (by decide +kernel)), Or.inr ⟨"OneMirror", nb_in 894 (by decide +kernel) rfl⟩⟩
theorem lv_RX11_290 : LV RX11 290 yy_X2_addView 2 := ⟨mk_X2_addView, (by decide +kernel), (tb_in 948 (by decide +kernel) (by decide +kernel)), (sb_in 78 (by decide +kernel) (by decide +kernel)), Or.inr ⟨"OneMirror", nb_in 946 (by decide +kernel) rfl⟩⟩
theorem lv_RX11_294 : LV RX11 294 yy_X2_peopleFitting 1 := ⟨mk_X2_peopleFitting, (by decide +kernel), (tb_in 956 (by decide +kernel) (by decide +kernel)), (sb_in 79 (by decide +kernel) (by decide +kernel)), Or.inr ⟨"OneMirror", nb_in 954 (by decide +kernel) rfl⟩⟩
theorem lv_RX11_297 : LV RX11 297 yy_X0_fewestFor 1 := ⟨mk_X0_fewestFor, (by decide +kernel), (tb_in 968 (by decide +kernel) (by decide +kernel)), (sb_in 81 (by decide +kernel) (by decide +kernel)), Or.inr ⟨"OneMirror", nb_in 966 (by decide +kernel) rfl⟩⟩
theorem lv_RX11_300 : LV RX11 300 yy_X2_mostViewsOfOne 0 := ⟨mk_X2_mostViewsOfOne, (by decide +kernel), (tb_in 982 (by decide +kernel) (by decide +kernel)), (sb_in 84 (by decide +kernel) (by decide +kernel)), Or.inr ⟨"OneMirror", nb_in 980 (by decide +kernel) rfl⟩⟩
theorem lv_RX11_303 : LV RX11 303 yy_X2_sworn 1 := ⟨mk_X2_sworn, (by decide +kernel), (tb_in 988 (by decide +kernel) (by decide +kernel)), (sb_in 85 (by decide +kernel) (by decide +kernel)), Or.inr ⟨"OneMirror", nb_in 986 (by decide +kernel) rfl⟩⟩
theorem lv_RX11_306 : LV RX11 306 yy_X2_copyFrom 1 := ⟨mk_X2_copyFrom, (by decide +kernel), (tb_in 1000 (by decide +kernel) (by decide +kernel)), (sb_in 86 (by decide +kernel) (by decide +kernel)), Or.inr ⟨"OneMirror", nb_in 998 (by decide +kernel) rfl⟩⟩
theorem lv_RX11_309 : LV RX11 309 yy_X11_drawHour 3 := ⟨mk_X11_drawHour, (by decide +kernel), (tb_in 1011 (by decide +kernel) (by decide +kernel)), (sb_in 88 (by decide +kernel) (by decide +kernel)), Or.inl (tb_in 1009 (by decide +kernel) (by decide +kernel))⟩
theorem lv_RX11_312 : LV RX11 312 yy_X11_peopleWhoKnow 1 := ⟨mk_X11_peopleWhoKnow, (by decide +kernel), (tb_in 1027 (by decide +kernel) (by decide +kernel)), (sb_in 91 (by decide +kernel) (by decide +kernel)), Or.inl (tb_in 1025 (by decide +kernel) (by decide +kernel))⟩
theorem lv_RX11_315 : LV RX11 315 yy_X11_marksOpen 1 := ⟨mk_X11_marksOpen, (by decide +kernel), (tb_in 1031 (by decide +kernel) (by decide +kernel)), (sb_in 92 (by decide +kernel) (by decide +kernel)), Or.inl (tb_in 1029 (by decide +kernel) (by decide +kernel))⟩
theorem lv_RX11_321 : LV RX11 321 yy_X2_lookers 0 := ⟨mk_X2_lookers, (by decide +kernel), (tb_in 800 (by decide +kernel) (by decide +kernel)), (sb_in 58 (by decide +kernel) (by decide +kernel)), Or.inr ⟨"OneMirror", nb_in 798 (by decide +kernel) rfl⟩⟩
theorem lv_RX11_324 : LV RX11 324 yy_X11_tellWhoHeedsMost 1 := ⟨mk_X11_tellWhoHeedsMost, (by decide +kernel), (tb_in 804 (by decide +kernel) (by decide +kernel)), (sb_in 59 (by decide +kernel) (by decide +kernel)), Or.inl (tb_in 802 (by decide +kernel) (by decide +kernel))⟩
theorem lv_RX11_327 : LV RX11 327 yy_X2_nextToLook 1 := ⟨mk_X2_nextToLook, (by decide +kernel), (tb_in 813 (by decide +kernel) (by decide +kernel)), (sb_in 61 (by decide +kernel) (by decide +kernel)), Or.inr ⟨"OneMirror", nb_in 811 (by decide +kernel) rfl⟩⟩
theorem lv_RX11_330 : LV RX11 330 yy_X2_whoHeedsMost 1 := ⟨mk_X2_whoHeedsMost, (by decide +kernel), (tb_in 808 (by decide +kernel) (by decide +kernel)), (sb_in 60 (by decide +kernel) (by decide +kernel)), Or.inr ⟨"OneMirror", nb_in 806 (by decide +kernel) rfl⟩⟩
theorem lv_RX11_333 : LV RX11 333 yy_X2_nextDraw 0 := ⟨mk_X2_nextDraw, (by decide +kernel), (tb_in 1015 (by decide +kernel) (by decide +kernel)), (sb_in 89 (by decide +kernel) (by decide +kernel)), Or.inr ⟨"OneMirror", nb_in 1013 (by decide +kernel) rfl⟩⟩
theorem lv_RX11_336 : LV RX11 336 yy_X11_drawSlips 2 := ⟨mk_X11_drawSlips, (by decide +kernel), (tb_in 1023 (by decide +kernel) (by decide +kernel)), (sb_in 90 (by decide +kernel) (by decide +kernel)), Or.inl (tb_in 1021 (by decide +kernel) (by decide +kernel))⟩
theorem lt_RX11_340 : LT RX11 340 yy_J6_bitCount_0f7a4 1 := ⟨mk_J6_bitCount_0f7a4, (by decide +kernel), (tb_in 825 (by decide +kernel) (by decide +kernel)), Or.inl (tb_in 1033 (by decide +kernel) (by decide +kernel))⟩
theorem lv_RX0_16 : LV RX0 16 yy_X2_lastFace 0 := ⟨mk_X2_lastFace, (by decide +kernel), (tb_in 479 (by decide +kernel) (by decide +kernel)), (sb_in 14 (by decide +kernel) (by decide +kernel)), Or.inr ⟨"OneMirror", nb_in 970 (by decide +kernel) rfl⟩⟩
theorem lt_RX0_22 : LT RX0 22 yy_J9_min_7cf53 2 := ⟨mk_J9_min_7cf53, (by decide +kernel), (tb_in 711 (by decide +kernel) (by decide +kernel)), Or.inl (tb_in 971 (by decide +kernel) (by decide +kernel))⟩
theorem lv_RX0_28 : LV RX0 28 yy_X2_viewsOf 1 := ⟨mk_X2_viewsOf, (by decide +kernel), (tb_in 974 (by decide +kernel) (by decide +kernel)), (sb_in 82 (by decide +kernel) (by decide +kernel)), Or.inr ⟨"OneMirror", nb_in 972 (by decide +kernel) rfl⟩⟩
theorem lv_RX0_42 : LV RX0 42 yy_X0_fewestOf 2 := ⟨mk_X0_fewestOf, (by decide +kernel), (tb_in 978 (by decide +kernel) (by decide +kernel)), (sb_in 83 (by decide +kernel) (by decide +kernel)), Or.inl (tb_in 976 (by decide +kernel) (by decide +kernel))⟩
theorem lt_RX1_20 : LT RX1 20 yy_J9_floorMod_7cf53 2 := ⟨mk_J9_floorMod_7cf53, (by decide +kernel), (tb_in 708 (by decide +kernel) (by decide +kernel)), Or.inl (tb_in 707 (by decide +kernel) (by decide +kernel))⟩
theorem lt_RX1_26 : LT RX1 26 yy_J9_min_7cf53 2 := ⟨mk_J9_min_7cf53, (by decide +kernel), (tb_in 711 (by decide +kernel) (by decide +kernel)), Or.inl (tb_in 710 (by decide +kernel) (by decide +kernel))⟩
theorem lv_RX1_29 : LV RX1 29 yy_X1_startOfNewest 0 := ⟨mk_X1_startOfNewest, (by decide +kernel), (tb_in 715 (by decide +kernel) (by decide +kernel)), (sb_in 49 (by decide +kernel) (by decide +kernel)), Or.inl (tb_in 713 (by decide +kernel) (by decide +kernel))⟩
theorem lv_RX1_64 : LV RX1 64 yy_X6_cutTo 1 := ⟨mk_X6_cutTo, (by decide +kernel), (tb_in 368 (by decide +kernel) (by decide +kernel)), (sb_in 2 (by decide +kernel) (by decide +kernel)), Or.inr ⟨"OneMirror", nb_in 788 (by decide +kernel) rfl⟩⟩
theorem lt_RX1_68 : LT RX1 68 yy_J9_max_7cf53 2 := ⟨mk_J9_max_7cf53, (by decide +kernel), (tb_in 627 (by decide +kernel) (by decide +kernel)), Or.inl (tb_in 789 (by decide +kernel) (by decide +kernel))⟩
theorem li_RX2_29 : LI RX2 29 yy_X6_init 2 := ⟨mk_X6_init, (by decide +kernel), (tb_in 118 (by decide +kernel) (by decide +kernel)), rfl, rfl, Or.inr ⟨"OneMirror", nb_in 117 (by decide +kernel) rfl⟩⟩
theorem lv_RX2_46 : LV RX2 46 yy_X6_cutTo 1 := ⟨mk_X6_cutTo, (by decide +kernel), (tb_in 368 (by decide +kernel) (by decide +kernel)), (sb_in 2 (by decide +kernel) (by decide +kernel)), Or.inr ⟨"OneMirror", nb_in 366 (by decide +kernel) rfl⟩⟩
theorem lv_RX2_72 : LV RX2 72 yy_X6_copyFrom 1 := ⟨mk_X6_copyFrom, (by decide +kernel), (tb_in 1005 (by decide +kernel) (by decide +kernel)), (sb_in 87 (by decide +kernel) (by decide +kernel)), Or.inr ⟨"OneMirror", nb_in 1003 (by decide +kernel) rfl⟩⟩
theorem lv_RX2_79 : LV RX2 79 yy_X2_has 1 := ⟨mk_X2_has, (by decide +kernel), (tb_in 493 (by decide +kernel) (by decide +kernel)), (sb_in 16 (by decide +kernel) (by decide +kernel)), Or.inl (tb_in 491 (by decide +kernel) (by decide +kernel))⟩
theorem lv_RX2_83 : LV RX2 83 yy_X2_lastFace 0 := ⟨mk_X2_lastFace, (by decide +kernel), (tb_in 479 (by decide +kernel) (by decide +kernel)), (sb_in 14 (by decide +kernel) (by decide +kernel)), Or.inl (tb_in 740 (by decide +kernel) (by decide +kernel))⟩
theorem lv_RX2_87 : LV RX2 87 yy_X2_hasTwo 2 := ⟨mk_X2_hasTwo, (by decide +kernel), (tb_in 489 (by decide +kernel) (by decide +kernel)), (sb_in 15 (by decide +kernel) (by decide +kernel)), Or.inl (tb_in 759 (by decide +kernel) (by decide +kernel))⟩
theorem lv_RX2_91 : LV RX2 91 yy_X2_heed 2 := ⟨mk_X2_heed, (by decide +kernel), (tb_in 615 (by decide +kernel) (by decide +kernel)), (sb_in 35 (by decide +kernel) (by decide +kernel)), Or.inl (tb_in 810 (by decide +kernel) (by decide +kernel))⟩
theorem lv_RX2_102 : LV RX2 102 yy_X6_at 2 := ⟨mk_X6_at, (by decide +kernel), (tb_in 573 (by decide +kernel) (by decide +kernel)), (sb_in 25 (by decide +kernel) (by decide +kernel)), Or.inr ⟨"OneMirror", nb_in 571 (by decide +kernel) rfl⟩⟩
theorem lv_RX2_105 : LV RX2 105 yy_X6_addRow 0 := ⟨mk_X6_addRow, (by decide +kernel), (tb_in 726 (by decide +kernel) (by decide +kernel)), (sb_in 51 (by decide +kernel) (by decide +kernel)), Or.inr ⟨"OneMirror", nb_in 724 (by decide +kernel) rfl⟩⟩
theorem lv_RX2_108 : LV RX2 108 yy_X6_put 2 := ⟨mk_X6_put, (by decide +kernel), (tb_in 730 (by decide +kernel) (by decide +kernel)), (sb_in 52 (by decide +kernel) (by decide +kernel)), Or.inr ⟨"OneMirror", nb_in 728 (by decide +kernel) rfl⟩⟩
theorem lv_RX2_111 : LV RX2 111 yy_X2_faceOf 1 := ⟨mk_X2_faceOf, (by decide +kernel), (tb_in 695 (by decide +kernel) (by decide +kernel)), (sb_in 46 (by decide +kernel) (by decide +kernel)), Or.inl (tb_in 749 (by decide +kernel) (by decide +kernel))⟩
theorem lv_RX2_115 : LV RX2 115 yy_X2_addTelling 5 := ⟨mk_X2_addTelling, (by decide +kernel), (tb_in 722 (by decide +kernel) (by decide +kernel)), (sb_in 50 (by decide +kernel) (by decide +kernel)), Or.inl (tb_in 750 (by decide +kernel) (by decide +kernel))⟩
theorem lv_RX2_122 : LV RX2 122 yy_X2_isLook 1 := ⟨mk_X2_isLook, (by decide +kernel), (tb_in 569 (by decide +kernel) (by decide +kernel)), (sb_in 24 (by decide +kernel) (by decide +kernel)), Or.inl (tb_in 567 (by decide +kernel) (by decide +kernel))⟩
theorem lv_RX2_125 : LV RX2 125 yy_X2_hasBoat 2 := ⟨mk_X2_hasBoat, (by decide +kernel), (tb_in 757 (by decide +kernel) (by decide +kernel)), (sb_in 55 (by decide +kernel) (by decide +kernel)), Or.inl (tb_in 815 (by decide +kernel) (by decide +kernel))⟩
theorem lt_RX2_128 : LT RX2 128 yy_J6_bitCount_0f7a4 1 := ⟨mk_J6_bitCount_0f7a4, (by decide +kernel), (tb_in 825 (by decide +kernel) (by decide +kernel)), Or.inl (tb_in 824 (by decide +kernel) (by decide +kernel))⟩
theorem lv_RX2_133 : LV RX2 133 yy_X2_flatteryOf 1 := ⟨mk_X2_flatteryOf, (by decide +kernel), (tb_in 847 (by decide +kernel) (by decide +kernel)), (sb_in 64 (by decide +kernel) (by decide +kernel)), Or.inl (tb_in 853 (by decide +kernel) (by decide +kernel))⟩
theorem lv_RX2_136 : LV RX2 136 yy_X2_canBeOf 2 := ⟨mk_X2_canBeOf, (by decide +kernel), (tb_in 960 (by decide +kernel) (by decide +kernel)), (sb_in 80 (by decide +kernel) (by decide +kernel)), Or.inl (tb_in 958 (by decide +kernel) (by decide +kernel))⟩
theorem lv_RX2_139 : LV RX2 139 yy_X2_viewsOf 1 := ⟨mk_X2_viewsOf, (by decide +kernel), (tb_in 974 (by decide +kernel) (by decide +kernel)), (sb_in 82 (by decide +kernel) (by decide +kernel)), Or.inl (tb_in 984 (by decide +kernel) (by decide +kernel))⟩
theorem lt_RX2_142 : LT RX2 142 yy_J9_max_7cf53 2 := ⟨mk_J9_max_7cf53, (by decide +kernel), (tb_in 627 (by decide +kernel) (by decide +kernel)), Or.inl (tb_in 985 (by decide +kernel) (by decide +kernel))⟩
theorem lv_RX3_7 : LV RX3 7 yy_X2_clear 0 := ⟨mk_X2_clear, (by decide +kernel), (tb_in 364 (by decide +kernel) (by decide +kernel)), (sb_in 1 (by decide +kernel) (by decide +kernel)), Or.inr ⟨"OneMirror", nb_in 362 (by decide +kernel) rfl⟩⟩
theorem lv_RX3_12 : LV RX3 12 yy_X10_scan 0 := ⟨mk_X10_scan, (by decide +kernel), (tb_in 372 (by decide +kernel) (by decide +kernel)), (sb_in 3 (by decide +kernel) (by decide +kernel)), Or.inr ⟨"OneMirror", nb_in 370 (by decide +kernel) rfl⟩⟩
theorem lt_RX3_19 : LT RX3 19 yy_X3_readClause 3 := ⟨mk_X3_readClause, (by decide +kernel), (tb_in 458 (by decide +kernel) (by decide +kernel)), Or.inl (tb_in 457 (by decide +kernel) (by decide +kernel))⟩
theorem lv_RX3_27 : LV RX3 27 yy_X10_step 0 := ⟨mk_X10_step, (by decide +kernel), (tb_in 466 (by decide +kernel) (by decide +kernel)), (sb_in 12 (by decide +kernel) (by decide +kernel)), Or.inr ⟨"OneMirror", nb_in 464 (by decide +kernel) rfl⟩⟩
theorem lv_RX3_33 : LV RX3 33 yy_X10_refuse 1 := ⟨mk_X10_refuse, (by decide +kernel), (tb_in 462 (by decide +kernel) (by decide +kernel)), (sb_in 11 (by decide +kernel) (by decide +kernel)), Or.inr ⟨"OneMirror", nb_in 460 (by decide +kernel) rfl⟩⟩
theorem lv_RX3_37 : LV RX3 37 yy_X10_takeNumber 2 := ⟨mk_X10_takeNumber, (by decide +kernel), (tb_in 470 (by decide +kernel) (by decide +kernel)), (sb_in 13 (by decide +kernel) (by decide +kernel)), Or.inr ⟨"OneMirror", nb_in 468 (by decide +kernel) rfl⟩⟩
theorem lt_RX3_44 : LT RX3 44 yy_X3_readPerson 2 := ⟨mk_X3_readPerson, (by decide +kernel), (tb_in 475 (by decide +kernel) (by decide +kernel)), Or.inl (tb_in 474 (by decide +kernel) (by decide +kernel))⟩
theorem lt_RX3_48 : LT RX3 48 yy_X3_readTie 2 := ⟨mk_X3_readTie, (by decide +kernel), (tb_in 482 (by decide +kernel) (by decide +kernel)), Or.inl (tb_in 481 (by decide +kernel) (by decide +kernel))⟩
theorem lt_RX3_51 : LT RX3 51 yy_X3_readBoat 2 := ⟨mk_X3_readBoat, (by decide +kernel), (tb_in 496 (by decide +kernel) (by decide +kernel)), Or.inl (tb_in 495 (by decide +kernel) (by decide +kernel))⟩
theorem lv_RX3_57 : LV RX3 57 yy_X2_lastFace 0 := ⟨mk_X2_lastFace, (by decide +kernel), (tb_in 479 (by decide +kernel) (by decide +kernel)), (sb_in 14 (by decide +kernel) (by decide +kernel)), Or.inr ⟨"OneMirror", nb_in 477 (by decide +kernel) rfl⟩⟩
theorem lt_RX3_71 : LT RX3 71 yy_X3_takeOther 3 := ⟨mk_X3_takeOther, (by decide +kernel), (tb_in 485 (by decide +kernel) (by decide +kernel)), Or.inl (tb_in 484 (by decide +kernel) (by decide +kernel))⟩
theorem lv_RX3_75 : LV RX3 75 yy_X2_hasTwo 2 := ⟨mk_X2_hasTwo, (by decide +kernel), (tb_in 489 (by decide +kernel) (by decide +kernel)), (sb_in 15 (by decide +kernel) (by decide +kernel)), Or.inr ⟨"OneMirror", nb_in 487 (by decide +kernel) rfl⟩⟩
theorem li_RX4_9 : LI RX4 9 yy_X9_init 0 := ⟨mk_X9_init, (by decide +kernel), (tb_in 248 (by decide +kernel) (by decide +kernel)), rfl, rfl, Or.inr ⟨"OneMirror", nb_in 247 (by decide +kernel) rfl⟩⟩
theorem lv_RX4_22 : LV RX4 22 yy_X9_set 5 := ⟨mk_X9_set, (by decide +kernel), (tb_in 611 (by decide +kernel) (by decide +kernel)), (sb_in 34 (by decide +kernel) (by decide +kernel)), Or.inr ⟨"OneMirror", nb_in 701 (by decide +kernel) rfl⟩⟩
theorem lv_RX4_28 : LV RX4 28 yy_X2_lastFace 0 := ⟨mk_X2_lastFace, (by decide +kernel), (tb_in 479 (by decide +kernel) (by decide +kernel)), (sb_in 14 (by decide +kernel) (by decide +kernel)), Or.inr ⟨"OneMirror", nb_in 702 (by decide +kernel) rfl⟩⟩
theorem lv_RX4_32 : LV RX4 32 yy_X7_chosen 4 := ⟨mk_X7_chosen, (by decide +kernel), (tb_in 620 (by decide +kernel) (by decide +kernel)), (sb_in 36 (by decide +kernel) (by decide +kernel)), Or.inr ⟨"OneMirror", nb_in 618 (by decide +kernel) rfl⟩⟩
theorem lv_RX4_38 : LV RX4 38 yy_X9_setAs 2 := ⟨mk_X9_setAs, (by decide +kernel), (tb_in 606 (by decide +kernel) (by decide +kernel)), (sb_in 33 (by decide +kernel) (by decide +kernel)), Or.inr ⟨"OneMirror", nb_in 604 (by decide +kernel) rfl⟩⟩
theorem lv_RX4_42 : LV RX4 42 yy_X2_isLook 1 := ⟨mk_X2_isLook, (by decide +kernel), (tb_in 569 (by decide +kernel) (by decide +kernel)), (sb_in 24 (by decide +kernel) (by decide +kernel)), Or.inr ⟨"OneMirror", nb_in 617 (by decide +kernel) rfl⟩⟩
theorem lv_RX4_46 : LV RX4 46 yy_X4_clearSums 0 := ⟨mk_X4_clearSums, (by decide +kernel), (tb_in 597 (by decide +kernel) (by decide +kernel)), (sb_in 31 (by decide +kernel) (by decide +kernel)), Or.inl (tb_in 595 (by decide +kernel) (by decide +kernel))⟩
theorem lv_RX4_59 : LV RX4 59 yy_X6_at 2 := ⟨mk_X6_at, (by decide +kernel), (tb_in 573 (by decide +kernel) (by decide +kernel)), (sb_in 25 (by decide +kernel) (by decide +kernel)), Or.inr ⟨"OneMirror", nb_in 599 (by decide +kernel) rfl⟩⟩
theorem lv_RX4_63 : LV RX4 63 yy_X4_weightOf 3 := ⟨mk_X4_weightOf, (by decide +kernel), (tb_in 602 (by decide +kernel) (by decide +kernel)), (sb_in 32 (by decide +kernel) (by decide +kernel)), Or.inl (tb_in 600 (by decide +kernel) (by decide +kernel))⟩
theorem lv_RX4_67 : LV RX4 67 yy_X4_addFace 3 := ⟨mk_X4_addFace, (by decide +kernel), (tb_in 640 (by decide +kernel) (by decide +kernel)), (sb_in 38 (by decide +kernel) (by decide +kernel)), Or.inl (tb_in 638 (by decide +kernel) (by decide +kernel))⟩
theorem lv_RX4_71 : LV RX4 71 yy_X2_leanOf 1 := ⟨mk_X2_leanOf, (by decide +kernel), (tb_in 822 (by decide +kernel) (by decide +kernel)), (sb_in 62 (by decide +kernel) (by decide +kernel)), Or.inr ⟨"OneMirror", nb_in 838 (by decide +kernel) rfl⟩⟩
theorem lv_RX4_78 : LV RX4 78 yy_X4_addUp 3 := ⟨mk_X4_addUp, (by decide +kernel), (tb_in 593 (by decide +kernel) (by decide +kernel)), (sb_in 30 (by decide +kernel) (by decide +kernel)), Or.inl (tb_in 591 (by decide +kernel) (by decide +kernel))⟩
theorem lv_RX4_82 : LV RX4 82 yy_X4_marksAbove 1 := ⟨mk_X4_marksAbove, (by decide +kernel), (tb_in 644 (by decide +kernel) (by decide +kernel)), (sb_in 39 (by decide +kernel) (by decide +kernel)), Or.inl (tb_in 642 (by decide +kernel) (by decide +kernel))⟩
theorem lv_RX4_86 : LV RX4 86 yy_X4_marksEven 1 := ⟨mk_X4_marksEven, (by decide +kernel), (tb_in 652 (by decide +kernel) (by decide +kernel)), (sb_in 41 (by decide +kernel) (by decide +kernel)), Or.inl (tb_in 650 (by decide +kernel) (by decide +kernel))⟩
theorem lt_RX4_89 : LT RX4 89 yy_J9_abs_0f7a4 1 := ⟨mk_J9_abs_0f7a4, (by decide +kernel), (tb_in 863 (by decide +kernel) (by decide +kernel)), Or.inl (tb_in 862 (by decide +kernel) (by decide +kernel))⟩
theorem lt_RX5_22 : LT RX5 22 yy_J9_min_7cf53 2 := ⟨mk_J9_min_7cf53, (by decide +kernel), (tb_in 711 (by decide +kernel) (by decide +kernel)), Or.inl (tb_in 898 (by decide +kernel) (by decide +kernel))⟩
theorem lt_RX5_28 : LT RX5 28 yy_J9_max_7cf53 2 := ⟨mk_J9_max_7cf53, (by decide +kernel), (tb_in 627 (by decide +kernel) (by decide +kernel)), Or.inl (tb_in 899 (by decide +kernel) (by decide +kernel))⟩
theorem lv_RX5_31 : LV RX5 31 yy_X5_addWorths 1 := ⟨mk_X5_addWorths, (by decide +kernel), (tb_in 902 (by decide +kernel) (by decide +kernel)), (sb_in 71 (by decide +kernel) (by decide +kernel)), Or.inl (tb_in 900 (by decide +kernel) (by decide +kernel))⟩
theorem lv_RX5_39 : LV RX5 39 yy_X5_gather 4 := ⟨mk_X5_gather, (by decide +kernel), (tb_in 907 (by decide +kernel) (by decide +kernel)), (sb_in 72 (by decide +kernel) (by decide +kernel)), Or.inl (tb_in 905 (by decide +kernel) (by decide +kernel))⟩
theorem lt_RX5_43 : LT RX5 43 yy_X5_start 2 := ⟨mk_X5_start, (by decide +kernel), (tb_in 910 (by decide +kernel) (by decide +kernel)), Or.inl (tb_in 909 (by decide +kernel) (by decide +kernel))⟩
theorem lt_RX5_46 : LT RX5 46 yy_X5_served 3 := ⟨mk_X5_served, (by decide +kernel), (tb_in 917 (by decide +kernel) (by decide +kernel)), Or.inl (tb_in 916 (by decide +kernel) (by decide +kernel))⟩
theorem lv_RX5_50 : LV RX5 50 yy_X5_serve 2 := ⟨mk_X5_serve, (by decide +kernel), (tb_in 921 (by decide +kernel) (by decide +kernel)), (sb_in 73 (by decide +kernel) (by decide +kernel)), Or.inl (tb_in 919 (by decide +kernel) (by decide +kernel))⟩
theorem lv_RX5_54 : LV RX5 54 yy_X5_follow 2 := ⟨mk_X5_follow, (by decide +kernel), (tb_in 936 (by decide +kernel) (by decide +kernel)), (sb_in 76 (by decide +kernel) (by decide +kernel)), Or.inl (tb_in 934 (by decide +kernel) (by decide +kernel))⟩
theorem lv_RX5_70 : LV RX5 70 yy_X6_at 2 := ⟨mk_X6_at, (by decide +kernel), (tb_in 573 (by decide +kernel) (by decide +kernel)), (sb_in 25 (by decide +kernel) (by decide +kernel)), Or.inr ⟨"OneMirror", nb_in 904 (by decide +kernel) rfl⟩⟩
theorem lv_RX5_73 : LV RX5 73 yy_X2_hasBoat 2 := ⟨mk_X2_hasBoat, (by decide +kernel), (tb_in 757 (by decide +kernel) (by decide +kernel)), (sb_in 55 (by decide +kernel) (by decide +kernel)), Or.inr ⟨"OneMirror", nb_in 915 (by decide +kernel) rfl⟩⟩
theorem lt_RX5_77 : LT RX5 77 yy_X5_canGo 3 := ⟨mk_X5_canGo, (by decide +kernel), (tb_in 913 (by decide +kernel) (by decide +kernel)), Or.inl (tb_in 912 (by decide +kernel) (by decide +kernel))⟩
theorem lv_RX5_81 : LV RX5 81 yy_X5_serveWithinWords 2 := ⟨mk_X5_serveWithinWords, (by decide +kernel), (tb_in 925 (by decide +kernel) (by decide +kernel)), (sb_in 74 (by decide +kernel) (by decide +kernel)), Or.inl (tb_in 923 (by decide +kernel) (by decide +kernel))⟩
theorem lv_RX5_84 : LV RX5 84 yy_X5_serveByWords 2 := ⟨mk_X5_serveByWords, (by decide +kernel), (tb_in 932 (by decide +kernel) (by decide +kernel)), (sb_in 75 (by decide +kernel) (by decide +kernel)), Or.inl (tb_in 930 (by decide +kernel) (by decide +kernel))⟩
theorem lv_RX5_95 : LV RX5 95 yy_X5_mostWith 2 := ⟨mk_X5_mostWith, (by decide +kernel), (tb_in 940 (by decide +kernel) (by decide +kernel)), (sb_in 77 (by decide +kernel) (by decide +kernel)), Or.inl (tb_in 938 (by decide +kernel) (by decide +kernel))⟩
theorem lv_RX6_25 : LV RX6 25 yy_X6_has 1 := ⟨mk_X6_has, (by decide +kernel), (tb_in 577 (by decide +kernel) (by decide +kernel)), (sb_in 26 (by decide +kernel) (by decide +kernel)), Or.inl (tb_in 575 (by decide +kernel) (by decide +kernel))⟩
theorem lt_RX6_29 : LT RX6 29 yy_J9_min_7cf53 2 := ⟨mk_J9_min_7cf53, (by decide +kernel), (tb_in 711 (by decide +kernel) (by decide +kernel)), Or.inl (tb_in 1007 (by decide +kernel) (by decide +kernel))⟩
theorem lv_RX7_37 : LV RX7 37 yy_X7_reckoned 3 := ⟨mk_X7_reckoned, (by decide +kernel), (tb_in 624 (by decide +kernel) (by decide +kernel)), (sb_in 37 (by decide +kernel) (by decide +kernel)), Or.inl (tb_in 622 (by decide +kernel) (by decide +kernel))⟩
theorem lt_RX7_41 : LT RX7 41 yy_J9_min_f86c9 2 := ⟨mk_J9_min_f86c9, (by decide +kernel), (tb_in 633 (by decide +kernel) (by decide +kernel)), Or.inl (tb_in 632 (by decide +kernel) (by decide +kernel))⟩
theorem lt_RX7_47 : LT RX7 47 yy_J9_max_f86c9 2 := ⟨mk_J9_max_f86c9, (by decide +kernel), (tb_in 636 (by decide +kernel) (by decide +kernel)), Or.inl (tb_in 635 (by decide +kernel) (by decide +kernel))⟩
theorem lt_RX7_56 : LT RX7 56 yy_J9_max_7cf53 2 := ⟨mk_J9_max_7cf53, (by decide +kernel), (tb_in 627 (by decide +kernel) (by decide +kernel)), Or.inl (tb_in 626 (by decide +kernel) (by decide +kernel))⟩
theorem lt_RX7_62 : LT RX7 62 yy_X7_joined 3 := ⟨mk_X7_joined, (by decide +kernel), (tb_in 630 (by decide +kernel) (by decide +kernel)), Or.inl (tb_in 629 (by decide +kernel) (by decide +kernel))⟩
theorem lv_RX8_7 : LV RX8 7 yy_X7_clear 0 := ⟨mk_X7_clear, (by decide +kernel), (tb_in 512 (by decide +kernel) (by decide +kernel)), (sb_in 18 (by decide +kernel) (by decide +kernel)), Or.inr ⟨"OneMirror", nb_in 510 (by decide +kernel) rfl⟩⟩
theorem lv_RX8_12 : LV RX8 12 yy_X10_scan 0 := ⟨mk_X10_scan, (by decide +kernel), (tb_in 372 (by decide +kernel) (by decide +kernel)), (sb_in 3 (by decide +kernel) (by decide +kernel)), Or.inr ⟨"OneMirror", nb_in 514 (by decide +kernel) rfl⟩⟩
theorem lt_RX8_17 : LT RX8 17 yy_X8_readClause 3 := ⟨mk_X8_readClause, (by decide +kernel), (tb_in 516 (by decide +kernel) (by decide +kernel)), Or.inl (tb_in 515 (by decide +kernel) (by decide +kernel))⟩
theorem lv_RX8_27 : LV RX8 27 yy_X10_step 0 := ⟨mk_X10_step, (by decide +kernel), (tb_in 466 (by decide +kernel) (by decide +kernel)), (sb_in 12 (by decide +kernel) (by decide +kernel)), Or.inr ⟨"OneMirror", nb_in 519 (by decide +kernel) rfl⟩⟩
theorem lv_RX8_30 : LV RX8 30 yy_X10_refuse 1 := ⟨mk_X10_refuse, (by decide +kernel), (tb_in 462 (by decide +kernel) (by decide +kernel)), (sb_in 11 (by decide +kernel) (by decide +kernel)), Or.inr ⟨"OneMirror", nb_in 518 (by decide +kernel) rfl⟩⟩
theorem lt_RX8_37 : LT RX8 37 yy_X8_readSum 2 := ⟨mk_X8_readSum, (by decide +kernel), (tb_in 521 (by decide +kernel) (by decide +kernel)), Or.inl (tb_in 520 (by decide +kernel) (by decide +kernel))⟩
theorem lt_RX8_41 : LT RX8 41 yy_X8_readTest 3 := ⟨mk_X8_readTest, (by decide +kernel), (tb_in 531 (by decide +kernel) (by decide +kernel)), Or.inl (tb_in 530 (by decide +kernel) (by decide +kernel))⟩
theorem lv_RX8_44 : LV RX8 44 yy_X7_addClause 3 := ⟨mk_X7_addClause, (by decide +kernel), (tb_in 544 (by decide +kernel) (by decide +kernel)), (sb_in 20 (by decide +kernel) (by decide +kernel)), Or.inr ⟨"OneMirror", nb_in 542 (by decide +kernel) rfl⟩⟩
theorem lt_RX8_48 : LT RX8 48 yy_X8_readFact 3 := ⟨mk_X8_readFact, (by decide +kernel), (tb_in 534 (by decide +kernel) (by decide +kernel)), Or.inl (tb_in 533 (by decide +kernel) (by decide +kernel))⟩
theorem lv_RX8_51 : LV RX8 51 yy_X7_addCode 1 := ⟨mk_X7_addCode, (by decide +kernel), (tb_in 528 (by decide +kernel) (by decide +kernel)), (sb_in 19 (by decide +kernel) (by decide +kernel)), Or.inr ⟨"OneMirror", nb_in 526 (by decide +kernel) rfl⟩⟩
theorem lt_RX8_54 : LT RX8 54 yy_X8_readOpened 3 := ⟨mk_X8_readOpened, (by decide +kernel), (tb_in 537 (by decide +kernel) (by decide +kernel)), Or.inl (tb_in 536 (by decide +kernel) (by decide +kernel))⟩
theorem lt_RX8_57 : LT RX8 57 yy_X8_isComparing 1 := ⟨mk_X8_isComparing, (by decide +kernel), (tb_in 540 (by decide +kernel) (by decide +kernel)), Or.inl (tb_in 539 (by decide +kernel) (by decide +kernel))⟩
theorem lt_RX8_64 : LT RX8 64 yy_X8_readValue 2 := ⟨mk_X8_readValue, (by decide +kernel), (tb_in 524 (by decide +kernel) (by decide +kernel)), Or.inl (tb_in 523 (by decide +kernel) (by decide +kernel))⟩
theorem lv_RX9_24 : LV RX9 24 yy_X2_heed 2 := ⟨mk_X2_heed, (by decide +kernel), (tb_in 615 (by decide +kernel) (by decide +kernel)), (sb_in 35 (by decide +kernel) (by decide +kernel)), Or.inr ⟨"OneMirror", nb_in 613 (by decide +kernel) rfl⟩⟩
theorem lv_RX9_32 : LV RX9 32 yy_X6_at 2 := ⟨mk_X6_at, (by decide +kernel), (tb_in 573 (by decide +kernel) (by decide +kernel)), (sb_in 25 (by decide +kernel) (by decide +kernel)), Or.inr ⟨"OneMirror", nb_in 608 (by decide +kernel) rfl⟩⟩
theorem lv_RX9_37 : LV RX9 37 yy_X9_set 5 := ⟨mk_X9_set, (by decide +kernel), (tb_in 611 (by decide +kernel) (by decide +kernel)), (sb_in 34 (by decide +kernel) (by decide +kernel)), Or.inl (tb_in 609 (by decide +kernel) (by decide +kernel))⟩
theorem lv_RX10_35 : LV RX10 35 yy_X10_scanOne 1 := ⟨mk_X10_scanOne, (by decide +kernel), (tb_in 376 (by decide +kernel) (by decide +kernel)), (sb_in 4 (by decide +kernel) (by decide +kernel)), Or.inl (tb_in 374 (by decide +kernel) (by decide +kernel))⟩
theorem lv_RX10_39 : LV RX10 39 yy_X10_addToken 3 := ⟨mk_X10_addToken, (by decide +kernel), (tb_in 391 (by decide +kernel) (by decide +kernel)), (sb_in 7 (by decide +kernel) (by decide +kernel)), Or.inl (tb_in 389 (by decide +kernel) (by decide +kernel))⟩
theorem lv_RX10_49 : LV RX10 49 yy_X10_byteAt 1 := ⟨mk_X10_byteAt, (by decide +kernel), (tb_in 380 (by decide +kernel) (by decide +kernel)), (sb_in 5 (by decide +kernel) (by decide +kernel)), Or.inl (tb_in 378 (by decide +kernel) (by decide +kernel))⟩
theorem lt_RX10_52 : LT RX10 52 yy_X10_isDigit 1 := ⟨mk_X10_isDigit, (by decide +kernel), (tb_in 383 (by decide +kernel) (by decide +kernel)), Or.inl (tb_in 382 (by decide +kernel) (by decide +kernel))⟩
theorem lv_RX10_56 : LV RX10 56 yy_X10_scanNumber 1 := ⟨mk_X10_scanNumber, (by decide +kernel), (tb_in 387 (by decide +kernel) (by decide +kernel)), (sb_in 6 (by decide +kernel) (by decide +kernel)), Or.inl (tb_in 385 (by decide +kernel) (by decide +kernel))⟩
theorem lt_RX10_59 : LT RX10 59 yy_X10_isLetter 1 := ⟨mk_X10_isLetter, (by decide +kernel), (tb_in 394 (by decide +kernel) (by decide +kernel)), Or.inl (tb_in 393 (by decide +kernel) (by decide +kernel))⟩
theorem lv_RX10_62 : LV RX10 62 yy_X10_scanWord 1 := ⟨mk_X10_scanWord, (by decide +kernel), (tb_in 398 (by decide +kernel) (by decide +kernel)), (sb_in 8 (by decide +kernel) (by decide +kernel)), Or.inl (tb_in 396 (by decide +kernel) (by decide +kernel))⟩
theorem lv_RX10_65 : LV RX10 65 yy_X10_wordOf 2 := ⟨mk_X10_wordOf, (by decide +kernel), (tb_in 402 (by decide +kernel) (by decide +kernel)), (sb_in 9 (by decide +kernel) (by decide +kernel)), Or.inl (tb_in 400 (by decide +kernel) (by decide +kernel))⟩
theorem lv_RX10_71 : LV RX10 71 yy_J0_length_8abf5 0 := ⟨mk_J0_length_8abf5, (by decide +kernel), (tb_in 406 (by decide +kernel) (by decide +kernel)), (tb_in 407 (by decide +kernel) (by decide +kernel)), Or.inl (tb_in 405 (by decide +kernel) (by decide +kernel))⟩
theorem lv_RX10_77 : LV RX10 77 yy_J0_charAt_5068e 1 := ⟨mk_J0_charAt_5068e, (by decide +kernel), (tb_in 416 (by decide +kernel) (by decide +kernel)), (tb_in 417 (by decide +kernel) (by decide +kernel)), Or.inl (tb_in 415 (by decide +kernel) (by decide +kernel))⟩
theorem lv_RX10_81 : LV RX10 81 yy_X10_isWordAt 3 := ⟨mk_X10_isWordAt, (by decide +kernel), (tb_in 455 (by decide +kernel) (by decide +kernel)), (sb_in 10 (by decide +kernel) (by decide +kernel)), Or.inl (tb_in 453 (by decide +kernel) (by decide +kernel))⟩
theorem lv_RX10_85 : LV RX10 85 yy_X10_refuse 1 := ⟨mk_X10_refuse, (by decide +kernel), (tb_in 462 (by decide +kernel) (by decide +kernel)), (sb_in 11 (by decide +kernel) (by decide +kernel)), Or.inl (tb_in 472 (by decide +kernel) (by decide +kernel))⟩
theorem lv_RX10_89 : LV RX10 89 yy_X10_step 0 := ⟨mk_X10_step, (by decide +kernel), (tb_in 466 (by decide +kernel) (by decide +kernel)), (sb_in 12 (by decide +kernel) (by decide +kernel)), Or.inl (tb_in 473 (by decide +kernel) (by decide +kernel))⟩
theorem li_RL_9 : LI RL 9 yy_X11_init 0 := ⟨mk_X11_init, (by decide +kernel), (tb_in 24 (by decide +kernel) (by decide +kernel)), rfl, rfl, Or.inl (tb_in 23 (by decide +kernel) (by decide +kernel))⟩
theorem li_RL_12 : LI RL 12 yy_X12_init 0 := ⟨mk_X12_init, (by decide +kernel), (tb_in 1049 (by decide +kernel) (by decide +kernel)), rfl, rfl, Or.inl (tb_in 1048 (by decide +kernel) (by decide +kernel))⟩
theorem lv_RL_13 : LV RL 13 yy_X11_feed 5 := ⟨mk_X11_feed, (by decide +kernel), (tb_in 344 (by decide +kernel) (by decide +kernel)), (tb_in 345 (by decide +kernel) (by decide +kernel)), Or.inl (tb_in 343 (by decide +kernel) (by decide +kernel))⟩
theorem lv_RL_17 : LV RL 17 yy_X12_feed 5 := ⟨mk_X12_feed, (by decide +kernel), (tb_in 1157 (by decide +kernel) (by decide +kernel)), (tb_in 1158 (by decide +kernel) (by decide +kernel)), Or.inl (tb_in 1156 (by decide +kernel) (by decide +kernel))⟩
theorem lv_RL_18 : LV RL 18 yy_X11_end 1 := ⟨mk_X11_end, (by decide +kernel), (tb_in 352 (by decide +kernel) (by decide +kernel)), (tb_in 353 (by decide +kernel) (by decide +kernel)), Or.inl (tb_in 351 (by decide +kernel) (by decide +kernel))⟩
theorem lv_RL_22 : LV RL 22 yy_X12_end 1 := ⟨mk_X12_end, (by decide +kernel), (tb_in 1165 (by decide +kernel) (by decide +kernel)), (tb_in 1166 (by decide +kernel) (by decide +kernel)), Or.inl (tb_in 1164 (by decide +kernel) (by decide +kernel))⟩
theorem lv_RL_23 : LV RL 23 yy_X11_island 0 := ⟨mk_X11_island, (by decide +kernel), (tb_in 356 (by decide +kernel) (by decide +kernel)), (tb_in 357 (by decide +kernel) (by decide +kernel)), Or.inl (tb_in 355 (by decide +kernel) (by decide +kernel))⟩
theorem lv_RL_27 : LV RL 27 yy_X12_island 0 := ⟨mk_X12_island, (by decide +kernel), (tb_in 1330 (by decide +kernel) (by decide +kernel)), (tb_in 1331 (by decide +kernel) (by decide +kernel)), Or.inl (tb_in 1329 (by decide +kernel) (by decide +kernel))⟩
theorem lv_RL_28 : LV RL 28 yy_X11_rule 0 := ⟨mk_X11_rule, (by decide +kernel), (tb_in 504 (by decide +kernel) (by decide +kernel)), (tb_in 505 (by decide +kernel) (by decide +kernel)), Or.inl (tb_in 503 (by decide +kernel) (by decide +kernel))⟩
theorem lv_RL_31 : LV RL 31 yy_X12_rule 0 := ⟨mk_X12_rule, (by decide +kernel), (tb_in 1169 (by decide +kernel) (by decide +kernel)), (tb_in 1170 (by decide +kernel) (by decide +kernel)), Or.inl (tb_in 1168 (by decide +kernel) (by decide +kernel))⟩
theorem lv_RL_32 : LV RL 32 yy_X11_force 1 := ⟨mk_X11_force, (by decide +kernel), (tb_in 547 (by decide +kernel) (by decide +kernel)), (tb_in 548 (by decide +kernel) (by decide +kernel)), Or.inl (tb_in 546 (by decide +kernel) (by decide +kernel))⟩
theorem lv_RL_35 : LV RL 35 yy_X12_force 1 := ⟨mk_X12_force, (by decide +kernel), (tb_in 1334 (by decide +kernel) (by decide +kernel)), (tb_in 1335 (by decide +kernel) (by decide +kernel)), Or.inl (tb_in 1333 (by decide +kernel) (by decide +kernel))⟩
theorem lv_RL_36 : LV RL 36 yy_X11_person 2 := ⟨mk_X11_person, (by decide +kernel), (tb_in 559 (by decide +kernel) (by decide +kernel)), (tb_in 560 (by decide +kernel) (by decide +kernel)), Or.inl (tb_in 558 (by decide +kernel) (by decide +kernel))⟩
theorem lv_RL_40 : LV RL 40 yy_X12_person 2 := ⟨mk_X12_person, (by decide +kernel), (tb_in 1342 (by decide +kernel) (by decide +kernel)), (tb_in 1343 (by decide +kernel) (by decide +kernel)), Or.inl (tb_in 1341 (by decide +kernel) (by decide +kernel))⟩
theorem lv_RL_41 : LV RL 41 yy_X11_sum 2 := ⟨mk_X11_sum, (by decide +kernel), (tb_in 655 (by decide +kernel) (by decide +kernel)), (tb_in 656 (by decide +kernel) (by decide +kernel)), Or.inl (tb_in 654 (by decide +kernel) (by decide +kernel))⟩
theorem lv_RL_44 : LV RL 44 yy_X12_sum 2 := ⟨mk_X12_sum, (by decide +kernel), (tb_in 1416 (by decide +kernel) (by decide +kernel)), (tb_in 1417 (by decide +kernel) (by decide +kernel)), Or.inl (tb_in 1415 (by decide +kernel) (by decide +kernel))⟩
theorem lv_RL_45 : LV RL 45 yy_X11_tie 2 := ⟨mk_X11_tie, (by decide +kernel), (tb_in 665 (by decide +kernel) (by decide +kernel)), (tb_in 666 (by decide +kernel) (by decide +kernel)), Or.inl (tb_in 664 (by decide +kernel) (by decide +kernel))⟩
theorem lv_RL_48 : LV RL 48 yy_X12_tie 2 := ⟨mk_X12_tie, (by decide +kernel), (tb_in 1421 (by decide +kernel) (by decide +kernel)), (tb_in 1422 (by decide +kernel) (by decide +kernel)), Or.inl (tb_in 1420 (by decide +kernel) (by decide +kernel))⟩
theorem lv_RL_49 : LV RL 49 yy_X11_telling 2 := ⟨mk_X11_telling, (by decide +kernel), (tb_in 671 (by decide +kernel) (by decide +kernel)), (tb_in 672 (by decide +kernel) (by decide +kernel)), Or.inl (tb_in 670 (by decide +kernel) (by decide +kernel))⟩
theorem lv_RL_52 : LV RL 52 yy_X12_telling 2 := ⟨mk_X12_telling, (by decide +kernel), (tb_in 1425 (by decide +kernel) (by decide +kernel)), (tb_in 1426 (by decide +kernel) (by decide +kernel)), Or.inl (tb_in 1424 (by decide +kernel) (by decide +kernel))⟩
theorem lv_RL_53 : LV RL 53 yy_X11_tell 4 := ⟨mk_X11_tell, (by decide +kernel), (tb_in 678 (by decide +kernel) (by decide +kernel)), (tb_in 679 (by decide +kernel) (by decide +kernel)), Or.inl (tb_in 677 (by decide +kernel) (by decide +kernel))⟩
theorem lv_RL_57 : LV RL 57 yy_X12_tell 4 := ⟨mk_X12_tell, (by decide +kernel), (tb_in 1438 (by decide +kernel) (by decide +kernel)), (tb_in 1439 (by decide +kernel) (by decide +kernel)), Or.inl (tb_in 1437 (by decide +kernel) (by decide +kernel))⟩
theorem lv_RL_58 : LV RL 58 yy_X11_retell 3 := ⟨mk_X11_retell, (by decide +kernel), (tb_in 733 (by decide +kernel) (by decide +kernel)), (tb_in 734 (by decide +kernel) (by decide +kernel)), Or.inl (tb_in 732 (by decide +kernel) (by decide +kernel))⟩
theorem lv_RL_62 : LV RL 62 yy_X12_retell 3 := ⟨mk_X12_retell, (by decide +kernel), (tb_in 1470 (by decide +kernel) (by decide +kernel)), (tb_in 1471 (by decide +kernel) (by decide +kernel)), Or.inl (tb_in 1469 (by decide +kernel) (by decide +kernel))⟩
theorem lv_RL_63 : LV RL 63 yy_X11_look 0 := ⟨mk_X11_look, (by decide +kernel), (tb_in 742 (by decide +kernel) (by decide +kernel)), (tb_in 743 (by decide +kernel) (by decide +kernel)), Or.inl (tb_in 741 (by decide +kernel) (by decide +kernel))⟩
theorem lv_RL_66 : LV RL 66 yy_X12_look 0 := ⟨mk_X12_look, (by decide +kernel), (tb_in 1474 (by decide +kernel) (by decide +kernel)), (tb_in 1475 (by decide +kernel) (by decide +kernel)), Or.inl (tb_in 1473 (by decide +kernel) (by decide +kernel))⟩
theorem lv_RL_67 : LV RL 67 yy_X11_give 1 := ⟨mk_X11_give, (by decide +kernel), (tb_in 752 (by decide +kernel) (by decide +kernel)), (tb_in 753 (by decide +kernel) (by decide +kernel)), Or.inl (tb_in 751 (by decide +kernel) (by decide +kernel))⟩
theorem lv_RL_70 : LV RL 70 yy_X12_give 1 := ⟨mk_X12_give, (by decide +kernel), (tb_in 1482 (by decide +kernel) (by decide +kernel)), (tb_in 1483 (by decide +kernel) (by decide +kernel)), Or.inl (tb_in 1481 (by decide +kernel) (by decide +kernel))⟩
theorem lv_RL_71 : LV RL 71 yy_X11_save 0 := ⟨mk_X11_save, (by decide +kernel), (tb_in 761 (by decide +kernel) (by decide +kernel)), (tb_in 762 (by decide +kernel) (by decide +kernel)), Or.inl (tb_in 760 (by decide +kernel) (by decide +kernel))⟩
theorem lv_RL_74 : LV RL 74 yy_X12_save 0 := ⟨mk_X12_save, (by decide +kernel), (tb_in 1490 (by decide +kernel) (by decide +kernel)), (tb_in 1491 (by decide +kernel) (by decide +kernel)), Or.inl (tb_in 1489 (by decide +kernel) (by decide +kernel))⟩
theorem lv_RL_75 : LV RL 75 yy_X11_sell 3 := ⟨mk_X11_sell, (by decide +kernel), (tb_in 765 (by decide +kernel) (by decide +kernel)), (tb_in 766 (by decide +kernel) (by decide +kernel)), Or.inl (tb_in 764 (by decide +kernel) (by decide +kernel))⟩
theorem lv_RL_78 : LV RL 78 yy_X12_sell 3 := ⟨mk_X12_sell, (by decide +kernel), (tb_in 1494 (by decide +kernel) (by decide +kernel)), (tb_in 1495 (by decide +kernel) (by decide +kernel)), Or.inl (tb_in 1493 (by decide +kernel) (by decide +kernel))⟩
theorem lv_RL_79 : LV RL 79 yy_X11_spend 1 := ⟨mk_X11_spend, (by decide +kernel), (tb_in 769 (by decide +kernel) (by decide +kernel)), (tb_in 770 (by decide +kernel) (by decide +kernel)), Or.inl (tb_in 768 (by decide +kernel) (by decide +kernel))⟩
theorem lv_RL_82 : LV RL 82 yy_X12_spend 1 := ⟨mk_X12_spend, (by decide +kernel), (tb_in 1498 (by decide +kernel) (by decide +kernel)), (tb_in 1499 (by decide +kernel) (by decide +kernel)), Or.inl (tb_in 1497 (by decide +kernel) (by decide +kernel))⟩
theorem lv_RL_83 : LV RL 83 yy_X11_keep 1 := ⟨mk_X11_keep, (by decide +kernel), (tb_in 773 (by decide +kernel) (by decide +kernel)), (tb_in 774 (by decide +kernel) (by decide +kernel)), Or.inl (tb_in 772 (by decide +kernel) (by decide +kernel))⟩
theorem lv_RL_87 : LV RL 87 yy_X12_keep 1 := ⟨mk_X12_keep, (by decide +kernel), (tb_in 1502 (by decide +kernel) (by decide +kernel)), (tb_in 1503 (by decide +kernel) (by decide +kernel)), Or.inl (tb_in 1501 (by decide +kernel) (by decide +kernel))⟩
theorem lv_RL_88 : LV RL 88 yy_X11_rest 0 := ⟨mk_X11_rest, (by decide +kernel), (tb_in 777 (by decide +kernel) (by decide +kernel)), (tb_in 778 (by decide +kernel) (by decide +kernel)), Or.inl (tb_in 776 (by decide +kernel) (by decide +kernel))⟩
theorem lv_RL_91 : LV RL 91 yy_X12_rest 0 := ⟨mk_X12_rest, (by decide +kernel), (tb_in 1506 (by decide +kernel) (by decide +kernel)), (tb_in 1507 (by decide +kernel) (by decide +kernel)), Or.inl (tb_in 1505 (by decide +kernel) (by decide +kernel))⟩
theorem lv_RL_92 : LV RL 92 yy_X11_undo 0 := ⟨mk_X11_undo, (by decide +kernel), (tb_in 781 (by decide +kernel) (by decide +kernel)), (tb_in 782 (by decide +kernel) (by decide +kernel)), Or.inl (tb_in 780 (by decide +kernel) (by decide +kernel))⟩
theorem lv_RL_95 : LV RL 95 yy_X12_undo 0 := ⟨mk_X12_undo, (by decide +kernel), (tb_in 1434 (by decide +kernel) (by decide +kernel)), (tb_in 1435 (by decide +kernel) (by decide +kernel)), Or.inl (tb_in 1433 (by decide +kernel) (by decide +kernel))⟩
theorem lv_RL_96 : LV RL 96 yy_X11_run 2 := ⟨mk_X11_run, (by decide +kernel), (tb_in 791 (by decide +kernel) (by decide +kernel)), (tb_in 792 (by decide +kernel) (by decide +kernel)), Or.inl (tb_in 790 (by decide +kernel) (by decide +kernel))⟩
theorem lv_RL_99 : LV RL 99 yy_X12_run 2 := ⟨mk_X12_run, (by decide +kernel), (tb_in 1510 (by decide +kernel) (by decide +kernel)), (tb_in 1511 (by decide +kernel) (by decide +kernel)), Or.inl (tb_in 1509 (by decide +kernel) (by decide +kernel))⟩
theorem lv_RL_100 : LV RL 100 yy_X11_lean 1 := ⟨mk_X11_lean, (by decide +kernel), (tb_in 817 (by decide +kernel) (by decide +kernel)), (tb_in 818 (by decide +kernel) (by decide +kernel)), Or.inl (tb_in 816 (by decide +kernel) (by decide +kernel))⟩
theorem lv_RL_103 : LV RL 103 yy_X12_lean 1 := ⟨mk_X12_lean, (by decide +kernel), (tb_in 1523 (by decide +kernel) (by decide +kernel)), (tb_in 1524 (by decide +kernel) (by decide +kernel)), Or.inl (tb_in 1522 (by decide +kernel) (by decide +kernel))⟩
theorem lv_RL_104 : LV RL 104 yy_X11_likeliest 2 := ⟨mk_X11_likeliest, (by decide +kernel), (tb_in 831 (by decide +kernel) (by decide +kernel)), (tb_in 832 (by decide +kernel) (by decide +kernel)), Or.inl (tb_in 830 (by decide +kernel) (by decide +kernel))⟩
theorem lv_RL_107 : LV RL 107 yy_X12_likeliest 2 := ⟨mk_X12_likeliest, (by decide +kernel), (tb_in 1534 (by decide +kernel) (by decide +kernel)), (tb_in 1535 (by decide +kernel) (by decide +kernel)), Or.inl (tb_in 1533 (by decide +kernel) (by decide +kernel))⟩
theorem lv_RL_108 : LV RL 108 yy_X11_flatters 2 := ⟨mk_X11_flatters, (by decide +kernel), (tb_in 842 (by decide +kernel) (by decide +kernel)), (tb_in 843 (by decide +kernel) (by decide +kernel)), Or.inl (tb_in 841 (by decide +kernel) (by decide +kernel))⟩
theorem lv_RL_111 : LV RL 111 yy_X12_flatters 2 := ⟨mk_X12_flatters, (by decide +kernel), (tb_in 1542 (by decide +kernel) (by decide +kernel)), (tb_in 1543 (by decide +kernel) (by decide +kernel)), Or.inl (tb_in 1541 (by decide +kernel) (by decide +kernel))⟩
theorem lv_RL_112 : LV RL 112 yy_X11_ask 2 := ⟨mk_X11_ask, (by decide +kernel), (tb_in 855 (by decide +kernel) (by decide +kernel)), (tb_in 856 (by decide +kernel) (by decide +kernel)), Or.inl (tb_in 854 (by decide +kernel) (by decide +kernel))⟩
theorem lv_RL_115 : LV RL 115 yy_X12_ask 2 := ⟨mk_X12_ask, (by decide +kernel), (tb_in 1550 (by decide +kernel) (by decide +kernel)), (tb_in 1551 (by decide +kernel) (by decide +kernel)), Or.inl (tb_in 1549 (by decide +kernel) (by decide +kernel))⟩
theorem lv_RL_116 : LV RL 116 yy_X11_chain 2 := ⟨mk_X11_chain, (by decide +kernel), (tb_in 866 (by decide +kernel) (by decide +kernel)), (tb_in 867 (by decide +kernel) (by decide +kernel)), Or.inl (tb_in 865 (by decide +kernel) (by decide +kernel))⟩
theorem lv_RL_119 : LV RL 119 yy_X12_chain 2 := ⟨mk_X12_chain, (by decide +kernel), (tb_in 1558 (by decide +kernel) (by decide +kernel)), (tb_in 1559 (by decide +kernel) (by decide +kernel)), Or.inl (tb_in 1557 (by decide +kernel) (by decide +kernel))⟩
theorem lv_RL_120 : LV RL 120 yy_X11_slip 2 := ⟨mk_X11_slip, (by decide +kernel), (tb_in 874 (by decide +kernel) (by decide +kernel)), (tb_in 875 (by decide +kernel) (by decide +kernel)), Or.inl (tb_in 873 (by decide +kernel) (by decide +kernel))⟩
theorem lv_RL_123 : LV RL 123 yy_X12_slip 2 := ⟨mk_X12_slip, (by decide +kernel), (tb_in 1563 (by decide +kernel) (by decide +kernel)), (tb_in 1564 (by decide +kernel) (by decide +kernel)), Or.inl (tb_in 1562 (by decide +kernel) (by decide +kernel))⟩
theorem lv_RL_124 : LV RL 124 yy_X11_wish 4 := ⟨mk_X11_wish, (by decide +kernel), (tb_in 882 (by decide +kernel) (by decide +kernel)), (tb_in 883 (by decide +kernel) (by decide +kernel)), Or.inl (tb_in 881 (by decide +kernel) (by decide +kernel))⟩
theorem lv_RL_127 : LV RL 127 yy_X12_wish 4 := ⟨mk_X12_wish, (by decide +kernel), (tb_in 1567 (by decide +kernel) (by decide +kernel)), (tb_in 1568 (by decide +kernel) (by decide +kernel)), Or.inl (tb_in 1566 (by decide +kernel) (by decide +kernel))⟩
theorem lv_RL_128 : LV RL 128 yy_X11_round 2 := ⟨mk_X11_round, (by decide +kernel), (tb_in 891 (by decide +kernel) (by decide +kernel)), (tb_in 892 (by decide +kernel) (by decide +kernel)), Or.inl (tb_in 890 (by decide +kernel) (by decide +kernel))⟩
theorem lv_RL_131 : LV RL 131 yy_X12_round 2 := ⟨mk_X12_round, (by decide +kernel), (tb_in 1573 (by decide +kernel) (by decide +kernel)), (tb_in 1574 (by decide +kernel) (by decide +kernel)), Or.inl (tb_in 1572 (by decide +kernel) (by decide +kernel))⟩
theorem lv_RL_132 : LV RL 132 yy_X11_view 2 := ⟨mk_X11_view, (by decide +kernel), (tb_in 943 (by decide +kernel) (by decide +kernel)), (tb_in 944 (by decide +kernel) (by decide +kernel)), Or.inl (tb_in 942 (by decide +kernel) (by decide +kernel))⟩
theorem lv_RL_135 : LV RL 135 yy_X12_view 2 := ⟨mk_X12_view, (by decide +kernel), (tb_in 1598 (by decide +kernel) (by decide +kernel)), (tb_in 1599 (by decide +kernel) (by decide +kernel)), Or.inl (tb_in 1597 (by decide +kernel) (by decide +kernel))⟩
theorem lv_RL_136 : LV RL 136 yy_X11_fits 1 := ⟨mk_X11_fits, (by decide +kernel), (tb_in 951 (by decide +kernel) (by decide +kernel)), (tb_in 952 (by decide +kernel) (by decide +kernel)), Or.inl (tb_in 950 (by decide +kernel) (by decide +kernel))⟩
theorem lv_RL_139 : LV RL 139 yy_X12_fits 1 := ⟨mk_X12_fits, (by decide +kernel), (tb_in 1602 (by decide +kernel) (by decide +kernel)), (tb_in 1603 (by decide +kernel) (by decide +kernel)), Or.inl (tb_in 1601 (by decide +kernel) (by decide +kernel))⟩
theorem lv_RL_140 : LV RL 140 yy_X11_views 1 := ⟨mk_X11_views, (by decide +kernel), (tb_in 963 (by decide +kernel) (by decide +kernel)), (tb_in 964 (by decide +kernel) (by decide +kernel)), Or.inl (tb_in 962 (by decide +kernel) (by decide +kernel))⟩
theorem lv_RL_143 : LV RL 143 yy_X12_views 1 := ⟨mk_X12_views, (by decide +kernel), (tb_in 1610 (by decide +kernel) (by decide +kernel)), (tb_in 1611 (by decide +kernel) (by decide +kernel)), Or.inl (tb_in 1609 (by decide +kernel) (by decide +kernel))⟩
theorem lv_RL_144 : LV RL 144 yy_X11_seed 1 := ⟨mk_X11_seed, (by decide +kernel), (tb_in 991 (by decide +kernel) (by decide +kernel)), (tb_in 992 (by decide +kernel) (by decide +kernel)), Or.inl (tb_in 990 (by decide +kernel) (by decide +kernel))⟩
theorem lv_RL_147 : LV RL 147 yy_X12_seed 1 := ⟨mk_X12_seed, (by decide +kernel), (tb_in 1618 (by decide +kernel) (by decide +kernel)), (tb_in 1619 (by decide +kernel) (by decide +kernel)), Or.inl (tb_in 1617 (by decide +kernel) (by decide +kernel))⟩
theorem lv_RL_148 : LV RL 148 yy_X11_drawn 5 := ⟨mk_X11_drawn, (by decide +kernel), (tb_in 995 (by decide +kernel) (by decide +kernel)), (tb_in 996 (by decide +kernel) (by decide +kernel)), Or.inl (tb_in 994 (by decide +kernel) (by decide +kernel))⟩
theorem lv_RL_151 : LV RL 151 yy_X12_drawn 5 := ⟨mk_X12_drawn, (by decide +kernel), (tb_in 1622 (by decide +kernel) (by decide +kernel)), (tb_in 1623 (by decide +kernel) (by decide +kernel)), Or.inl (tb_in 1621 (by decide +kernel) (by decide +kernel))⟩
theorem lv_RL_152 : LV RL 152 yy_X11_count 1 := ⟨mk_X11_count, (by decide +kernel), (tb_in 1035 (by decide +kernel) (by decide +kernel)), (tb_in 1036 (by decide +kernel) (by decide +kernel)), Or.inl (tb_in 1034 (by decide +kernel) (by decide +kernel))⟩
theorem lv_RL_155 : LV RL 155 yy_X12_count 1 := ⟨mk_X12_count, (by decide +kernel), (tb_in 1640 (by decide +kernel) (by decide +kernel)), (tb_in 1641 (by decide +kernel) (by decide +kernel)), Or.inl (tb_in 1639 (by decide +kernel) (by decide +kernel))⟩
theorem lv_RL_156 : LV RL 156 yy_X11_image 1 := ⟨mk_X11_image, (by decide +kernel), (tb_in 1039 (by decide +kernel) (by decide +kernel)), (tb_in 1040 (by decide +kernel) (by decide +kernel)), Or.inl (tb_in 1038 (by decide +kernel) (by decide +kernel))⟩
theorem lv_RL_159 : LV RL 159 yy_X12_image 1 := ⟨mk_X12_image, (by decide +kernel), (tb_in 1644 (by decide +kernel) (by decide +kernel)), (tb_in 1645 (by decide +kernel) (by decide +kernel)), Or.inl (tb_in 1643 (by decide +kernel) (by decide +kernel))⟩
theorem lv_RL_160 : LV RL 160 yy_X11_back 1 := ⟨mk_X11_back, (by decide +kernel), (tb_in 1043 (by decide +kernel) (by decide +kernel)), (tb_in 1044 (by decide +kernel) (by decide +kernel)), Or.inl (tb_in 1042 (by decide +kernel) (by decide +kernel))⟩
theorem lv_RL_163 : LV RL 163 yy_X12_back 1 := ⟨mk_X12_back, (by decide +kernel), (tb_in 1649 (by decide +kernel) (by decide +kernel)), (tb_in 1650 (by decide +kernel) (by decide +kernel)), Or.inl (tb_in 1648 (by decide +kernel) (by decide +kernel))⟩
theorem lv_RX12_75 : LV RX12 75 yy_X12_four 1 := ⟨mk_X12_four, (by decide +kernel), (tb_in 1162 (by decide +kernel) (by decide +kernel)), (sb_in 93 (by decide +kernel) (by decide +kernel)), Or.inl (tb_in 1160 (by decide +kernel) (by decide +kernel))⟩
theorem lv_RX12_85 : LV RX12 85 yy_X12_see 0 := ⟨mk_X12_see, (by decide +kernel), (tb_in 1182 (by decide +kernel) (by decide +kernel)), (sb_in 96 (by decide +kernel) (by decide +kernel)), Or.inl (tb_in 1180 (by decide +kernel) (by decide +kernel))⟩
theorem lv_RX12_89 : LV RX12 89 yy_X12_isLetter 1 := ⟨mk_X12_isLetter, (by decide +kernel), (tb_in 1195 (by decide +kernel) (by decide +kernel)), (sb_in 99 (by decide +kernel) (by decide +kernel)), Or.inl (tb_in 1193 (by decide +kernel) (by decide +kernel))⟩
theorem lv_RX12_93 : LV RX12 93 yy_X12_isWord 1 := ⟨mk_X12_isWord, (by decide +kernel), (tb_in 1191 (by decide +kernel) (by decide +kernel)), (sb_in 98 (by decide +kernel) (by decide +kernel)), Or.inl (tb_in 1189 (by decide +kernel) (by decide +kernel))⟩
theorem lv_RX12_97 : LV RX12 97 yy_X12_passWord 0 := ⟨mk_X12_passWord, (by decide +kernel), (tb_in 1217 (by decide +kernel) (by decide +kernel)), (sb_in 103 (by decide +kernel) (by decide +kernel)), Or.inl (tb_in 1215 (by decide +kernel) (by decide +kernel))⟩
theorem lv_RX12_100 : LV RX12 100 yy_X12_isDigit 1 := ⟨mk_X12_isDigit, (by decide +kernel), (tb_in 1229 (by decide +kernel) (by decide +kernel)), (sb_in 106 (by decide +kernel) (by decide +kernel)), Or.inl (tb_in 1227 (by decide +kernel) (by decide +kernel))⟩
theorem lv_RX12_103 : LV RX12 103 yy_X12_fails 2 := ⟨mk_X12_fails, (by decide +kernel), (tb_in 1205 (by decide +kernel) (by decide +kernel)), (sb_in 100 (by decide +kernel) (by decide +kernel)), Or.inl (tb_in 1203 (by decide +kernel) (by decide +kernel))⟩
theorem lt_RX12_110 : LT RX12 110 yy_X12_in 3 := ⟨mk_X12_in, (by decide +kernel), (tb_in 1232 (by decide +kernel) (by decide +kernel)), Or.inl (tb_in 1231 (by decide +kernel) (by decide +kernel))⟩
theorem lt_RX12_142 : LT RX12 142 yy_X12_strength 1 := ⟨mk_X12_strength, (by decide +kernel), (tb_in 1321 (by decide +kernel) (by decide +kernel)), Or.inl (tb_in 1320 (by decide +kernel) (by decide +kernel))⟩
theorem lv_RX12_146 : LV RX12 146 yy_X12_puts 2 := ⟨mk_X12_puts, (by decide +kernel), (tb_in 1277 (by decide +kernel) (by decide +kernel)), (sb_in 117 (by decide +kernel) (by decide +kernel)), Or.inl (tb_in 1275 (by decide +kernel) (by decide +kernel))⟩
theorem lv_RX12_151 : LV RX12 151 yy_X12_numberHere 2 := ⟨mk_X12_numberHere, (by decide +kernel), (tb_in 1225 (by decide +kernel) (by decide +kernel)), (sb_in 105 (by decide +kernel) (by decide +kernel)), Or.inl (tb_in 1223 (by decide +kernel) (by decide +kernel))⟩
theorem lv_RX12_154 : LV RX12 154 yy_X12_makes 1 := ⟨mk_X12_makes, (by decide +kernel), (tb_in 1273 (by decide +kernel) (by decide +kernel)), (sb_in 116 (by decide +kernel) (by decide +kernel)), Or.inl (tb_in 1271 (by decide +kernel) (by decide +kernel))⟩
theorem lv_RX12_157 : LV RX12 157 yy_X12_wordHere 0 := ⟨mk_X12_wordHere, (by decide +kernel), (tb_in 1281 (by decide +kernel) (by decide +kernel)), (sb_in 118 (by decide +kernel) (by decide +kernel)), Or.inl (tb_in 1279 (by decide +kernel) (by decide +kernel))⟩
theorem lv_RX12_160 : LV RX12 160 yy_X12_value 0 := ⟨mk_X12_value, (by decide +kernel), (tb_in 1268 (by decide +kernel) (by decide +kernel)), (sb_in 115 (by decide +kernel) (by decide +kernel)), Or.inl (tb_in 1266 (by decide +kernel) (by decide +kernel))⟩
theorem lv_RX12_164 : LV RX12 164 yy_X12_term 0 := ⟨mk_X12_term, (by decide +kernel), (tb_in 1264 (by decide +kernel) (by decide +kernel)), (sb_in 114 (by decide +kernel) (by decide +kernel)), Or.inl (tb_in 1262 (by decide +kernel) (by decide +kernel))⟩
theorem lv_RX12_167 : LV RX12 167 yy_X12_summed 0 := ⟨mk_X12_summed, (by decide +kernel), (tb_in 1260 (by decide +kernel) (by decide +kernel)), (sb_in 113 (by decide +kernel) (by decide +kernel)), Or.inl (tb_in 1258 (by decide +kernel) (by decide +kernel))⟩
theorem lv_RX12_172 : LV RX12 172 yy_X12_opens 1 := ⟨mk_X12_opens, (by decide +kernel), (tb_in 1306 (by decide +kernel) (by decide +kernel)), (sb_in 122 (by decide +kernel) (by decide +kernel)), Or.inl (tb_in 1304 (by decide +kernel) (by decide +kernel))⟩
theorem lv_RX12_175 : LV RX12 175 yy_X12_compare 0 := ⟨mk_X12_compare, (by decide +kernel), (tb_in 1310 (by decide +kernel) (by decide +kernel)), (sb_in 123 (by decide +kernel) (by decide +kernel)), Or.inl (tb_in 1308 (by decide +kernel) (by decide +kernel))⟩
theorem lv_RX12_178 : LV RX12 178 yy_X12_settles 1 := ⟨mk_X12_settles, (by decide +kernel), (tb_in 1318 (by decide +kernel) (by decide +kernel)), (sb_in 125 (by decide +kernel) (by decide +kernel)), Or.inl (tb_in 1316 (by decide +kernel) (by decide +kernel))⟩
theorem lv_RX12_181 : LV RX12 181 yy_X12_isInside 0 := ⟨mk_X12_isInside, (by decide +kernel), (tb_in 1325 (by decide +kernel) (by decide +kernel)), (sb_in 126 (by decide +kernel) (by decide +kernel)), Or.inl (tb_in 1323 (by decide +kernel) (by decide +kernel))⟩
theorem lv_RX12_184 : LV RX12 184 yy_X12_fact 0 := ⟨mk_X12_fact, (by decide +kernel), (tb_in 1301 (by decide +kernel) (by decide +kernel)), (sb_in 121 (by decide +kernel) (by decide +kernel)), Or.inl (tb_in 1299 (by decide +kernel) (by decide +kernel))⟩
theorem lv_RX12_187 : LV RX12 187 yy_X12_closes 0 := ⟨mk_X12_closes, (by decide +kernel), (tb_in 1314 (by decide +kernel) (by decide +kernel)), (sb_in 124 (by decide +kernel) (by decide +kernel)), Or.inl (tb_in 1312 (by decide +kernel) (by decide +kernel))⟩
theorem lv_RX12_196 : LV RX12 196 yy_X12_takesWord 1 := ⟨mk_X12_takesWord, (by decide +kernel), (tb_in 1293 (by decide +kernel) (by decide +kernel)), (sb_in 119 (by decide +kernel) (by decide +kernel)), Or.inl (tb_in 1291 (by decide +kernel) (by decide +kernel))⟩
theorem lv_RX12_199 : LV RX12 199 yy_X12_tested 0 := ⟨mk_X12_tested, (by decide +kernel), (tb_in 1297 (by decide +kernel) (by decide +kernel)), (sb_in 120 (by decide +kernel) (by decide +kernel)), Or.inl (tb_in 1295 (by decide +kernel) (by decide +kernel))⟩
theorem lv_RX12_202 : LV RX12 202 yy_X12_cellHere 3 := ⟨mk_X12_cellHere, (by decide +kernel), (tb_in 1221 (by decide +kernel) (by decide +kernel)), (sb_in 104 (by decide +kernel) (by decide +kernel)), Or.inl (tb_in 1219 (by decide +kernel) (by decide +kernel))⟩
theorem lv_RX12_209 : LV RX12 209 yy_X12_twoHere 0 := ⟨mk_X12_twoHere, (by decide +kernel), (tb_in 1244 (by decide +kernel) (by decide +kernel)), (sb_in 109 (by decide +kernel) (by decide +kernel)), Or.inl (tb_in 1242 (by decide +kernel) (by decide +kernel))⟩
theorem lv_RX12_214 : LV RX12 214 yy_X12_areMarksHere 1 := ⟨mk_X12_areMarksHere, (by decide +kernel), (tb_in 1213 (by decide +kernel) (by decide +kernel)), (sb_in 102 (by decide +kernel) (by decide +kernel)), Or.inl (tb_in 1211 (by decide +kernel) (by decide +kernel))⟩
theorem lv_RX12_219 : LV RX12 219 yy_X12_isPersonHere 1 := ⟨mk_X12_isPersonHere, (by decide +kernel), (tb_in 1236 (by decide +kernel) (by decide +kernel)), (sb_in 107 (by decide +kernel) (by decide +kernel)), Or.inl (tb_in 1234 (by decide +kernel) (by decide +kernel))⟩
theorem lv_RX12_222 : LV RX12 222 yy_X12_isTieHere 0 := ⟨mk_X12_isTieHere, (by decide +kernel), (tb_in 1240 (by decide +kernel) (by decide +kernel)), (sb_in 108 (by decide +kernel) (by decide +kernel)), Or.inl (tb_in 1238 (by decide +kernel) (by decide +kernel))⟩
theorem lv_RX12_227 : LV RX12 227 yy_X12_isBoatHere 0 := ⟨mk_X12_isBoatHere, (by decide +kernel), (tb_in 1248 (by decide +kernel) (by decide +kernel)), (sb_in 110 (by decide +kernel) (by decide +kernel)), Or.inl (tb_in 1246 (by decide +kernel) (by decide +kernel))⟩
theorem lv_RX12_230 : LV RX12 230 yy_X12_isGlassHere 0 := ⟨mk_X12_isGlassHere, (by decide +kernel), (tb_in 1252 (by decide +kernel) (by decide +kernel)), (sb_in 111 (by decide +kernel) (by decide +kernel)), Or.inl (tb_in 1250 (by decide +kernel) (by decide +kernel))⟩
theorem lv_RX12_235 : LV RX12 235 yy_X12_isIslandWord 0 := ⟨mk_X12_isIslandWord, (by decide +kernel), (tb_in 1186 (by decide +kernel) (by decide +kernel)), (sb_in 97 (by decide +kernel) (by decide +kernel)), Or.inl (tb_in 1184 (by decide +kernel) (by decide +kernel))⟩
theorem lv_RX12_245 : LV RX12 245 yy_X12_islandLineHere 1 := ⟨mk_X12_islandLineHere, (by decide +kernel), (tb_in 1209 (by decide +kernel) (by decide +kernel)), (sb_in 101 (by decide +kernel) (by decide +kernel)), Or.inl (tb_in 1207 (by decide +kernel) (by decide +kernel))⟩
theorem lv_RX12_248 : LV RX12 248 yy_X12_isDoingHere 1 := ⟨mk_X12_isDoingHere, (by decide +kernel), (tb_in 1256 (by decide +kernel) (by decide +kernel)), (sb_in 112 (by decide +kernel) (by decide +kernel)), Or.inl (tb_in 1254 (by decide +kernel) (by decide +kernel))⟩
theorem lv_RX12_251 : LV RX12 251 yy_X12_clauseHere 0 := ⟨mk_X12_clauseHere, (by decide +kernel), (tb_in 1178 (by decide +kernel) (by decide +kernel)), (sb_in 95 (by decide +kernel) (by decide +kernel)), Or.inl (tb_in 1176 (by decide +kernel) (by decide +kernel))⟩
theorem lv_RX12_257 : LV RX12 257 yy_X12_readsAll 0 := ⟨mk_X12_readsAll, (by decide +kernel), (tb_in 1174 (by decide +kernel) (by decide +kernel)), (sb_in 94 (by decide +kernel) (by decide +kernel)), Or.inl (tb_in 1172 (by decide +kernel) (by decide +kernel))⟩
theorem lv_RX12_266 : LV RX12 266 yy_X12_push 1 := ⟨mk_X12_push, (by decide +kernel), (tb_in 1394 (by decide +kernel) (by decide +kernel)), (sb_in 139 (by decide +kernel) (by decide +kernel)), Or.inl (tb_in 1392 (by decide +kernel) (by decide +kernel))⟩
theorem lv_RX12_270 : LV RX12 270 yy_X12_pop 0 := ⟨mk_X12_pop, (by decide +kernel), (tb_in 1398 (by decide +kernel) (by decide +kernel)), (sb_in 140 (by decide +kernel) (by decide +kernel)), Or.inl (tb_in 1396 (by decide +kernel) (by decide +kernel))⟩
theorem lt_RX12_274 : LT RX12 274 yy_X12_one 3 := ⟨mk_X12_one, (by decide +kernel), (tb_in 1401 (by decide +kernel) (by decide +kernel)), Or.inl (tb_in 1400 (by decide +kernel) (by decide +kernel))⟩
theorem lv_RX12_278 : LV RX12 278 yy_X12_tellingOf 2 := ⟨mk_X12_tellingOf, (by decide +kernel), (tb_in 1363 (by decide +kernel) (by decide +kernel)), (sb_in 132 (by decide +kernel) (by decide +kernel)), Or.inl (tb_in 1361 (by decide +kernel) (by decide +kernel))⟩
theorem lv_RX12_282 : LV RX12 282 yy_X12_isRule 1 := ⟨mk_X12_isRule, (by decide +kernel), (tb_in 1339 (by decide +kernel) (by decide +kernel)), (sb_in 127 (by decide +kernel) (by decide +kernel)), Or.inl (tb_in 1337 (by decide +kernel) (by decide +kernel))⟩
theorem lv_RX12_285 : LV RX12 285 yy_X12_tieOf 2 := ⟨mk_X12_tieOf, (by decide +kernel), (tb_in 1382 (by decide +kernel) (by decide +kernel)), (sb_in 136 (by decide +kernel) (by decide +kernel)), Or.inl (tb_in 1380 (by decide +kernel) (by decide +kernel))⟩
theorem lv_RX12_288 : LV RX12 288 yy_X12_reckons 3 := ⟨mk_X12_reckons, (by decide +kernel), (tb_in 1390 (by decide +kernel) (by decide +kernel)), (sb_in 138 (by decide +kernel) (by decide +kernel)), Or.inl (tb_in 1388 (by decide +kernel) (by decide +kernel))⟩
theorem lv_RX12_292 : LV RX12 292 yy_X12_stepsOf 1 := ⟨mk_X12_stepsOf, (by decide +kernel), (tb_in 1374 (by decide +kernel) (by decide +kernel)), (sb_in 134 (by decide +kernel) (by decide +kernel)), Or.inl (tb_in 1372 (by decide +kernel) (by decide +kernel))⟩
theorem lv_RX12_295 : LV RX12 295 yy_X12_words 6 := ⟨mk_X12_words, (by decide +kernel), (tb_in 1378 (by decide +kernel) (by decide +kernel)), (sb_in 135 (by decide +kernel) (by decide +kernel)), Or.inl (tb_in 1376 (by decide +kernel) (by decide +kernel))⟩
theorem lv_RX12_299 : LV RX12 299 yy_X12_clauseFor 2 := ⟨mk_X12_clauseFor, (by decide +kernel), (tb_in 1386 (by decide +kernel) (by decide +kernel)), (sb_in 137 (by decide +kernel) (by decide +kernel)), Or.inl (tb_in 1384 (by decide +kernel) (by decide +kernel))⟩
theorem lv_RX12_302 : LV RX12 302 yy_X12_heldSum 3 := ⟨mk_X12_heldSum, (by decide +kernel), (tb_in 1405 (by decide +kernel) (by decide +kernel)), (sb_in 141 (by decide +kernel) (by decide +kernel)), Or.inl (tb_in 1403 (by decide +kernel) (by decide +kernel))⟩
theorem lv_RX12_306 : LV RX12 306 yy_X12_isLook 1 := ⟨mk_X12_isLook, (by decide +kernel), (tb_in 1409 (by decide +kernel) (by decide +kernel)), (sb_in 142 (by decide +kernel) (by decide +kernel)), Or.inl (tb_in 1407 (by decide +kernel) (by decide +kernel))⟩
theorem lt_RX12_309 : LT RX12 309 yy_X12_isOf 2 := ⟨mk_X12_isOf, (by decide +kernel), (tb_in 1366 (by decide +kernel) (by decide +kernel)), Or.inl (tb_in 1365 (by decide +kernel) (by decide +kernel))⟩
theorem lv_RX12_312 : LV RX12 312 yy_X12_weightOf 1 := ⟨mk_X12_weightOf, (by decide +kernel), (tb_in 1370 (by decide +kernel) (by decide +kernel)), (sb_in 133 (by decide +kernel) (by decide +kernel)), Or.inl (tb_in 1368 (by decide +kernel) (by decide +kernel))⟩
theorem lv_RX12_315 : LV RX12 315 yy_X12_sumOf 2 := ⟨mk_X12_sumOf, (by decide +kernel), (tb_in 1359 (by decide +kernel) (by decide +kernel)), (sb_in 131 (by decide +kernel) (by decide +kernel)), Or.inl (tb_in 1357 (by decide +kernel) (by decide +kernel))⟩
theorem lv_RX12_318 : LV RX12 318 yy_X12_isPerson 1 := ⟨mk_X12_isPerson, (by decide +kernel), (tb_in 1347 (by decide +kernel) (by decide +kernel)), (sb_in 128 (by decide +kernel) (by decide +kernel)), Or.inl (tb_in 1345 (by decide +kernel) (by decide +kernel))⟩
theorem lv_RX12_321 : LV RX12 321 yy_X12_personOf 2 := ⟨mk_X12_personOf, (by decide +kernel), (tb_in 1351 (by decide +kernel) (by decide +kernel)), (sb_in 129 (by decide +kernel) (by decide +kernel)), Or.inl (tb_in 1349 (by decide +kernel) (by decide +kernel))⟩
theorem lv_RX12_324 : LV RX12 324 yy_X12_believedBy 1 := ⟨mk_X12_believedBy, (by decide +kernel), (tb_in 1355 (by decide +kernel) (by decide +kernel)), (sb_in 130 (by decide +kernel) (by decide +kernel)), Or.inl (tb_in 1353 (by decide +kernel) (by decide +kernel))⟩
theorem lv_RX12_327 : LV RX12 327 yy_X12_openOf 1 := ⟨mk_X12_openOf, (by decide +kernel), (tb_in 1413 (by decide +kernel) (by decide +kernel)), (sb_in 143 (by decide +kernel) (by decide +kernel)), Or.inl (tb_in 1411 (by decide +kernel) (by decide +kernel))⟩
theorem lv_RX12_331 : LV RX12 331 yy_X12_isTelling 1 := ⟨mk_X12_isTelling, (by decide +kernel), (tb_in 1430 (by decide +kernel) (by decide +kernel)), (sb_in 144 (by decide +kernel) (by decide +kernel)), Or.inl (tb_in 1428 (by decide +kernel) (by decide +kernel))⟩
theorem lv_RX12_336 : LV RX12 336 yy_X12_isIsland 0 := ⟨mk_X12_isIsland, (by decide +kernel), (tb_in 1451 (by decide +kernel) (by decide +kernel)), (sb_in 147 (by decide +kernel) (by decide +kernel)), Or.inl (tb_in 1449 (by decide +kernel) (by decide +kernel))⟩
theorem lv_RX12_339 : LV RX12 339 yy_X12_allMarks 0 := ⟨mk_X12_allMarks, (by decide +kernel), (tb_in 1463 (by decide +kernel) (by decide +kernel)), (sb_in 150 (by decide +kernel) (by decide +kernel)), Or.inl (tb_in 1461 (by decide +kernel) (by decide +kernel))⟩
theorem lv_RX12_342 : LV RX12 342 yy_X12_mayBe 1 := ⟨mk_X12_mayBe, (by decide +kernel), (tb_in 1443 (by decide +kernel) (by decide +kernel)), (sb_in 145 (by decide +kernel) (by decide +kernel)), Or.inl (tb_in 1441 (by decide +kernel) (by decide +kernel))⟩
theorem lv_RX12_345 : LV RX12 345 yy_X12_isHourLeft 0 := ⟨mk_X12_isHourLeft, (by decide +kernel), (tb_in 1447 (by decide +kernel) (by decide +kernel)), (sb_in 146 (by decide +kernel) (by decide +kernel)), Or.inl (tb_in 1445 (by decide +kernel) (by decide +kernel))⟩
theorem lv_RX12_348 : LV RX12 348 yy_X12_keepsAct 0 := ⟨mk_X12_keepsAct, (by decide +kernel), (tb_in 1455 (by decide +kernel) (by decide +kernel)), (sb_in 148 (by decide +kernel) (by decide +kernel)), Or.inl (tb_in 1453 (by decide +kernel) (by decide +kernel))⟩
theorem lv_RX12_351 : LV RX12 351 yy_X12_faceBy 4 := ⟨mk_X12_faceBy, (by decide +kernel), (tb_in 1459 (by decide +kernel) (by decide +kernel)), (sb_in 149 (by decide +kernel) (by decide +kernel)), Or.inl (tb_in 1457 (by decide +kernel) (by decide +kernel))⟩
theorem lv_RX12_355 : LV RX12 355 yy_X12_comes 5 := ⟨mk_X12_comes, (by decide +kernel), (tb_in 1467 (by decide +kernel) (by decide +kernel)), (sb_in 151 (by decide +kernel) (by decide +kernel)), Or.inl (tb_in 1465 (by decide +kernel) (by decide +kernel))⟩
theorem lv_RX12_359 : LV RX12 359 yy_X12_looks 0 := ⟨mk_X12_looks, (by decide +kernel), (tb_in 1479 (by decide +kernel) (by decide +kernel)), (sb_in 152 (by decide +kernel) (by decide +kernel)), Or.inl (tb_in 1477 (by decide +kernel) (by decide +kernel))⟩
theorem lv_RX12_362 : LV RX12 362 yy_X12_glassGoes 1 := ⟨mk_X12_glassGoes, (by decide +kernel), (tb_in 1487 (by decide +kernel) (by decide +kernel)), (sb_in 153 (by decide +kernel) (by decide +kernel)), Or.inl (tb_in 1485 (by decide +kernel) (by decide +kernel))⟩
theorem lv_RX12_365 : LV RX12 365 yy_X12_heeding 1 := ⟨mk_X12_heeding, (by decide +kernel), (tb_in 1520 (by decide +kernel) (by decide +kernel)), (sb_in 155 (by decide +kernel) (by decide +kernel)), Or.inl (tb_in 1518 (by decide +kernel) (by decide +kernel))⟩
theorem lv_RX12_370 : LV RX12 370 yy_X12_passes 1 := ⟨mk_X12_passes, (by decide +kernel), (tb_in 1516 (by decide +kernel) (by decide +kernel)), (sb_in 154 (by decide +kernel) (by decide +kernel)), Or.inl (tb_in 1514 (by decide +kernel) (by decide +kernel))⟩
theorem lt_RX12_373 : LT RX12 373 yy_X12_bits 1 := ⟨mk_X12_bits, (by decide +kernel), (tb_in 1531 (by decide +kernel) (by decide +kernel)), Or.inl (tb_in 1530 (by decide +kernel) (by decide +kernel))⟩
theorem lv_RX12_376 : LV RX12 376 yy_X12_leanOf 1 := ⟨mk_X12_leanOf, (by decide +kernel), (tb_in 1528 (by decide +kernel) (by decide +kernel)), (sb_in 156 (by decide +kernel) (by decide +kernel)), Or.inl (tb_in 1526 (by decide +kernel) (by decide +kernel))⟩
theorem lv_RX12_379 : LV RX12 379 yy_X12_countFor 2 := ⟨mk_X12_countFor, (by decide +kernel), (tb_in 1539 (by decide +kernel) (by decide +kernel)), (sb_in 157 (by decide +kernel) (by decide +kernel)), Or.inl (tb_in 1537 (by decide +kernel) (by decide +kernel))⟩
theorem lv_RX12_382 : LV RX12 382 yy_X12_flatteryOf 1 := ⟨mk_X12_flatteryOf, (by decide +kernel), (tb_in 1547 (by decide +kernel) (by decide +kernel)), (sb_in 158 (by decide +kernel) (by decide +kernel)), Or.inl (tb_in 1545 (by decide +kernel) (by decide +kernel))⟩
theorem lv_RX12_385 : LV RX12 385 yy_X12_turnedBy 2 := ⟨mk_X12_turnedBy, (by decide +kernel), (tb_in 1555 (by decide +kernel) (by decide +kernel)), (sb_in 159 (by decide +kernel) (by decide +kernel)), Or.inl (tb_in 1553 (by decide +kernel) (by decide +kernel))⟩
theorem lv_RX12_394 : LV RX12 394 yy_X12_servedAt 3 := ⟨mk_X12_servedAt, (by decide +kernel), (tb_in 1591 (by decide +kernel) (by decide +kernel)), (sb_in 162 (by decide +kernel) (by decide +kernel)), Or.inl (tb_in 1589 (by decide +kernel) (by decide +kernel))⟩
theorem lv_RX12_397 : LV RX12 397 yy_X12_worthOf 1 := ⟨mk_X12_worthOf, (by decide +kernel), (tb_in 1595 (by decide +kernel) (by decide +kernel)), (sb_in 163 (by decide +kernel) (by decide +kernel)), Or.inl (tb_in 1593 (by decide +kernel) (by decide +kernel))⟩
theorem lt_RX12_400 : LT RX12 400 yy_X12_placeAt 3 := ⟨mk_X12_placeAt, (by decide +kernel), (tb_in 1583 (by decide +kernel) (by decide +kernel)), Or.inl (tb_in 1582 (by decide +kernel) (by decide +kernel))⟩
theorem lv_RX12_403 : LV RX12 403 yy_X12_mostFrom 4 := ⟨mk_X12_mostFrom, (by decide +kernel), (tb_in 1587 (by decide +kernel) (by decide +kernel)), (sb_in 161 (by decide +kernel) (by decide +kernel)), Or.inl (tb_in 1585 (by decide +kernel) (by decide +kernel))⟩
theorem lv_RX12_410 : LV RX12 410 yy_X12_fillsRounds 1 := ⟨mk_X12_fillsRounds, (by decide +kernel), (tb_in 1580 (by decide +kernel) (by decide +kernel)), (sb_in 160 (by decide +kernel) (by decide +kernel)), Or.inl (tb_in 1578 (by decide +kernel) (by decide +kernel))⟩
theorem lv_RX12_413 : LV RX12 413 yy_X12_viewsOf 1 := ⟨mk_X12_viewsOf, (by decide +kernel), (tb_in 1607 (by decide +kernel) (by decide +kernel)), (sb_in 164 (by decide +kernel) (by decide +kernel)), Or.inl (tb_in 1605 (by decide +kernel) (by decide +kernel))⟩
theorem lv_RX12_416 : LV RX12 416 yy_X12_fewestFaces 0 := ⟨mk_X12_fewestFaces, (by decide +kernel), (tb_in 1615 (by decide +kernel) (by decide +kernel)), (sb_in 165 (by decide +kernel) (by decide +kernel)), Or.inl (tb_in 1613 (by decide +kernel) (by decide +kernel))⟩
theorem lv_RX12_434 : LV RX12 434 yy_X12_draw 1 := ⟨mk_X12_draw, (by decide +kernel), (tb_in 1633 (by decide +kernel) (by decide +kernel)), (sb_in 167 (by decide +kernel) (by decide +kernel)), Or.inl (tb_in 1631 (by decide +kernel) (by decide +kernel))⟩
theorem lv_RX12_441 : LV RX12 441 yy_X12_drawsHour 2 := ⟨mk_X12_drawsHour, (by decide +kernel), (tb_in 1629 (by decide +kernel) (by decide +kernel)), (sb_in 166 (by decide +kernel) (by decide +kernel)), Or.inl (tb_in 1627 (by decide +kernel) (by decide +kernel))⟩
theorem lv_RJ0_335 : LV RJ0 335 yy_J0_coder_7d493 0 := ⟨mk_J0_coder_7d493, (by decide +kernel), (tb_in 410 (by decide +kernel) (by decide +kernel)), (tb_in 411 (by decide +kernel) (by decide +kernel)), Or.inl (tb_in 409 (by decide +kernel) (by decide +kernel))⟩
theorem lv_RJ0_492 : LV RJ0 492 yy_J0_isLatin1_aae02 0 := ⟨mk_J0_isLatin1_aae02, (by decide +kernel), (tb_in 420 (by decide +kernel) (by decide +kernel)), (tb_in 421 (by decide +kernel) (by decide +kernel)), Or.inl (tb_in 419 (by decide +kernel) (by decide +kernel))⟩
theorem lt_RJ0_495 : LT RJ0 495 yy_J1_charAt_3b067 2 := ⟨mk_J1_charAt_3b067, (by decide +kernel), (tb_in 424 (by decide +kernel) (by decide +kernel)), Or.inl (tb_in 423 (by decide +kernel) (by decide +kernel))⟩
theorem lt_RJ0_498 : LT RJ0 498 yy_J2_charAt_3b067 2 := ⟨mk_J2_charAt_3b067, (by decide +kernel), (tb_in 435 (by decide +kernel) (by decide +kernel)), Or.inl (tb_in 434 (by decide +kernel) (by decide +kernel))⟩
theorem lt_RJ0_1059 : LT RJ0 1059 yy_J3_checkIndex_8e157 3 := ⟨mk_J3_checkIndex_8e157, (by decide +kernel), (tb_in 432 (by decide +kernel) (by decide +kernel)), Or.inl (tb_in 431 (by decide +kernel) (by decide +kernel))⟩
theorem lt_RJ1_9 : LT RJ1 9 yy_J0_checkIndex_df160 2 := ⟨mk_J0_checkIndex_df160, (by decide +kernel), (tb_in 427 (by decide +kernel) (by decide +kernel)), Or.inl (tb_in 426 (by decide +kernel) (by decide +kernel))⟩
theorem lt_RJ2_48 : LT RJ2 48 yy_J2_length_9d52b 1 := ⟨mk_J2_length_9d52b, (by decide +kernel), (tb_in 441 (by decide +kernel) (by decide +kernel)), Or.inl (tb_in 440 (by decide +kernel) (by decide +kernel))⟩
theorem lt_RJ2_67 : LT RJ2 67 yy_J2_checkIndex_2214a 2 := ⟨mk_J2_checkIndex_2214a, (by decide +kernel), (tb_in 438 (by decide +kernel) (by decide +kernel)), Or.inl (tb_in 437 (by decide +kernel) (by decide +kernel))⟩
theorem lt_RJ2_71 : LT RJ2 71 yy_J2_getChar_3b067 2 := ⟨mk_J2_getChar_3b067, (by decide +kernel), (tb_in 445 (by decide +kernel) (by decide +kernel)), Or.inl (tb_in 444 (by decide +kernel) (by decide +kernel))⟩
theorem lt_RJ2_414 : LT RJ2 414 yy_J0_checkIndex_df160 2 := ⟨mk_J0_checkIndex_df160, (by decide +kernel), (tb_in 427 (by decide +kernel) (by decide +kernel)), Or.inl (tb_in 443 (by decide +kernel) (by decide +kernel))⟩
end
section
/-! ===== the reference as a module: its cells by a picture T (ints, longs), its steps over T ===== -/
abbrev mT : Type := (Nat → Nat → Int32) × (Nat → Nat → Int64)
def mObj (T : mT) : List Value := [.ref 138, .int (T.1 0 1), .int (T.1 0 2), .ref 139, .ref 140, .ref 141, .ref 142, .ref 143, .int (T.1 0 8), .int (T.1 0 9), .int (T.1 0 10), .int (T.1 0 11), .int (T.1 0 12), .int (T.1 0 13), .int (T.1 0 14), .ref 144, .int (T.1 0 16), .int (T.1 0 17), .ref 145, .int (T.1 0 19), .ref 146, .ref 147, .int (T.1 0 22), .int (T.1 0 23), .ref 148, .int (T.1 0 25), .ref 149, .ref 150, .ref 151, .long (T.2 0 29), .ref 152, .ref 153, .ref 154, .ref 155]
def mArr (T : mT) (j : Nat) : aE := match j with
  | 1 => .inl (.byte, 400, .inl (T.1 1))
  | 2 => .inl (.int, 2400, .inl (T.1 2))
  | 3 => .inl (.int, 7, .inl (T.1 3))
  | 4 => .inl (.int, 360, .inl (T.1 4))
  | 5 => .inl (.int, 6, .inl (T.1 5))
  | 6 => .inl (.int, 112, .inl (T.1 6))
  | 7 => .inl (.int, 400, .inl (T.1 7))
  | 8 => .inl (.long, 64, .inr (.inl (T.2 8)))
  | 9 => .inl (.long, 8, .inr (.inl (T.2 9)))
  | 10 => .inl (.int, 410, .inl (T.1 10))
  | 11 => .inl (.int, 7040, .inl (T.1 11))
  | 12 => .inl (.int, 131072, .inl (T.1 12))
  | 13 => .inl (.int, 256, .inl (T.1 13))
  | 14 => .inl (.int, 352, .inl (T.1 14))
  | 15 => .inl (.int, 1640, .inl (T.1 15))
  | 16 => .inl (.int, 4, .inl (T.1 16))
  | 17 => .inl (.int, 4, .inl (T.1 17))
  | 18 => .inl (.boolean, 4, .inl (T.1 18))
  | _ => .inl (.int, 0, .inl (fun _ => 0))
def hM (C : aH) (T : mT) : aH := fun q => if q < 137 then C q else if q = 137 then .inr (10, mObj T) else mArr T (q - 137)
def mz (T : mT) (f : Nat) (v : Int32) : mT := (va_up T.1 0 (upd (T.1 0) f v), T.2)
def mw (T : mT) (f : Nat) (v : Int64) : mT := (T.1, va_up T.2 0 (vp_updL (T.2 0) f v))
/-- a cell of an int row, of a long row -/
def ma (T : mT) (j i : Nat) (v : Int32) : mT := (va_up T.1 j (upd (T.1 j) i v), T.2)
def mb (T : mT) (j i : Nat) (v : Int64) : mT := (T.1, va_up T.2 j (vp_updL (T.2 j) i v))
theorem hM_o (C : aH) (T : mT) : hM C T 137 = .inr (10, mObj T) := rfl
theorem hM_a (C : aH) (T : mT) (j : Nat) (h : 0 < j) : hM C T (137 + j) = mArr T j := by
  unfold hM
  rw [if_neg (by omega), if_neg (by omega), Nat.add_sub_cancel_left]
theorem hM_put {C : aH} {T T' : mT} {e : aE} (h1 : e = .inr (10, mObj T')) (h2 : ∀ j, 0 < j → mArr T' j = mArr T j) : va_up (hM C T) 137 e = hM C T' := by
  funext q
  unfold va_up hM
  by_cases a : q = 137
  · subst a
    rw [if_pos rfl, if_neg (by decide), if_pos rfl, h1]
  · rw [if_neg a]
    by_cases b : q < 137
    · rw [if_pos b, if_pos b]
    · rw [if_neg b, if_neg b, if_neg a, if_neg a, h2 _ (by omega)]
theorem hM_arr {C : aH} {T T' : mT} {e : aE} {j : Nat} (hj : 0 < j) (h0 : mObj T' = mObj T) (h1 : e = mArr T' j) (h2 : ∀ k, k ≠ j → 0 < k → mArr T' k = mArr T k) : va_up (hM C T) (137 + j) e = hM C T' := by
  funext q
  unfold va_up hM
  by_cases a : q = 137 + j
  · subst a
    rw [if_pos rfl, if_neg (by omega), if_neg (by omega), h1, Nat.add_sub_cancel_left]
  · rw [if_neg a]
    by_cases b : q < 137
    · rw [if_pos b, if_pos b]
    · by_cases c : q = 137
      · rw [if_neg b, if_neg b, if_pos c, if_pos c, h0]
      · rw [if_neg b, if_neg b, if_neg c, if_neg c, h2 _ (by omega) (by omega)]
theorem mArr_congr {T T' : mT} {j : Nat} (h1 : T'.1 j = T.1 j) (h2 : T'.2 j = T.2 j) : mArr T' j = mArr T j := by
  unfold mArr
  split <;> simp only [h1, h2]
theorem mz_arr (T : mT) (f : Nat) (v : Int32) (j : Nat) (h : 0 < j) : mArr (mz T f v) j = mArr T j := mArr_congr (va_up_ne _ _ (by omega)) rfl
theorem mw_arr (T : mT) (f : Nat) (v : Int64) (j : Nat) (h : 0 < j) : mArr (mw T f v) j = mArr T j := mArr_congr rfl (va_up_ne _ _ (by omega))
theorem mObj_congr {T T' : mT} (h1 : T'.1 0 = T.1 0) (h2 : T'.2 0 = T.2 0) : mObj T' = mObj T := by
  unfold mObj
  rw [h1, h2]
theorem ma_obj (T : mT) (j i : Nat) (v : Int32) (h : 0 < j) : mObj (ma T j i v) = mObj T := mObj_congr (va_up_ne _ _ (by omega)) rfl
theorem mb_obj (T : mT) (j i : Nat) (v : Int64) (h : 0 < j) : mObj (mb T j i v) = mObj T := mObj_congr rfl (va_up_ne _ _ (by omega))
theorem ma_arr (T : mT) (j i : Nat) (v : Int32) (k : Nat) (h : k ≠ j) : mArr (ma T j i v) k = mArr T k := mArr_congr (va_up_ne _ _ h) rfl
theorem mb_arr (T : mT) (j i : Nat) (v : Int64) (k : Nat) (h : k ≠ j) : mArr (mb T j i v) k = mArr T k := mArr_congr rfl (va_up_ne _ _ h)

def lk (l : List (Nat × Nat)) (k : Nat) : Option Nat := match l with
  | [] => none
  | q :: r => bif Nat.beq q.1 k then some q.2 else lk r k
theorem lk_mem : ∀ {l : List (Nat × Nat)} {k v : Nat}, lk l k = some v → (k, v) ∈ l
  | [], k, v, h => by cases h
  | q :: r, k, v, h => by
    unfold lk at h
    cases hb : Nat.beq q.1 k with
    | true =>
      rw [hb] at h
      have h1 : q.1 = k := Nat.eq_of_beq_eq_true hb
      have h2 : q.2 = v := Option.some.inj h
      subst h1; subst h2
      exact List.mem_cons_self
    | false =>
      rw [hb] at h
      exact List.mem_cons_of_mem _ (lk_mem h)
def mFI : List (Nat × Nat) := [(7, 0), (13, 3), (17, 4), (20, 5), (23, 6), (26, 7), (29, 15), (32, 18), (36, 20), (39, 21), (42, 22), (46, 24), (50, 26), (53, 27), (56, 28), (59, 30), (62, 31), (65, 32), (68, 33), (72, 1), (79, 9), (82, 8), (107, 10), (130, 11), (133, 12), (136, 13), (139, 16), (206, 17), (242, 14), (254, 2), (260, 25), (263, 19), (419, 23), (422, 29)]
def mPI : List (Nat × Nat) := [(42, 22), (72, 1), (79, 9), (82, 8), (107, 10), (130, 11), (133, 12), (136, 13), (139, 16), (206, 17), (242, 14), (254, 2), (260, 25), (263, 19), (419, 23)]
theorem mFI_ok : ∀ q ∈ mFI, FL RX12 q.1 10 q.2 := List.forall_mem_cons.mpr ⟨fl_RX12_7, List.forall_mem_cons.mpr ⟨fl_RX12_13, List.forall_mem_cons.mpr ⟨fl_RX12_17, List.forall_mem_cons.mpr ⟨fl_RX12_20, List.forall_mem_cons.mpr ⟨fl_RX12_23, List.forall_mem_cons.mpr ⟨fl_RX12_26, List.forall_mem_cons.mpr ⟨fl_RX12_29, List.forall_mem_cons.mpr ⟨fl_RX12_32, List.forall_mem_cons.mpr ⟨fl_RX12_36, List.forall_mem_cons.mpr ⟨fl_RX12_39, List.forall_mem_cons.mpr ⟨fl_RX12_42, List.forall_mem_cons.mpr ⟨fl_RX12_46, List.forall_mem_cons.mpr ⟨fl_RX12_50, List.forall_mem_cons.mpr ⟨fl_RX12_53, List.forall_mem_cons.mpr ⟨fl_RX12_56, List.forall_mem_cons.mpr ⟨fl_RX12_59, List.forall_mem_cons.mpr ⟨fl_RX12_62, List.forall_mem_cons.mpr ⟨fl_RX12_65, List.forall_mem_cons.mpr ⟨fl_RX12_68, List.forall_mem_cons.mpr ⟨fl_RX12_72, List.forall_mem_cons.mpr ⟨fl_RX12_79, List.forall_mem_cons.mpr ⟨fl_RX12_82, List.forall_mem_cons.mpr ⟨fl_RX12_107, List.forall_mem_cons.mpr ⟨fl_RX12_130, List.forall_mem_cons.mpr ⟨fl_RX12_133, List.forall_mem_cons.mpr ⟨fl_RX12_136, List.forall_mem_cons.mpr ⟨fl_RX12_139, List.forall_mem_cons.mpr ⟨fl_RX12_206, List.forall_mem_cons.mpr ⟨fl_RX12_242, List.forall_mem_cons.mpr ⟨fl_RX12_254, List.forall_mem_cons.mpr ⟨fl_RX12_260, List.forall_mem_cons.mpr ⟨fl_RX12_263, List.forall_mem_cons.mpr ⟨fl_RX12_419, List.forall_mem_cons.mpr ⟨fl_RX12_422, fun _ h => absurd h List.not_mem_nil⟩⟩⟩⟩⟩⟩⟩⟩⟩⟩⟩⟩⟩⟩⟩⟩⟩⟩⟩⟩⟩⟩⟩⟩⟩⟩⟩⟩⟩⟩⟩⟩⟩⟩
theorem mPI_ok : ∀ q ∈ mPI, FP RX12 q.1 10 q.2 .int false := List.forall_mem_cons.mpr ⟨fp_RX12_42, List.forall_mem_cons.mpr ⟨fp_RX12_72, List.forall_mem_cons.mpr ⟨fp_RX12_79, List.forall_mem_cons.mpr ⟨fp_RX12_82, List.forall_mem_cons.mpr ⟨fp_RX12_107, List.forall_mem_cons.mpr ⟨fp_RX12_130, List.forall_mem_cons.mpr ⟨fp_RX12_133, List.forall_mem_cons.mpr ⟨fp_RX12_136, List.forall_mem_cons.mpr ⟨fp_RX12_139, List.forall_mem_cons.mpr ⟨fp_RX12_206, List.forall_mem_cons.mpr ⟨fp_RX12_242, List.forall_mem_cons.mpr ⟨fp_RX12_254, List.forall_mem_cons.mpr ⟨fp_RX12_260, List.forall_mem_cons.mpr ⟨fp_RX12_263, List.forall_mem_cons.mpr ⟨fp_RX12_419, fun _ h => absurd h List.not_mem_nil⟩⟩⟩⟩⟩⟩⟩⟩⟩⟩⟩⟩⟩⟩⟩
theorem mPI_set (T : mT) (v : Int32) : ∀ q ∈ mPI, (mObj T).set q.2 (.int v) = mObj (mz T q.2 v) := List.forall_mem_cons.mpr ⟨rfl, List.forall_mem_cons.mpr ⟨rfl, List.forall_mem_cons.mpr ⟨rfl, List.forall_mem_cons.mpr ⟨rfl, List.forall_mem_cons.mpr ⟨rfl, List.forall_mem_cons.mpr ⟨rfl, List.forall_mem_cons.mpr ⟨rfl, List.forall_mem_cons.mpr ⟨rfl, List.forall_mem_cons.mpr ⟨rfl, List.forall_mem_cons.mpr ⟨rfl, List.forall_mem_cons.mpr ⟨rfl, List.forall_mem_cons.mpr ⟨rfl, List.forall_mem_cons.mpr ⟨rfl, List.forall_mem_cons.mpr ⟨rfl, List.forall_mem_cons.mpr ⟨rfl, fun _ h => absurd h List.not_mem_nil⟩⟩⟩⟩⟩⟩⟩⟩⟩⟩⟩⟩⟩⟩⟩
theorem mPI_len (T : mT) : ∀ q ∈ mPI, q.2 < (mObj T).length := List.forall_mem_cons.mpr ⟨(by show _ < 34; decide), List.forall_mem_cons.mpr ⟨(by show _ < 34; decide), List.forall_mem_cons.mpr ⟨(by show _ < 34; decide), List.forall_mem_cons.mpr ⟨(by show _ < 34; decide), List.forall_mem_cons.mpr ⟨(by show _ < 34; decide), List.forall_mem_cons.mpr ⟨(by show _ < 34; decide), List.forall_mem_cons.mpr ⟨(by show _ < 34; decide), List.forall_mem_cons.mpr ⟨(by show _ < 34; decide), List.forall_mem_cons.mpr ⟨(by show _ < 34; decide), List.forall_mem_cons.mpr ⟨(by show _ < 34; decide), List.forall_mem_cons.mpr ⟨(by show _ < 34; decide), List.forall_mem_cons.mpr ⟨(by show _ < 34; decide), List.forall_mem_cons.mpr ⟨(by show _ < 34; decide), List.forall_mem_cons.mpr ⟨(by show _ < 34; decide), List.forall_mem_cons.mpr ⟨(by show _ < 34; decide), fun _ h => absurd h List.not_mem_nil⟩⟩⟩⟩⟩⟩⟩⟩⟩⟩⟩⟩⟩⟩⟩
end
section
/-! ===== walks of the reference over its picture; walks of methods that touch no cell ===== -/
def mQ (C : aH) (r : Option Value) (T : mT) : aQ := fun r' n' h' => r' = r ∧ n' = 156 ∧ h' = hM C T
def MOk (l : Launch) (Y : aY) (d : Nat) (As : List Value) (T : mT) (r : Option Value) (T' : mT) : Prop := ∀ C : aH, AOk l Y (rmD d) (mQ C r T') (.ref 137 :: As) 156 (hM C T)
def MW (l : Launch) (Y : aY) (d : Nat) (r : Option Value) (T' : mT) (pc : Nat) (ls : List (Option Value)) (st : List Value) (T : mT) : Prop := ∀ C : aH, AW l Y (rmD d) (mQ C r T') 0 0 pc ls st 156 (hM C T)
def POk (l : Launch) (Y : aY) (d : Nat) (As : List Value) (r : Option Value) : Prop := ∀ (n : Nat) (h : aH), AOk l Y (rmD d) (fun r' n' h' => r' = r ∧ n' = n ∧ h' = h) As n h
def PW (l : Launch) (Y : aY) (d : Nat) (r : Option Value) (pc : Nat) (ls : List (Option Value)) (st : List Value) : Prop := ∀ (n : Nat) (h : aH), AW l Y (rmD d) (fun r' n' h' => r' = r ∧ n' = n ∧ h' = h) 0 0 pc ls st n h
def gl (i : Instr) : Nat := match i with
  | .getfield _ => 3
  | .putfield _ => 3
  | i => lnI i
def gx (i : Instr) (z : Int32) (ls : List (Option Value)) (st : List Value) (T : mT) : Option (List (Option Value) × List Value × mT) := match i, st with
  | .getfield idx, .ref q :: st => bif Nat.beq q 137 then (match lk mFI idx with | some f => (match (mObj T)[f]? with | some v => some (ls, v :: st, T) | none => none) | none => none) else none
  | .putfield idx, .int v :: .ref q :: st => bif Nat.beq q 137 then (match lk mPI idx with | some f => some (ls, st, mz T f v) | none => none) else none
  | i, st => match px i z ls st with | some (a, b) => some (a, b, T) | none => none
def decg (cc : ByteArray) : Nat → List (Instr × Int32) → Option Nat
  | pc, [] => some pc
  | pc, (i, z) :: r => match decode cc pc with
    | .ok (j, len) => bif decide (j = i) && (okI i z) then (match i with
        | .goto off => bif decide (0 ≤ (pc : Int) + off) && Nat.beq len 3 then decg cc ((pc : Int) + off).toNat r else none
        | _ => bif Nat.beq len (gl i) then decg cc (pc + len) r else none) else none
    | _ => none
def gxs : List (Instr × Int32) → List (Option Value) → List Value → mT → Option (List (Option Value) × List Value × mT)
  | [], ls, st, T => some (ls, st, T)
  | (.goto _, _) :: r, ls, st, T => gxs r ls st T
  | (i, z) :: r, ls, st, T => match gx i z ls st T with
    | some (ls1, st1, T1) => gxs r ls1 st1 T1
    | none => none
theorem decg_cons {cc : ByteArray} {pc pc' : Nat} {i : Instr} {z : Int32} {r : List (Instr × Int32)} (h : decg cc pc ((i, z) :: r) = some pc') :
    okI i z = true ∧ ((∃ off tgt, i = .goto off ∧ decode cc pc = .ok (.goto off, 3) ∧ (pc : Int) + off = ((tgt : Nat) : Int) ∧ decg cc tgt r = some pc') ∨ ((∀ off, i ≠ .goto off) ∧ decode cc pc = .ok (i, gl i) ∧ decg cc (pc + gl i) r = some pc')) := by
  unfold decg at h
  split at h
  · rename_i j len hd
    cases hb : (decide (j = i) && okI i z) with
    | false => rw [hb] at h; cases h
    | true =>
      rw [hb] at h
      obtain ⟨h1, h2⟩ := Bool.and_eq_true_iff.mp hb
      have h1 : j = i := of_decide_eq_true h1
      subst h1
      refine ⟨h2, ?_⟩
      simp only [cond_true] at h
      split at h
      · rename_i off
        cases hc : (decide (0 ≤ (pc : Int) + off) && Nat.beq len 3) with
        | false => rw [hc] at h; cases h
        | true =>
          rw [hc] at h
          obtain ⟨h3, h4⟩ := Bool.and_eq_true_iff.mp hc
          have h3 : 0 ≤ (pc : Int) + off := of_decide_eq_true h3
          have h4 : len = 3 := Nat.eq_of_beq_eq_true h4
          subst h4
          exact Or.inl ⟨off, ((pc : Int) + off).toNat, rfl, hd, by omega, h⟩
      · rename_i hne
        cases hc : Nat.beq len (gl j) with
        | false => rw [hc] at h; cases h
        | true =>
          rw [hc] at h
          have h4 : len = gl j := Nat.eq_of_beq_eq_true hc
          subst h4
          exact Or.inr ⟨fun off hh => hne off hh, hd, h⟩
  · cases h
theorem gxs_cons {i : Instr} {z : Int32} {r : List (Instr × Int32)} {ls ls' : List (Option Value)} {st st' : List Value} {T T' : mT} (hn : ∀ off, i ≠ .goto off) (h : gxs ((i, z) :: r) ls st T = some (ls', st', T')) : ∃ ls1 st1 T1, gx i z ls st T = some (ls1, st1, T1) ∧ gxs r ls1 st1 T1 = some (ls', st', T') := by
  unfold gxs at h
  split at h
  · rename_i heq; cases heq
  · rename_i heq
    cases heq
    exact absurd rfl (hn _)
  · rename_i heq
    cases heq
    split at h
    · rename_i ls1 st1 T1 hq
      exact ⟨ls1, st1, T1, hq, h⟩
    · cases h
section AWG
variable {l : Launch} {Y : aY} {R : Room} {Q : aQ} {cu su pc : Nat} {ls : List (Option Value)} {st : List Value} {n : Nat} {h : aH}
theorem AW.goto {off : Int} {tgt : Nat} (hd : decode Y.2.1 pc = .ok (.goto off, 3)) (ht : (pc : Int) + off = (tgt : Int)) (k : AW l Y R Q cu su tgt ls st n h) : AW l Y R Q cu su pc ls st n h := by
  intro p e s m args below meth c D cA as0 n0 A as H locs E S X lsA hl
  exact lv_goto E.1 E.2.1 hd ht (k p e s m args below meth c D cA as0 n0 A as H locs E S X lsA hl)
theorem AW.px {i : Instr} {z : Int32} {ls' : List (Option Value)} {st' : List Value} (hd : decode Y.2.1 pc = .ok (i, lnI i)) (hz : okI i z = true) (hp : px i z ls st = some (ls', st')) (k : AW l Y R Q cu su (pc + lnI i) ls' st' n h) : AW l Y R Q cu su pc ls st n h := by
  intro p e s m args below meth c D cA as0 n0 A as H locs E S X
  exact px_ok E.1 E.2.1 hd hz hp (k p e s m args below meth c D cA as0 n0 A as H locs E S X)
end AWG
section MWR
variable {l : Launch} {Y : aY} {d : Nat} {r : Option Value} {T' : mT} {pc : Nat} {ls : List (Option Value)} {st : List Value} {T : mT}
theorem gx_px {i : Instr} {z : Int32} {ls' : List (Option Value)} {st' : List Value} {T1 : mT} (h : (match px i z ls st with | some (a, b) => some (a, b, T) | none => none) = some (ls', st', T1)) : px i z ls st = some (ls', st') ∧ T1 = T := by
  split at h
  · rename_i a b hq
    cases h
    exact ⟨hq, rfl⟩
  · cases h
theorem MW.stepg (hY : Y.1.cls = RX12) {i : Instr} {z : Int32} {ls' : List (Option Value)} {st' : List Value} {T1 : mT} (hd : decode Y.2.1 pc = .ok (i, gl i)) (hz : okI i z = true) (hp : gx i z ls st T = some (ls', st', T1)) (k : MW l Y d r T' (pc + gl i) ls' st' T1) : MW l Y d r T' pc ls st T := by
  intro C
  unfold gx at hp
  split at hp
  · rename_i idx q st0
    cases hb : Nat.beq q 137 with
    | false => rw [hb] at hp; cases hp
    | true =>
      rw [hb] at hp
      have hq : q = 137 := Nat.eq_of_beq_eq_true hb
      subst hq
      simp only [cond_true] at hp
      split at hp
      · rename_i f hf
        split at hp
        · rename_i v hv
          cases hp
          exact AW.getf (by rw [hY]; exact mFI_ok _ (lk_mem hf)) hd (by decide) (hM_o C _) hv (k C)
        · cases hp
      · cases hp
  · rename_i idx v q st0
    cases hb : Nat.beq q 137 with
    | false => rw [hb] at hp; cases hp
    | true =>
      rw [hb] at hp
      have hq : q = 137 := Nat.eq_of_beq_eq_true hb
      subst hq
      simp only [cond_true] at hp
      split at hp
      · rename_i f hf
        cases hp
        refine AW.putf (by rw [hY]; exact mPI_ok _ (lk_mem hf)) hd (by decide) (hM_o C _) (mPI_len T _ (lk_mem hf)) (fun _ => rfl) (fun _ => rfl) ?_
        rw [hM_put (T' := mz T f v) (by rw [mPI_set T v _ (lk_mem hf)]) (fun j hj => mz_arr T f v j hj)]
        exact k C
      · cases hp
  · obtain ⟨h1, h2⟩ := gx_px hp
    subst h2
    have hg : gl i = lnI i := by
      cases i <;> first | rfl | (simp [px] at h1)
    rw [hg] at hd
    have k2 := k C
    rw [hg] at k2
    exact AW.px hd hz h1 k2
theorem MW.run (hY : Y.1.cls = RX12) (blk : List (Instr × Int32)) {pc' : Nat} {ls' : List (Option Value)} {st' : List Value} {T1 : mT} (hd : decg Y.2.1 pc blk = some pc') (hp : gxs blk ls st T = some (ls', st', T1)) (k : MW l Y d r T' pc' ls' st' T1) : MW l Y d r T' pc ls st T := by
  induction blk generalizing pc ls st T with
  | nil =>
    have h1 : pc = pc' := Option.some.inj hd
    have h2 : (ls, st, T) = (ls', st', T1) := Option.some.inj hp
    cases h1
    cases h2
    exact k
  | cons q rr ih =>
    obtain ⟨i, z⟩ := q
    obtain ⟨hz, ⟨off, tgt, rfl, h1, h2, h3⟩ | ⟨h1, h2, h3⟩⟩ := decg_cons hd
    · have k2 := ih h3 hp
      exact fun C => AW.goto h1 h2 (k2 C)
    · obtain ⟨ls1, st1, T2, h4, h5⟩ := gxs_cons h1 hp
      exact MW.stepg hY h2 hz h4 (ih h3 h5)

theorem MW.if_eq {x : Int32} {off : Int} {tgt : Nat} (hd : decode Y.2.1 pc = .ok (.ifCond .eq off, 3)) (ht : (pc : Int) + off = (tgt : Int)) (kt : x = 0 → MW l Y d r T' tgt ls st T) (kf : ¬ x = 0 → MW l Y d r T' (pc + 3) ls st T) : MW l Y d r T' pc ls (.int x :: st) T := fun C => AW.if_eq hd ht (fun q => kt q C) (fun q => kf q C)
theorem MW.if_ne {x : Int32} {off : Int} {tgt : Nat} (hd : decode Y.2.1 pc = .ok (.ifCond .ne off, 3)) (ht : (pc : Int) + off = (tgt : Int)) (kt : ¬ x = 0 → MW l Y d r T' tgt ls st T) (kf : x = 0 → MW l Y d r T' (pc + 3) ls st T) : MW l Y d r T' pc ls (.int x :: st) T := fun C => AW.if_ne hd ht (fun q => kt q C) (fun q => kf q C)
theorem MW.if_lt {x : Int32} {off : Int} {tgt : Nat} (hd : decode Y.2.1 pc = .ok (.ifCond .lt off, 3)) (ht : (pc : Int) + off = (tgt : Int)) (kt : x < 0 → MW l Y d r T' tgt ls st T) (kf : ¬ x < 0 → MW l Y d r T' (pc + 3) ls st T) : MW l Y d r T' pc ls (.int x :: st) T := fun C => AW.if_lt hd ht (fun q => kt q C) (fun q => kf q C)
theorem MW.if_ge {x : Int32} {off : Int} {tgt : Nat} (hd : decode Y.2.1 pc = .ok (.ifCond .ge off, 3)) (ht : (pc : Int) + off = (tgt : Int)) (kt : 0 ≤ x → MW l Y d r T' tgt ls st T) (kf : ¬ 0 ≤ x → MW l Y d r T' (pc + 3) ls st T) : MW l Y d r T' pc ls (.int x :: st) T := fun C => AW.if_ge hd ht (fun q => kt q C) (fun q => kf q C)
theorem MW.if_gt {x : Int32} {off : Int} {tgt : Nat} (hd : decode Y.2.1 pc = .ok (.ifCond .gt off, 3)) (ht : (pc : Int) + off = (tgt : Int)) (kt : 0 < x → MW l Y d r T' tgt ls st T) (kf : ¬ 0 < x → MW l Y d r T' (pc + 3) ls st T) : MW l Y d r T' pc ls (.int x :: st) T := fun C => AW.if_gt hd ht (fun q => kt q C) (fun q => kf q C)
theorem MW.if_le {x : Int32} {off : Int} {tgt : Nat} (hd : decode Y.2.1 pc = .ok (.ifCond .le off, 3)) (ht : (pc : Int) + off = (tgt : Int)) (kt : x ≤ 0 → MW l Y d r T' tgt ls st T) (kf : ¬ x ≤ 0 → MW l Y d r T' (pc + 3) ls st T) : MW l Y d r T' pc ls (.int x :: st) T := fun C => AW.if_le hd ht (fun q => kt q C) (fun q => kf q C)
theorem MW.icmp_eq {x y : Int32} {off : Int} {tgt : Nat} (hd : decode Y.2.1 pc = .ok (.if_icmp .eq off, 3)) (ht : (pc : Int) + off = (tgt : Int)) (kt : x = y → MW l Y d r T' tgt ls st T) (kf : ¬ x = y → MW l Y d r T' (pc + 3) ls st T) : MW l Y d r T' pc ls (.int y :: .int x :: st) T := fun C => AW.icmp_eq hd ht (fun q => kt q C) (fun q => kf q C)
theorem MW.icmp_ne {x y : Int32} {off : Int} {tgt : Nat} (hd : decode Y.2.1 pc = .ok (.if_icmp .ne off, 3)) (ht : (pc : Int) + off = (tgt : Int)) (kt : ¬ x = y → MW l Y d r T' tgt ls st T) (kf : x = y → MW l Y d r T' (pc + 3) ls st T) : MW l Y d r T' pc ls (.int y :: .int x :: st) T := fun C => AW.icmp_ne hd ht (fun q => kt q C) (fun q => kf q C)
theorem MW.icmp_lt {x y : Int32} {off : Int} {tgt : Nat} (hd : decode Y.2.1 pc = .ok (.if_icmp .lt off, 3)) (ht : (pc : Int) + off = (tgt : Int)) (kt : x < y → MW l Y d r T' tgt ls st T) (kf : ¬ x < y → MW l Y d r T' (pc + 3) ls st T) : MW l Y d r T' pc ls (.int y :: .int x :: st) T := fun C => AW.icmp_lt hd ht (fun q => kt q C) (fun q => kf q C)
theorem MW.icmp_ge {x y : Int32} {off : Int} {tgt : Nat} (hd : decode Y.2.1 pc = .ok (.if_icmp .ge off, 3)) (ht : (pc : Int) + off = (tgt : Int)) (kt : y ≤ x → MW l Y d r T' tgt ls st T) (kf : ¬ y ≤ x → MW l Y d r T' (pc + 3) ls st T) : MW l Y d r T' pc ls (.int y :: .int x :: st) T := fun C => AW.icmp_ge hd ht (fun q => kt q C) (fun q => kf q C)
theorem MW.icmp_gt {x y : Int32} {off : Int} {tgt : Nat} (hd : decode Y.2.1 pc = .ok (.if_icmp .gt off, 3)) (ht : (pc : Int) + off = (tgt : Int)) (kt : y < x → MW l Y d r T' tgt ls st T) (kf : ¬ y < x → MW l Y d r T' (pc + 3) ls st T) : MW l Y d r T' pc ls (.int y :: .int x :: st) T := fun C => AW.icmp_gt hd ht (fun q => kt q C) (fun q => kf q C)
theorem MW.icmp_le {x y : Int32} {off : Int} {tgt : Nat} (hd : decode Y.2.1 pc = .ok (.if_icmp .le off, 3)) (ht : (pc : Int) + off = (tgt : Int)) (kt : x ≤ y → MW l Y d r T' tgt ls st T) (kf : ¬ x ≤ y → MW l Y d r T' (pc + 3) ls st T) : MW l Y d r T' pc ls (.int y :: .int x :: st) T := fun C => AW.icmp_le hd ht (fun q => kt q C) (fun q => kf q C)
theorem MW.idiv {x y : Int32} (hne : ¬ y = 0) (hd : decode Y.2.1 pc = .ok (.idiv, 1)) (k : MW l Y d r T' (pc + 1) ls (.int (x / y) :: st) T) : MW l Y d r T' pc ls (.int y :: .int x :: st) T := fun C => AW.idiv hne hd (k C)
theorem MW.irem {x y : Int32} (hne : ¬ y = 0) (hd : decode Y.2.1 pc = .ok (.irem, 1)) (k : MW l Y d r T' (pc + 1) ls (.int (x - x / y * y) :: st) T) : MW l Y d r T' pc ls (.int y :: .int x :: st) T := fun C => AW.irem hne hd (k C)
theorem MW.ldiv {x y : Int64} (hne : ¬ y = 0) (hd : decode Y.2.1 pc = .ok (.ldiv, 1)) (k : MW l Y d r T' (pc + 1) ls (.long (x / y) :: st) T) : MW l Y d r T' pc ls (.long y :: .long x :: st) T := fun C => AW.ldiv hne hd (k C)
theorem MW.lrem {x y : Int64} (hne : ¬ y = 0) (hd : decode Y.2.1 pc = .ok (.lrem, 1)) (k : MW l Y d r T' (pc + 1) ls (.long (x - x / y * y) :: st) T) : MW l Y d r T' pc ls (.long y :: .long x :: st) T := fun C => AW.lrem hne hd (k C)
theorem MW.ldc {idx : Nat} {v : Int32} (hw : Cond.constant Y.1.cls idx v ∈ wG) (hd : decode Y.2.1 pc = .ok (.ldc idx, 2)) (k : MW l Y d r T' (pc + 2) ls (.int v :: st) T) : MW l Y d r T' pc ls st T := fun C => AW.ldc hw hd (k C)
theorem MW.ldcw {idx : Nat} {v : Int32} (hw : Cond.constant Y.1.cls idx v ∈ wG) (hd : decode Y.2.1 pc = .ok (.ldc_w idx, 3)) (k : MW l Y d r T' (pc + 3) ls (.int v :: st) T) : MW l Y d r T' pc ls st T := fun C => AW.ldcw hw hd (k C)
theorem MW.ldc2 {idx : Nat} {v : Int64} (hw : Cond.constantLong Y.1.cls idx v ∈ wG) (hd : decode Y.2.1 pc = .ok (.ldc2_w idx, 3)) (k : MW l Y d r T' (pc + 3) ls (.long v :: st) T) : MW l Y d r T' pc ls st T := fun C => AW.ldc2 hw hd (k C)
theorem MW.lookup {dflt : Int} {ps : Array (Int × Int)} {len : Nat} {x : Int32} {off : Int} {tgt : Nat} (hd : decode Y.2.1 pc = .ok (.lookupswitch dflt ps, len)) (hp : (ps.toList.zip (ps.toList.drop 1)).all (fun (a, next) => a.1 < next.1) = true) (ho : Op.lookupswitch.offset ps.toList dflt x.toInt = off) (ht : (pc : Int) + off = (tgt : Int)) (k : MW l Y d r T' tgt ls st T) : MW l Y d r T' pc ls (.int x :: st) T := fun C => AW.lookup hd hp ho ht (k C)
theorem MW.tableIn {dflt lo hi : Int} {offs : Array Int} {len : Nat} {x : Int32} {off : Int} {tgt : Nat} (hd : decode Y.2.1 pc = .ok (.tableswitch dflt lo hi offs, len)) (h1 : ¬ x.toInt < lo) (h2 : ¬ hi < x.toInt) (ho : offs[(x.toInt - lo).toNat]? = some off) (ht : (pc : Int) + off = (tgt : Int)) (k : MW l Y d r T' tgt ls st T) : MW l Y d r T' pc ls (.int x :: st) T := fun C => AW.tableIn hd h1 h2 ho ht (k C)
theorem MW.tableOut {dflt lo hi : Int} {offs : Array Int} {len : Nat} {x : Int32} {tgt : Nat} (hd : decode Y.2.1 pc = .ok (.tableswitch dflt lo hi offs, len)) (h0 : x.toInt < lo ∨ hi < x.toInt) (ht : (pc : Int) + dflt = (tgt : Int)) (k : MW l Y d r T' tgt ls st T) : MW l Y d r T' pc ls (.int x :: st) T := fun C => AW.tableOut hd h0 ht (k C)
theorem PW.if_eq {x : Int32} {off : Int} {tgt : Nat} (hd : decode Y.2.1 pc = .ok (.ifCond .eq off, 3)) (ht : (pc : Int) + off = (tgt : Int)) (kt : x = 0 → PW l Y d r tgt ls st) (kf : ¬ x = 0 → PW l Y d r (pc + 3) ls st) : PW l Y d r pc ls (.int x :: st) := fun n h => AW.if_eq hd ht (fun q => kt q n h) (fun q => kf q n h)
theorem PW.if_ne {x : Int32} {off : Int} {tgt : Nat} (hd : decode Y.2.1 pc = .ok (.ifCond .ne off, 3)) (ht : (pc : Int) + off = (tgt : Int)) (kt : ¬ x = 0 → PW l Y d r tgt ls st) (kf : x = 0 → PW l Y d r (pc + 3) ls st) : PW l Y d r pc ls (.int x :: st) := fun n h => AW.if_ne hd ht (fun q => kt q n h) (fun q => kf q n h)
theorem PW.if_lt {x : Int32} {off : Int} {tgt : Nat} (hd : decode Y.2.1 pc = .ok (.ifCond .lt off, 3)) (ht : (pc : Int) + off = (tgt : Int)) (kt : x < 0 → PW l Y d r tgt ls st) (kf : ¬ x < 0 → PW l Y d r (pc + 3) ls st) : PW l Y d r pc ls (.int x :: st) := fun n h => AW.if_lt hd ht (fun q => kt q n h) (fun q => kf q n h)
theorem PW.if_ge {x : Int32} {off : Int} {tgt : Nat} (hd : decode Y.2.1 pc = .ok (.ifCond .ge off, 3)) (ht : (pc : Int) + off = (tgt : Int)) (kt : 0 ≤ x → PW l Y d r tgt ls st) (kf : ¬ 0 ≤ x → PW l Y d r (pc + 3) ls st) : PW l Y d r pc ls (.int x :: st) := fun n h => AW.if_ge hd ht (fun q => kt q n h) (fun q => kf q n h)
theorem PW.if_gt {x : Int32} {off : Int} {tgt : Nat} (hd : decode Y.2.1 pc = .ok (.ifCond .gt off, 3)) (ht : (pc : Int) + off = (tgt : Int)) (kt : 0 < x → PW l Y d r tgt ls st) (kf : ¬ 0 < x → PW l Y d r (pc + 3) ls st) : PW l Y d r pc ls (.int x :: st) := fun n h => AW.if_gt hd ht (fun q => kt q n h) (fun q => kf q n h)
theorem PW.if_le {x : Int32} {off : Int} {tgt : Nat} (hd : decode Y.2.1 pc = .ok (.ifCond .le off, 3)) (ht : (pc : Int) + off = (tgt : Int)) (kt : x ≤ 0 → PW l Y d r tgt ls st) (kf : ¬ x ≤ 0 → PW l Y d r (pc + 3) ls st) : PW l Y d r pc ls (.int x :: st) := fun n h => AW.if_le hd ht (fun q => kt q n h) (fun q => kf q n h)
theorem PW.icmp_eq {x y : Int32} {off : Int} {tgt : Nat} (hd : decode Y.2.1 pc = .ok (.if_icmp .eq off, 3)) (ht : (pc : Int) + off = (tgt : Int)) (kt : x = y → PW l Y d r tgt ls st) (kf : ¬ x = y → PW l Y d r (pc + 3) ls st) : PW l Y d r pc ls (.int y :: .int x :: st) := fun n h => AW.icmp_eq hd ht (fun q => kt q n h) (fun q => kf q n h)
theorem PW.icmp_ne {x y : Int32} {off : Int} {tgt : Nat} (hd : decode Y.2.1 pc = .ok (.if_icmp .ne off, 3)) (ht : (pc : Int) + off = (tgt : Int)) (kt : ¬ x = y → PW l Y d r tgt ls st) (kf : x = y → PW l Y d r (pc + 3) ls st) : PW l Y d r pc ls (.int y :: .int x :: st) := fun n h => AW.icmp_ne hd ht (fun q => kt q n h) (fun q => kf q n h)
theorem PW.icmp_lt {x y : Int32} {off : Int} {tgt : Nat} (hd : decode Y.2.1 pc = .ok (.if_icmp .lt off, 3)) (ht : (pc : Int) + off = (tgt : Int)) (kt : x < y → PW l Y d r tgt ls st) (kf : ¬ x < y → PW l Y d r (pc + 3) ls st) : PW l Y d r pc ls (.int y :: .int x :: st) := fun n h => AW.icmp_lt hd ht (fun q => kt q n h) (fun q => kf q n h)
theorem PW.icmp_ge {x y : Int32} {off : Int} {tgt : Nat} (hd : decode Y.2.1 pc = .ok (.if_icmp .ge off, 3)) (ht : (pc : Int) + off = (tgt : Int)) (kt : y ≤ x → PW l Y d r tgt ls st) (kf : ¬ y ≤ x → PW l Y d r (pc + 3) ls st) : PW l Y d r pc ls (.int y :: .int x :: st) := fun n h => AW.icmp_ge hd ht (fun q => kt q n h) (fun q => kf q n h)
theorem PW.icmp_gt {x y : Int32} {off : Int} {tgt : Nat} (hd : decode Y.2.1 pc = .ok (.if_icmp .gt off, 3)) (ht : (pc : Int) + off = (tgt : Int)) (kt : y < x → PW l Y d r tgt ls st) (kf : ¬ y < x → PW l Y d r (pc + 3) ls st) : PW l Y d r pc ls (.int y :: .int x :: st) := fun n h => AW.icmp_gt hd ht (fun q => kt q n h) (fun q => kf q n h)
theorem PW.icmp_le {x y : Int32} {off : Int} {tgt : Nat} (hd : decode Y.2.1 pc = .ok (.if_icmp .le off, 3)) (ht : (pc : Int) + off = (tgt : Int)) (kt : x ≤ y → PW l Y d r tgt ls st) (kf : ¬ x ≤ y → PW l Y d r (pc + 3) ls st) : PW l Y d r pc ls (.int y :: .int x :: st) := fun n h => AW.icmp_le hd ht (fun q => kt q n h) (fun q => kf q n h)
theorem PW.idiv {x y : Int32} (hne : ¬ y = 0) (hd : decode Y.2.1 pc = .ok (.idiv, 1)) (k : PW l Y d r (pc + 1) ls (.int (x / y) :: st)) : PW l Y d r pc ls (.int y :: .int x :: st) := fun n h => AW.idiv hne hd (k n h)
theorem PW.irem {x y : Int32} (hne : ¬ y = 0) (hd : decode Y.2.1 pc = .ok (.irem, 1)) (k : PW l Y d r (pc + 1) ls (.int (x - x / y * y) :: st)) : PW l Y d r pc ls (.int y :: .int x :: st) := fun n h => AW.irem hne hd (k n h)
theorem PW.ldiv {x y : Int64} (hne : ¬ y = 0) (hd : decode Y.2.1 pc = .ok (.ldiv, 1)) (k : PW l Y d r (pc + 1) ls (.long (x / y) :: st)) : PW l Y d r pc ls (.long y :: .long x :: st) := fun n h => AW.ldiv hne hd (k n h)
theorem PW.lrem {x y : Int64} (hne : ¬ y = 0) (hd : decode Y.2.1 pc = .ok (.lrem, 1)) (k : PW l Y d r (pc + 1) ls (.long (x - x / y * y) :: st)) : PW l Y d r pc ls (.long y :: .long x :: st) := fun n h => AW.lrem hne hd (k n h)
theorem PW.ldc {idx : Nat} {v : Int32} (hw : Cond.constant Y.1.cls idx v ∈ wG) (hd : decode Y.2.1 pc = .ok (.ldc idx, 2)) (k : PW l Y d r (pc + 2) ls (.int v :: st)) : PW l Y d r pc ls st := fun n h => AW.ldc hw hd (k n h)
theorem PW.ldcw {idx : Nat} {v : Int32} (hw : Cond.constant Y.1.cls idx v ∈ wG) (hd : decode Y.2.1 pc = .ok (.ldc_w idx, 3)) (k : PW l Y d r (pc + 3) ls (.int v :: st)) : PW l Y d r pc ls st := fun n h => AW.ldcw hw hd (k n h)
theorem PW.ldc2 {idx : Nat} {v : Int64} (hw : Cond.constantLong Y.1.cls idx v ∈ wG) (hd : decode Y.2.1 pc = .ok (.ldc2_w idx, 3)) (k : PW l Y d r (pc + 3) ls (.long v :: st)) : PW l Y d r pc ls st := fun n h => AW.ldc2 hw hd (k n h)
theorem PW.lookup {dflt : Int} {ps : Array (Int × Int)} {len : Nat} {x : Int32} {off : Int} {tgt : Nat} (hd : decode Y.2.1 pc = .ok (.lookupswitch dflt ps, len)) (hp : (ps.toList.zip (ps.toList.drop 1)).all (fun (a, next) => a.1 < next.1) = true) (ho : Op.lookupswitch.offset ps.toList dflt x.toInt = off) (ht : (pc : Int) + off = (tgt : Int)) (k : PW l Y d r tgt ls st) : PW l Y d r pc ls (.int x :: st) := fun n h => AW.lookup hd hp ho ht (k n h)
theorem PW.tableIn {dflt lo hi : Int} {offs : Array Int} {len : Nat} {x : Int32} {off : Int} {tgt : Nat} (hd : decode Y.2.1 pc = .ok (.tableswitch dflt lo hi offs, len)) (h1 : ¬ x.toInt < lo) (h2 : ¬ hi < x.toInt) (ho : offs[(x.toInt - lo).toNat]? = some off) (ht : (pc : Int) + off = (tgt : Int)) (k : PW l Y d r tgt ls st) : PW l Y d r pc ls (.int x :: st) := fun n h => AW.tableIn hd h1 h2 ho ht (k n h)
theorem PW.tableOut {dflt lo hi : Int} {offs : Array Int} {len : Nat} {x : Int32} {tgt : Nat} (hd : decode Y.2.1 pc = .ok (.tableswitch dflt lo hi offs, len)) (h0 : x.toInt < lo ∨ hi < x.toInt) (ht : (pc : Int) + dflt = (tgt : Int)) (k : PW l Y d r tgt ls st) : PW l Y d r pc ls (.int x :: st) := fun n h => AW.tableOut hd h0 ht (k n h)
theorem MW.iret {v : Int32} (hr : Y.2.2.2 = some .int) (hd : decode Y.2.1 pc = .ok (.ireturn, 1)) : MW l Y d (some (.int v)) T pc ls [.int v] T := fun C => AW.iret hr hd (Nat.le_refl _) (Nat.le_refl _) ⟨rfl, rfl, rfl⟩
theorem PW.iret {v : Int32} (hr : Y.2.2.2 = some .int) (hd : decode Y.2.1 pc = .ok (.ireturn, 1)) : PW l Y d (some (.int v)) pc ls [.int v] := fun n h => AW.iret hr hd (Nat.le_refl _) (Nat.le_refl _) ⟨rfl, rfl, rfl⟩
theorem MW.zret {v : Int32} {ty : FieldType} (hr : Y.2.2.2 = some ty) (hn : narrow ty (.int v) = .int v) (hd : decode Y.2.1 pc = .ok (.ireturn, 1)) : MW l Y d (some (.int v)) T pc ls [.int v] T := fun C => AW.zret hr hn hd (Nat.le_refl _) (Nat.le_refl _) ⟨rfl, rfl, rfl⟩
theorem PW.zret {v : Int32} {ty : FieldType} (hr : Y.2.2.2 = some ty) (hn : narrow ty (.int v) = .int v) (hd : decode Y.2.1 pc = .ok (.ireturn, 1)) : PW l Y d (some (.int v)) pc ls [.int v] := fun n h => AW.zret hr hn hd (Nat.le_refl _) (Nat.le_refl _) ⟨rfl, rfl, rfl⟩
theorem MW.lret {v : Int64} (hr : Y.2.2.2 = some .long) (hd : decode Y.2.1 pc = .ok (.lreturn, 1)) : MW l Y d (some (.long v)) T pc ls [.long v] T := fun C => AW.lret hr hd (Nat.le_refl _) (Nat.le_refl _) ⟨rfl, rfl, rfl⟩
theorem PW.lret {v : Int64} (hr : Y.2.2.2 = some .long) (hd : decode Y.2.1 pc = .ok (.lreturn, 1)) : PW l Y d (some (.long v)) pc ls [.long v] := fun n h => AW.lret hr hd (Nat.le_refl _) (Nat.le_refl _) ⟨rfl, rfl, rfl⟩
theorem MW.vret  (hr : Y.2.2.2 = none) (hd : decode Y.2.1 pc = .ok (.return_, 1)) : MW l Y d (none) T pc ls [] T := fun C => AW.vret hr hd (Nat.le_refl _) (Nat.le_refl _) ⟨rfl, rfl, rfl⟩
theorem PW.vret  (hr : Y.2.2.2 = none) (hd : decode Y.2.1 pc = .ok (.return_, 1)) : PW l Y d (none) pc ls [] := fun n h => AW.vret hr hd (Nat.le_refl _) (Nat.le_refl _) ⟨rfl, rfl, rfl⟩
theorem MW.iald (j len : Nat) {q : Nat} {i : Int32} (hq : q = 137 + j) (hj : 0 < j ∧ j < 19) (he : mArr T j = .inl (.int, len, .inl (T.1 j))) (hd : decode Y.2.1 pc = .ok (.iaload, 1)) (hi : vp_in i len) (k : MW l Y d r T' (pc + 1) ls (.int (T.1 j i.toNatClampNeg) :: st) T) : MW l Y d r T' pc ls (.int i :: .ref q :: st) T := by
  subst hq
  exact fun C => AW.iald hd (by omega) ((hM_a C T j hj.1).trans he) hi (k C)
theorem MW.lald (j len : Nat) {q : Nat} {i : Int32} (hq : q = 137 + j) (hj : 0 < j ∧ j < 19) (he : mArr T j = .inl (.long, len, .inr (.inl (T.2 j)))) (hd : decode Y.2.1 pc = .ok (.laload, 1)) (hi : vp_in i len) (k : MW l Y d r T' (pc + 1) ls (.long (T.2 j i.toNatClampNeg) :: st) T) : MW l Y d r T' pc ls (.int i :: .ref q :: st) T := by
  subst hq
  exact fun C => AW.lald hd (by omega) ((hM_a C T j hj.1).trans he) hi (k C)
theorem MW.bald (j len : Nat) {q : Nat} {i : Int32} (hq : q = 137 + j) (hj : 0 < j ∧ j < 19) (he : mArr T j = .inl (.byte, len, .inl (T.1 j))) (hd : decode Y.2.1 pc = .ok (.baload, 1)) (hi : vp_in i len) (k : MW l Y d r T' (pc + 1) ls (.int (T.1 j i.toNatClampNeg) :: st) T) : MW l Y d r T' pc ls (.int i :: .ref q :: st) T := by
  subst hq
  exact fun C => AW.bald hd (by omega) ((hM_a C T j hj.1).trans he) hi (k C)
theorem MW.zald (j len : Nat) {q : Nat} {i : Int32} (hq : q = 137 + j) (hj : 0 < j ∧ j < 19) (he : mArr T j = .inl (.boolean, len, .inl (T.1 j))) (hd : decode Y.2.1 pc = .ok (.baload, 1)) (hi : vp_in i len) (k : MW l Y d r T' (pc + 1) ls (.int (T.1 j i.toNatClampNeg) :: st) T) : MW l Y d r T' pc ls (.int i :: .ref q :: st) T := by
  subst hq
  exact fun C => AW.zald hd (by omega) ((hM_a C T j hj.1).trans he) hi (k C)
theorem MW.iast (j len : Nat) {q : Nat} {i : Int32} {x : Int32} (hq : q = 137 + j) (hj : 0 < j ∧ j < 19) (he : ∀ T : mT, mArr T j = .inl (.int, len, .inl (T.1 j))) (hd : decode Y.2.1 pc = .ok (.iastore, 1)) (hi : vp_in i len) (k : MW l Y d r T' (pc + 1) ls st (ma T j i.toNatClampNeg x)) : MW l Y d r T' pc ls (.int x :: .int i :: .ref q :: st) T := by
  subst hq
  intro C
  refine AW.iast hd (by omega) ((hM_a C T j hj.1).trans (he T)) hi ?_
  rw [hM_arr (T' := ma T j i.toNatClampNeg x) hj.1 (ma_obj T j _ _ hj.1) (by rw [he]; simp only [ma, va_up_self]) (fun k hk _ => ma_arr T j _ _ k hk)]
  exact k C
theorem MW.last (j len : Nat) {q : Nat} {i : Int32} {x : Int64} (hq : q = 137 + j) (hj : 0 < j ∧ j < 19) (he : ∀ T : mT, mArr T j = .inl (.long, len, .inr (.inl (T.2 j)))) (hd : decode Y.2.1 pc = .ok (.lastore, 1)) (hi : vp_in i len) (k : MW l Y d r T' (pc + 1) ls st (mb T j i.toNatClampNeg x)) : MW l Y d r T' pc ls (.long x :: .int i :: .ref q :: st) T := by
  subst hq
  intro C
  refine AW.last hd (by omega) ((hM_a C T j hj.1).trans (he T)) hi ?_
  rw [hM_arr (T' := mb T j i.toNatClampNeg x) hj.1 (mb_obj T j _ _ hj.1) (by rw [he]; simp only [mb, va_up_self]) (fun k hk _ => mb_arr T j _ _ k hk)]
  exact k C
theorem MW.bast (j len : Nat) {q : Nat} {i : Int32} {x : Int32} (hq : q = 137 + j) (hj : 0 < j ∧ j < 19) (he : ∀ T : mT, mArr T j = .inl (.byte, len, .inl (T.1 j))) (hd : decode Y.2.1 pc = .ok (.bastore, 1)) (hi : vp_in i len) (k : MW l Y d r T' (pc + 1) ls st (ma T j i.toNatClampNeg (vp_nar .byte x))) : MW l Y d r T' pc ls (.int x :: .int i :: .ref q :: st) T := by
  subst hq
  intro C
  refine AW.bast hd (by omega) ((hM_a C T j hj.1).trans (he T)) hi ?_
  rw [hM_arr (T' := ma T j i.toNatClampNeg (vp_nar .byte x)) hj.1 (ma_obj T j _ _ hj.1) (by rw [he]; simp only [ma, va_up_self]) (fun k hk _ => ma_arr T j _ _ k hk)]
  exact k C
theorem MW.zast (j len : Nat) {q : Nat} {i : Int32} {x : Int32} (hq : q = 137 + j) (hj : 0 < j ∧ j < 19) (he : ∀ T : mT, mArr T j = .inl (.boolean, len, .inl (T.1 j))) (hd : decode Y.2.1 pc = .ok (.bastore, 1)) (hi : vp_in i len) (k : MW l Y d r T' (pc + 1) ls st (ma T j i.toNatClampNeg (vp_nar .boolean x))) : MW l Y d r T' pc ls (.int x :: .int i :: .ref q :: st) T := by
  subst hq
  intro C
  refine AW.zast hd (by omega) ((hM_a C T j hj.1).trans (he T)) hi ?_
  rw [hM_arr (T' := ma T j i.toNatClampNeg (vp_nar .boolean x)) hj.1 (ma_obj T j _ _ hj.1) (by rw [he]; simp only [ma, va_up_self]) (fun k hk _ => ma_arr T j _ _ k hk)]
  exact k C
theorem MW.putJ {v : Int64} (hY : Y.1.cls = RX12) (hd : decode Y.2.1 pc = .ok (.putfield 422, 3)) (k : MW l Y d r T' (pc + 3) ls st (mw T 29 v)) : MW l Y d r T' pc ls (.long v :: .ref 137 :: st) T := by
  intro C
  refine AW.putf (j := 29) (ty := tyX12 29) (by rw [hY]; exact fp_RX12_422) hd (by decide) (hM_o C _) (by show 29 < 34; decide) (fun _ => rfl) (fun _ => rfl) ?_
  rw [hM_put (T' := mw T 29 v) (by rfl) (fun j hj => mw_arr T 29 v j hj)]
  exact k C
theorem MW.callV {idx np d' : Nat} {Y' : aY} {As st0 : List Value} {r' : Option Value} {T1 : mT} (hL : LV Y.1.cls idx Y' np) (hc : Y'.1.cls = RX12) (hd : decode Y.2.1 pc = .ok (.invokevirtual idx, 3)) (hM : MOk l Y' d' As T r' T1) (hdd : d' < d) (hml : Y'.2.2.1 ≤ 41) (hnp : As.length = np) (hsum : (st.map fun v => v.category).sum ≤ 8) (hst : st0 = As.reverse ++ .ref 137 :: st) (k : MW l Y d r T' (pc + 3) ls (r'.toList ++ st) T1) : MW l Y d r T' pc ls st0 T := by
  intro C
  refine AW.callV (ci := 10) (r0 := (RX12, TX12, 34)) hL hd (hM C) hdd hml hnp (by decide) (hM_o C T) rfl hc.symm hsum hst (fun r n' h' q => q.2.1) ⟨rfl, rfl⟩ (fun r h' q => ?_)
  obtain ⟨q1, -, q3⟩ := q
  subst q1
  subst q3
  exact k C
theorem MW.callP {idx np d' : Nat} {Y' : aY} {As st0 : List Value} {r' : Option Value} (hL : LT Y.1.cls idx Y' np) (hd : decode Y.2.1 pc = .ok (.invokestatic idx, 3)) (hM : POk l Y' d' As r') (hdd : d' < d) (hml : Y'.2.2.1 ≤ 41) (hnp : As.length = np) (hsum : (st.map fun v => v.category).sum ≤ 8) (hst : st0 = As.reverse ++ st) (k : MW l Y d r T' (pc + 3) ls (r'.toList ++ st) T) : MW l Y d r T' pc ls st0 T := by
  intro C
  refine AW.callS hL hd (hM _ _) hdd hml hnp hsum hst (fun r n' h' q => q.2.1) ⟨rfl, rfl⟩ (fun r h' q => ?_)
  obtain ⟨q1, -, q3⟩ := q
  subst q1
  subst q3
  exact k C
theorem PW.callP {idx np d' : Nat} {Y' : aY} {As st0 : List Value} {r' : Option Value} (hL : LT Y.1.cls idx Y' np) (hd : decode Y.2.1 pc = .ok (.invokestatic idx, 3)) (hM : POk l Y' d' As r') (hdd : d' < d) (hml : Y'.2.2.1 ≤ 41) (hnp : As.length = np) (hsum : (st.map fun v => v.category).sum ≤ 8) (hst : st0 = As.reverse ++ st) (k : PW l Y d r (pc + 3) ls (r'.toList ++ st)) : PW l Y d r pc ls st0 := by
  intro n h
  refine AW.callS hL hd (hM _ _) hdd hml hnp hsum hst (fun r n' h' q => q.2.1) ⟨rfl, rfl⟩ (fun r h' q => ?_)
  obtain ⟨q1, -, q3⟩ := q
  subst q1
  subst q3
  exact k n _
theorem PW.run {blk : List (Instr × Int32)} {pc' : Nat} {ls' : List (Option Value)} {st' : List Value} (hd : dec Y.2.1 pc blk = some pc') (hp : pxs blk ls st = some (ls', st')) (k : PW l Y d r pc' ls' st') : PW l Y d r pc ls st := fun n h => AW.run blk hd hp (k n h)
theorem MOk.of {As : List Value} (hy : plainName Y.1.cls = true) (hl : (enL (.ref 137 :: As)).length ≤ Y.2.2.1) (hls : padL (.ref 137 :: As) Y.2.2.1 = ls) (k : MW l Y d r T' 0 ls [] T) : MOk l Y d As T r T' := fun C => AOk.of hy hl hls (k C)
theorem POk.of {As : List Value} (hy : plainName Y.1.cls = true) (hl : (enL As).length ≤ Y.2.2.1) (hls : padL As Y.2.2.1 = ls) (k : PW l Y d r 0 ls []) : POk l Y d As r := fun n h => AOk.of hy hl hls (k n h)
/-- less is said of the locals -/
def sbL : List (Option Value) → List (Option Value) → Prop
  | [], [] => True
  | none :: a, _ :: b => sbL a b
  | some v :: a, some w :: b => v = w ∧ sbL a b
  | _, _ => False
theorem sbL_asc {as : Nat → Nat} {q : Nat × Value} : ∀ {ls' ls : List (Option Value)} {j : Nat}, sbL ls' ls → q ∈ asc as j ls' → q ∈ asc as j ls
  | [], [], j, _, h => h
  | none :: a, w :: b, j, hs, h => by
    have h1 := sbL_asc (j := j + 1) (show sbL a b from hs) (by simpa [asc] using h)
    cases w with
    | none => simpa [asc] using h1
    | some u => exact List.mem_cons_of_mem _ h1
  | some v :: a, some w :: b, j, hs, h => by
    obtain ⟨e, hs⟩ : v = w ∧ sbL a b := hs
    subst e
    simp only [asc, List.mem_cons] at h ⊢
    rcases h with h | h
    · exact Or.inl h
    · exact Or.inr (sbL_asc hs h)
theorem sbL_len : ∀ {ls' ls : List (Option Value)}, sbL ls' ls → ls'.length = ls.length
  | [], [], _ => rfl
  | none :: a, w :: b, hs => by simp [sbL_len (show sbL a b from hs)]
  | some v :: a, some w :: b, hs => by simp [sbL_len (show sbL a b from hs.2)]
theorem AW.fgt {R : Room} {Q : aQ} {cu su n : Nat} {h : aH} {ls' : List (Option Value)} (hs : sbL ls' ls) (k : AW l Y R Q cu su pc ls' st n h) : AW l Y R Q cu su pc ls st n h := by
  intro p e s m args below meth c D cA as0 n0 A as H locs E S X lsA hl
  exact k p e s m args below meth c D cA as0 n0 A as H locs E S X lsA ⟨(sbL_len hs).trans hl.1, hl.2.1, hl.2.2.1, fun q hq => hl.2.2.2 q (sbL_asc hs hq)⟩
theorem MW.fgt {ls' : List (Option Value)} (hs : sbL ls' ls) (k : MW l Y d r T' pc ls' st T) : MW l Y d r T' pc ls st T := fun C => AW.fgt hs (k C)
theorem PW.fgt {ls' : List (Option Value)} (hs : sbL ls' ls) (k : PW l Y d r pc ls' st) : PW l Y d r pc ls st := fun n h => AW.fgt hs (k n h)
theorem bd_some {α β : Type} {o : Option α} {f : α → Option β} {b : β} (h : o.bind f = some b) : ∃ a, o = some a ∧ f a = some b := by
  cases o with
  | none => cases h
  | some a => exact ⟨a, rfl, h⟩
/-- an index that is in its row -/
def inb (i : Int32) (n : Nat) : Bool := bif decide (i < 0) then false else Nat.blt i.toNatClampNeg n
theorem inb_in {i : Int32} {n : Nat} (h : inb i n = true) : vp_in i n := by
  unfold inb at h
  cases hc : decide (i < 0) with
  | true => rw [hc] at h; cases h
  | false =>
    rw [hc] at h
    have h1 : ¬ i < 0 := of_decide_eq_false hc
    have h2 : i.toNatClampNeg < n := Nat.le_of_ble_eq_true h
    rintro (q | q)
    · exact h1 q
    · omega
end MWR
end
section
/-! ===== what the walks by program use ===== -/
/-- fuel of a loop -/
def FU : Nat := 1000000
def letv {α β : Type} (x : α) (f : α → Option β) : Option β := f x
theorem letv_some {α β : Type} {x : α} {f : α → Option β} {b : β} (h : letv x f = some b) : ∃ a, a = x ∧ f a = some b := ⟨x, rfl, h⟩
theorem bi_some {α : Type} {b : Bool} {x : Option α} {c : α} (h : (bif b then x else none) = some c) : b = true ∧ x = some c := by
  cases b
  · cases h
  · exact ⟨rfl, h⟩
theorem nz_some {α : Type} {P : Prop} {D : Decidable P} {x : Option α} {c : α} (h : (@ite (Option α) P D none x) = some c) : ¬ P ∧ x = some c := by
  by_cases hp : P
  · rw [if_pos hp] at h; cases h
  · rw [if_neg hp] at h; exact ⟨hp, h⟩
def b2i (b : Bool) : Int32 := bif b then 1 else 0
theorem b2i_nar (b : Bool) : narrow .boolean (.int (b2i b)) = .int (b2i b) := by cases b <;> rfl
theorem ne_toInt {x y : Int32} (h : ¬ x = y) {k : Int} (hk : y.toInt = k) : x.toInt ≠ k := fun e => h (Int32.toInt_inj.mp (e.trans hk.symm))
end
section
/-! ===== making: new objects and rows, constructors ===== -/
def wfK (n k : Nat) : Prop := k < n ∨ kW ≤ k
def wfV (n : Nat) (v : Value) : Prop := ∀ k, v = .ref k → wfK n k
def wfE (n : Nat) (e : aE) : Prop := (∀ ty len f, e = .inl (ty, len, .inr (.inr (.inr (.inr f)))) → ∀ j k, f j = some k → wfK n k) ∧ ∀ ci fs, e = .inr (ci, fs) → ∀ v ∈ fs, wfV n v
def wfH (n : Nat) (h : aH) : Prop := ∀ k, k < n → wfE n (h k)
def wfL (n : Nat) (ls : List (Option Value)) : Prop := ∀ v, some v ∈ ls → wfV n v
def wfS (n : Nat) (st : List Value) : Prop := ∀ v ∈ st, wfV n v
section WF
variable {as as' : Nat → Nat} {n : Nat}
theorem tv_wf (ha : ∀ k, wfK n k → as' k = as k) {v : Value} (hv : wfV n v) : tv as' v = tv as v := by
  cases v with
  | ref k => simp only [tv_ref, ha k (hv k rfl)]
  | _ => rfl
theorem st_wf (ha : ∀ k, wfK n k → as' k = as k) {st : List Value} (hs : wfS n st) : st.map (tv as') = st.map (tv as) := List.map_congr_left (fun v hv => tv_wf ha (hs v hv))
theorem tE_wf (ha : ∀ k, wfK n k → as' k = as k) {cA : FieldType → ClassId} {e : aE} (he : wfE n e) : tE cA as' e = tE cA as e := by
  rcases e with ⟨ty, len, c⟩ | ⟨ci, fs⟩
  · show (.inl (cA ty, len, tC as' c) : va_E) = .inl (cA ty, len, tC as c)
    rcases c with f | f | f | f | f
    · rfl
    · rfl
    · rfl
    · rfl
    · have : (fun j => (f j).map as') = fun j => (f j).map as := by
        funext j
        cases hj : f j with
        | none => rfl
        | some k => simp [ha k (he.1 ty len f rfl j k hj)]
      show (.inl (cA ty, len, .inr (.inr (.inr (.inr (fun j => (f j).map as'))))) : va_E) = .inl (cA ty, len, .inr (.inr (.inr (.inr (fun j => (f j).map as)))))
      rw [this]
  · show (.inr (ci, fs.map (tv as')) : va_E) = .inr (ci, fs.map (tv as))
    rw [List.map_congr_left (fun v hv => tv_wf ha (he.2 ci fs rfl v hv))]
theorem asc_wf (ha : ∀ k, wfK n k → as' k = as k) : ∀ {ls : List (Option Value)} {j : Nat}, wfL n ls → asc as' j ls = asc as j ls
  | [], _, _ => rfl
  | none :: w, j, h => asc_wf ha (ls := w) (j := j + 1) (fun v hv => h v (List.mem_cons_of_mem _ hv))
  | some v :: w, j, h => by
    simp only [asc]
    rw [tv_wf ha (h v List.mem_cons_self), asc_wf ha (ls := w) (j := j + 1) (fun u hu => h u (List.mem_cons_of_mem _ hu))]
theorem ws_wf (ha : ∀ k, wfK n k → as' k = as k) {cA : FieldType → ClassId} {h : aH} (hw : wfH n h) : wsOf cA as' n h = wsOf cA as n h := by
  unfold wsOf
  apply List.map_congr_left
  intro k hk
  have hk' := List.mem_range.mp hk
  rw [ha k (Or.inl hk'), tE_wf ha (hw k hk')]
theorem up_as {q : Nat} (hn : n < kW) : ∀ k, wfK n k → va_up as n q k = as k := by
  intro k hk
  refine va_up_ne _ _ ?_
  rcases hk with hk | hk <;> omega
theorem ws_grow {q : Nat} (hn : n < kW) {cA : FieldType → ClassId} {h : aH} (hw : wfH n h) {e : aE} {x : va_E} (he : tE cA (va_up as n q) e = x) : wsOf cA (va_up as n q) (n + 1) (va_up h n e) = wsOf cA as n h ++ [(q, x)] := by
  have h1 : wsOf cA (va_up as n q) (n + 1) (va_up h n e) = wsOf cA (va_up as n q) n (va_up h n e) ++ [(q, x)] := by
    unfold wsOf
    rw [List.range_succ, List.map_append]
    simp only [List.map_cons, List.map_nil, va_up_self, he]
  rw [h1]
  congr 1
  have h2 : wsOf cA (va_up as n q) n (va_up h n e) = wsOf cA (va_up as n q) n h := by
    unfold wsOf
    apply List.map_congr_left
    intro k hk
    have hk' := List.mem_range.mp hk
    rw [va_up_ne h e (show k ≠ n by omega)]
  rw [h2]
  exact ws_wf (up_as hn) hw
theorem loc_wf (ha : ∀ k, wfK n k → as' k = as k) {ls : List (Option Value)} {nL : Nat} {lsA : Array Slot} (hw : wfL n ls) (hl : aw_loc as ls nL lsA) : aw_loc as' ls nL lsA := by
  refine ⟨hl.1, ?_⟩
  rw [asc_wf ha hw]
  exact hl.2
end WF
section AWN
variable {l : Launch} {Y : aY} {R : Room} {Q : aQ} {cu su pc : Nat} {ls : List (Option Value)} {st : List Value} {n : Nat} {h : aH}
theorem ext_grow {as0 as : Nat → Nat} {n0 q : Nat} (hn : n < kW) (X : aw_ext as0 n0 as n) : aw_ext as0 n0 (va_up as n q) (n + 1) := by
  refine ⟨Nat.le_succ_of_le X.1, hn, fun k hk => ?_⟩
  have hne : k ≠ n := by
    have := X.1
    omega
  rw [va_up_ne _ _ hne]
  exact X.2.2 k (by omega)
/-- an object is made: its fields are as they are at first -/
theorem AW.new {idx ci N : Nat} {C : String} {T : u_T} {ty : Nat → FieldType} {fs : List Value} (hcl : Cond.classLink Y.1.cls idx C ∈ wG) (hin : Cond.instantiable C N ∈ wG) (hini : Cond.initialized C ∈ wG) (hw : ∀ w ∈ u_ws C T N, w ∈ wG) (hty : ∀ k, k < N → parseFieldDescriptor (T k).2.2.1 = some (ty k)) (hc : classes[ci]? = some (C, T, N)) (hfs : ∀ j, j < N → defaultValue (ty j) = vp_V fs j) (hnr : ∀ as, fs.map (tv as) = fs) (hd : decode Y.2.1 pc = .ok (.new idx, 3)) (hn : n < kW) (wh : wfH n h) (wl : wfL n ls) (ws : wfS n st) (hcu : cu + 1 ≤ R.cells) (hsu : su + N ≤ R.slots) (k : AW l Y R Q (cu + 1) (su + N) (pc + 3) ls (.ref n :: st) (n + 1) (va_up h n (.inr (ci, fs)))) : AW l Y R Q cu su pc ls st n h := by
  intro p e s m args below meth c D cA as0 n0 A as H locs E S X lsA hl
  have hg := E.2.2.2.2.2.1
  refine va_new E.1 E.2.1 hg hw ty hty E.2.2.2.2.1 (hg _ hcl) (hg _ hin) (hg _ hini) S.1 S.2.1 S.2.2.1 S.2.2.2.1 S.2.2.2.2.1 hc hfs hcu hsu hd (fun q H1 hP hD hS => ?_)
  have hx : tE cA (va_up as n q) (.inr (ci, fs)) = .inr (ci, fs) := by
    show (.inr (ci, fs.map (tv (va_up as n q))) : va_E) = _
    rw [hnr]
  rw [← ws_grow hn wh hx] at hP hD
  have hk := k p e s m args below meth c D cA as0 n0 A (va_up as n q) H1 locs E ⟨S.1, hP, hD, hS, S.2.2.2.2.1, S.2.2.2.2.2.as (fun k hk => up_as hn k (Or.inr hk))⟩ (ext_grow hn X) lsA (loc_wf (up_as hn) wl hl)
  have hst : (Value.ref n :: st).map (tv (va_up as n q)) = .ref q :: st.map (tv as) := by
    rw [List.map_cons, st_wf (up_as hn) ws, tv_ref, va_up_self]
  rw [hst] at hk
  exact hk
/-- what an array's type is called: one class -/
theorem ra_int {cA : FieldType → ClassId} {D : va_G} {s : State} {c1 : ClassId} {ty : FieldType} (t0 : Nat) (ht : (tyl cA)[t0]? = some (cA ty, ty)) (hp : ∀ C, ty ≠ .object C) (hK : va_K D classes (tyl cA ++ [(c1, ty)]) s) : c1 = cA ty := by
  have hl : t0 < 6 := by
    have := (List.getElem?_eq_some_iff.mp ht).1
    simpa [tyl] using this
  have h1 := (hK.2 t0 _ (by rw [List.getElem?_append_left (by simpa [tyl] using hl)]; exact ht)).2
  have h2 := (hK.2 6 (c1, ty) (by simp [tyl])).2
  unfold va_RA at h1 h2
  cases ty with
  | object C => exact absurd rfl (hp C)
  | _ => exact Option.some.inj (h2.symm.trans h1)
theorem ra_obj {cA : FieldType → ClassId} {D : va_G} {s : State} {c1 : ClassId} {C : String} (t0 : Nat) (ht : (tyl cA)[t0]? = some (cA (.object C), .object C)) (hK : va_K D classes (tyl cA ++ [(c1, .object C)]) s) : c1 = cA (.object C) := by
  have hl : t0 < 6 := by
    have := (List.getElem?_eq_some_iff.mp ht).1
    simpa [tyl] using this
  obtain ⟨_, _, _, _, _, h1⟩ := (hK.2 t0 _ (by rw [List.getElem?_append_left (by simpa [tyl] using hl)]; exact ht)).2
  obtain ⟨_, _, _, _, _, h2⟩ := (hK.2 6 (c1, .object C) (by simp [tyl])).2
  exact Option.some.inj (h2.symm.trans h1)
/-- a row of numbers is made: all 0 -/
theorem AW.newa {atype : ArrayType} {ty : FieldType} {i : Int32} {N' : Nat} {c0 : aC} (t0 : Nat) (ht : ∀ cA, (tyl cA)[t0]? = some (cA ty, ty)) (hp : ∀ C, ty ≠ .object C) (harr : Cond.arrayClass (newarray.typeOf atype) ∈ wG) (hty : newarray.typeOf atype = ty) (hc0 : ∀ cA : ClassId, vp_cell cA (N', c0) = arrV cA N' (fun _ => defaultValue ty)) (hnr : ∀ as, tC as c0 = c0) (hi : ¬ i < 0) (hN : i.toNatClampNeg = N') (hb : N' * componentBytes ty ≤ 536870912) (hd : decode Y.2.1 pc = .ok (.newarray atype, 2)) (hn : n < kW) (wh : wfH n h) (wl : wfL n ls) (ws : wfS n st) (hcu : cu + 1 ≤ R.cells) (hsu : su + N' ≤ R.slots) (k : AW l Y R Q (cu + 1) (su + N') (pc + 2) ls (.ref n :: st) (n + 1) (va_up h n (.inl (ty, N', c0)))) : AW l Y R Q cu su pc ls (.int i :: st) n h := by
  intro p e s m args below meth c D cA as0 n0 A as H locs E S X lsA hl
  have hg := E.2.2.2.2.2.1
  refine va_newa (atype := atype) E.1 E.2.1 (hg _ harr) hty S.1 S.2.1 S.2.2.1 S.2.2.2.1 S.2.2.2.2.1 hc0 hi hN hb hcu hsu hd (fun q c1 H1 hK hP hD hS => ?_)
  have hc1 := ra_int t0 (ht cA) hp hK
  subst hc1
  have hx : tE cA (va_up as n q) (.inl (ty, N', c0)) = .inl (cA ty, N', c0) := by
    show (.inl (cA ty, N', tC (va_up as n q) c0) : va_E) = _
    rw [hnr]
  rw [← ws_grow hn wh hx] at hP hD
  have hk := k p e s m args below meth c D cA as0 n0 A (va_up as n q) H1 locs E ⟨S.1, hP, hD, hS, S.2.2.2.2.1, S.2.2.2.2.2.as (fun k hk => up_as hn k (Or.inr hk))⟩ (ext_grow hn X) lsA (loc_wf (up_as hn) wl hl)
  have hst : (Value.ref n :: st).map (tv (va_up as n q)) = .ref q :: st.map (tv as) := by
    rw [List.map_cons, st_wf (up_as hn) ws, tv_ref, va_up_self]
  rw [hst] at hk
  exact hk
/-- a row of objects is made: all null -/
theorem AW.newq {idx t0 : Nat} {C : String} {i : Int32} {N' : Nat} (ht : ∀ cA, (tyl cA)[t0]? = some (cA (.object C), .object C)) (hcl : Cond.classLink Y.1.cls idx C ∈ wG) (hov : Cond.arrayOver (.object C) ∈ wN) (hi : ¬ i < 0) (hN : i.toNatClampNeg = N') (hb : N' * 4 ≤ 536870912) (hd : decode Y.2.1 pc = .ok (.anewarray idx, 3)) (hn : n < kW) (wh : wfH n h) (wl : wfL n ls) (ws : wfS n st) (hcu : cu + 1 ≤ R.cells) (hsu : su + N' ≤ R.slots) (k : AW l Y R Q (cu + 1) (su + N') (pc + 3) ls (.ref n :: st) (n + 1) (va_up h n (.inl (.object C, N', .inr (.inr (.inr (.inr (fun _ => none)))))))) : AW l Y R Q cu su pc ls (.int i :: st) n h := by
  intro p e s m args below meth c D cA as0 n0 A as H locs E S X lsA hl
  have hg := E.2.2.2.2.2.1
  refine va_newq E.1 E.2.1 E.2.2.2.2.1 (hg _ hcl) (E.2.2.2.2.2.2.2.1 _ hov) S.1 S.2.1 S.2.2.1 S.2.2.2.1 S.2.2.2.2.1 hi hN hb hcu hsu hd (fun q c1 H1 hK hP hD hS => ?_)
  have hc1 := ra_obj t0 (ht cA) hK
  subst hc1
  have hx : tE cA (va_up as n q) (.inl (.object C, N', .inr (.inr (.inr (.inr (fun _ => none)))))) = .inl (cA (.object C), N', .inr (.inr (.inr (.inr (fun _ => none))))) := rfl
  rw [← ws_grow hn wh hx] at hP hD
  have hk := k p e s m args below meth c D cA as0 n0 A (va_up as n q) H1 locs E ⟨S.1, hP, hD, hS, S.2.2.2.2.1, S.2.2.2.2.2.as (fun k hk => up_as hn k (Or.inr hk))⟩ (ext_grow hn X) lsA (loc_wf (up_as hn) wl hl)
  have hst : (Value.ref n :: st).map (tv (va_up as n q)) = .ref q :: st.map (tv as) := by
    rw [List.map_cons, st_wf (up_as hn) ws, tv_ref, va_up_self]
  rw [hst] at hk
  exact hk
/-- Object's own constructor -/
theorem AW.objInit {idx b : Nat} (hl : Cond.methodLink Y.1.cls idx objectInit ∈ wG) (hd : decode Y.2.1 pc = .ok (.invokespecial idx, 3)) (hf : 1 ≤ R.frames) (hlo : (st.map fun v => v.category).sum + 12 ≤ R.locals) (k : AW l Y R Q cu su (pc + 3) ls st n h) : AW l Y R Q cu su pc ls (.ref b :: st) n h := by
  intro p e s m args below meth c D cA as0 n0 A as H locs E S X lsA hls
  have hg := E.2.2.2.2.2.1
  exact W.objInit E.1 E.2.1 E.2.2.2.2.1 (hg _ hl) (hg _ (tb_in 27 (by decide +kernel) (by decide +kernel))) (hg _ (tb_in 28 (by decide +kernel) (by decide +kernel))) (g := F0 m pc lsA ((Value.ref b :: st).map (tv as))) (a := as b) (rest := st.map (tv as)) rfl (hls.2.1.trans E.2.2.2.1.symm) rfl hd hf (by show 2 * 0 + _ + 12 ≤ _; rw [cat_map]; omega) (k p e s m args below meth c D cA as0 n0 A as H locs E S X lsA hls)
/-- only the cells that there are matter -/
theorem AW.hext {h' : aH} (hh : ∀ q, q < n → h q = h' q) (k : AW l Y R Q cu su pc ls st n h') : AW l Y R Q cu su pc ls st n h := by
  intro p e s m args below meth c D cA as0 n0 A as H locs E S X lsA hls
  have hw : wsOf cA as n h = wsOf cA as n h' := by
    unfold wsOf
    apply List.map_congr_left
    intro k hk
    rw [hh k (List.mem_range.mp hk)]
  obtain ⟨s1, s2, s3, s4⟩ := S
  rw [hw] at s2 s3
  exact k p e s m args below meth c D cA as0 n0 A as H locs E ⟨s1, s2, s3, s4⟩ X lsA hls
end AWN
end
section
/-! ===== calls of constructors ===== -/
section AWI
variable {l : Launch} {Y : aY} {R : Room} {Q : aQ} {cu su pc : Nat} {ls : List (Option Value)} {st : List Value} {n : Nat} {h : aH}
theorem AW.callI {idx np b : Nat} {Y' : aY} {rm' : Room} {As st0 : List Value} {Q' : aQ} (hL : LI Y.1.cls idx Y' np) (hd : decode Y.2.1 pc = .ok (.invokespecial idx, 3)) (hM : AOk l Y' rm' Q' (.ref b :: As) n h) (hfr : rm'.frames + 1 ≤ R.frames) (hlo : 8 + (Y'.2.2.1 + 11) + rm'.locals ≤ R.locals) (hnp : As.length = np) (hsum : (st.map fun v => v.category).sum ≤ 8) (hst : st0 = As.reverse ++ .ref b :: st)
    (hcu : cu + rm'.cells ≤ R.cells) (hsu : su + rm'.slots ≤ R.slots) (wl : wfL n ls) (ws : wfS n st) (hr0 : ∀ r n' h', Q' r n' h' → r = none) (k : ∀ n' h', n ≤ n' → n' ≤ kW → Q' none n' h' → AW l Y R Q (cu + rm'.cells) (su + rm'.slots) (pc + 3) ls st n' h') : AW l Y R Q cu su pc ls st0 n h := by
  intro p e s m args below meth c D cA as0 n0 A as H locs E S X lsA hl
  obtain ⟨hMK, hpar, hin, hnm, hret, hlk⟩ := hL
  have hG := wG_good hMK
  have hw := E.2.2.2.2.2.1
  have hstack : (F0 m pc lsA (st0.map (tv as))).stack = (As.map (tv as)).reverse ++ .ref (as b) :: st.map (tv as) := by
    show st0.map (tv as) = _
    rw [hst]
    simp [tv_ref]
  have hps : PreS s H (aw_Pc D cA as n h H.size (.ref b :: As)) (.ref (as b) :: As.map (tv as)) := ⟨aw_blind, aw_pre (Y' := Y') (av := .ref b :: As) E S X.2.1⟩
  have hroom : 2 * (F0 m pc lsA (st0.map (tv as))).monitorRoom + ((st.map (tv as)).map fun v => v.category).sum ≤ 8 := lv_room (by rw [cat_map]; exact hsum)
  have hM' := hM D cA as H.size
  have hws : Cond.code Y'.1 Y'.2.1 Y'.2.2.1 Y'.2.2.2 :: wG = Cond.code Y'.1 Y'.2.1 Y'.2.2.1 none :: wG := by rw [hret]
  have hrun : va_Run p l e R s m args below meth c H locs cu su rm'.cells rm'.slots (F0 m pc lsA (st0.map (tv as))) (st.map (tv as)) (aw_Q D cA as n (va_A (wsOf cA as n h) H.size) Q' (Value.ref (as b) :: As.map (tv as)).toArray) (va_A (wsOf cA as n h) H.size) := by
    rw [hws] at hM' hG
    rcases hlk with hlk | ⟨host, hlk⟩
    · exact va_runI (Ts := wG) ⟨E.1, E.2.1, E.2.2.2.1, E.2.2.2.2.1, hw⟩ hM' ⟨callB_of np hw hG rfl rfl rfl (hw _ hMK.2.1) (hw _ hlk) ⟨hMK.2.2.1, hMK.2.2.2, hpar⟩ ⟨hfr, hlo⟩, hnm, hw _ hin⟩ hps rfl (by rw [List.length_map]; exact hnp) hl.2.1 hstack hroom hd ⟨hcu, hsu⟩
    · exact va_runIN (Ts := wG) ⟨E.1, E.2.1, E.2.2.2.1, E.2.2.2.2.1, hw⟩ hM' ⟨va_cnB np hw hG rfl rfl rfl (E.2.2.2.2.2.2.2.1 _ hlk) (hw _ hMK.2.1) ⟨hMK.2.2.1, hMK.2.2.2, hpar⟩ ⟨hfr, hlo⟩, hnm, hw _ hin⟩ hps rfl (by rw [List.length_map]; exact hnp) hl.2.1 hstack hroom hd ⟨hcu, hsu⟩
  intro T hT XT
  obtain ⟨v, st₀, t, T', L, h0, X', hLq, e1, e2, ⟨⟨r, n', h', as', hv, hq, hx, hP, hK, hD⟩, hz, hkk⟩, stp⟩ := hrun T hT XT
  have hrn := hr0 _ _ _ hq
  subst hrn
  have hv : v = none := by cases hv; rfl
  subst hv
  rw [h0] at hz hkk
  have hAA := aw_AA S
  have hS := S.2.2.2.1
  have ha : ∀ k, wfK n k → as' k = as k := fun k hk => hx.2.2 k (hk.elim Or.inl (fun z => Or.inr (Nat.le_trans hx.2.1 z)))
  have hext : aw_ext as0 n0 as' n' := ⟨Nat.le_trans X.1 hx.1, hx.2.1, fun k hk => by
    have h1 := X.1
    have h2 := hx.1
    rw [hx.2.2 k (by omega)]
    exact X.2.2 k (by omega)⟩
  have k2 := k n' h' hx.1 hx.2.1 hq p e s m args below meth c D cA as0 n0 A as' T'.heap (locs ++ L) E ⟨S.1, by rw [e1]; exact hP, hD.weaken (fun _ q _ hq => hAA _ hq), ⟨Nat.le_trans hS.1 (by rw [e1]; exact hz), fun q h1 h2 => by rw [e1, hkk q (Nat.lt_of_lt_of_le h1 hS.1) (fun z => h2 (hAA q z))]; exact hS.2.1 q h1 h2, fun q hq => by
      rcases List.mem_append.mp hq with h | h
      · exact hS.2.2 q h
      · exact hAA _ (hLq q h)⟩, S.2.2.2.2.1, S.2.2.2.2.2.as (fun k hk => ha k (Or.inr hk))⟩ hext lsA (loc_wf ha wl hl)
  rw [st_wf ha ws] at k2
  obtain ⟨t2, a1, b1⟩ := k2 T' rfl X'
  exact ⟨t2, stp t2 a1, b1⟩
end AWI
/-- a room that bears making -/
def rmA (d mc ms : Nat) : Room := { frames := d, cells := mc, slots := ms, locals := 60 * d }
/-- cells from a place on, over a pool -/
def blk (h : aH) (b : Nat) (cs : List aE) : aH := fun q => if b ≤ q ∧ q < b + cs.length then cs.getD (q - b) (.inl (.int, 0, .inl (fun _ => 0))) else h q
theorem blk_push {h : aH} {b n : Nat} {cs : List aE} {e : aE} (hn : n = b + cs.length) : va_up (blk h b cs) n e = blk h b (cs ++ [e]) := by
  subst hn
  funext q
  unfold va_up blk
  by_cases a : q = b + cs.length
  · subst a
    simp
  · rw [if_neg a]
    by_cases c : b ≤ q ∧ q < b + cs.length
    · rw [if_pos c, if_pos ⟨c.1, by simp; omega⟩]
      simp only [List.getD_eq_getElem?_getD]
      rw [List.getElem?_append_left (by omega)]
    · rw [if_neg c, if_neg (by simp; omega)]
theorem blk_set {h : aH} {b j n : Nat} {cs : List aE} {e : aE} (hn : n = b + j) (hj : j < cs.length) : va_up (blk h b cs) n e = blk h b (cs.set j e) := by
  subst hn
  funext q
  unfold va_up blk
  rw [List.length_set]
  by_cases a : q = b + j
  · subst a
    rw [if_pos rfl, if_pos ⟨by omega, by omega⟩]
    simp [List.getD_eq_getElem?_getD, hj]
  · rw [if_neg a]
    by_cases c : b ≤ q ∧ q < b + cs.length
    · rw [if_pos c, if_pos c]
      simp only [List.getD_eq_getElem?_getD]
      rw [List.getElem?_set_ne (by omega)]
    · rw [if_neg c, if_neg c]
theorem blk_get {h : aH} {b j : Nat} {cs : List aE} {e : aE} (he : cs[j]? = some e) : blk h b cs (b + j) = e := by
  have hj := (List.getElem?_eq_some_iff.mp he).1
  unfold blk
  rw [if_pos ⟨by omega, by omega⟩, Nat.add_sub_cancel_left, List.getD_eq_getElem?_getD, he]
  rfl
theorem blk_app {h : aH} {b : Nat} {cs ds : List aE} : blk h b (cs ++ ds) = blk (blk h b cs) (b + cs.length) ds := by
  funext q
  unfold blk
  rw [List.length_append]
  by_cases a : b ≤ q ∧ q < b + (cs.length + ds.length)
  · rw [if_pos a]
    by_cases c : q < b + cs.length
    · rw [if_neg (by omega), if_pos ⟨a.1, c⟩]
      simp only [List.getD_eq_getElem?_getD]
      rw [List.getElem?_append_left (by omega)]
    · rw [if_pos ⟨by omega, by omega⟩]
      simp only [List.getD_eq_getElem?_getD]
      rw [List.getElem?_append_right (by omega)]
      congr 2
      omega
  · rw [if_neg a, if_neg (by omega), if_neg (by omega)]
theorem blk_wf {h : aH} {b m : Nat} {cs : List aE} (hb : wfH b h) (hm : m = b + cs.length) (hc : ∀ e ∈ cs, wfE m e) : wfH m (blk h b cs) := by
  intro k hk
  unfold blk
  by_cases c : b ≤ k ∧ k < b + cs.length
  · rw [if_pos c]
    have hlt : k - b < cs.length := by omega
    rw [List.getD_eq_getElem?_getD, List.getElem?_eq_getElem hlt]
    exact hc _ (List.getElem_mem hlt)
  · rw [if_neg c]
    have hkb : k < b := by omega
    obtain ⟨h1, h2⟩ := hb k hkb
    have up : ∀ q, wfK b q → wfK m q := fun q hq => hq.elim (fun z => Or.inl (by omega)) Or.inr
    exact ⟨fun ty len f e j q hj => up q (h1 ty len f e j q hj), fun ci fs e v hv q hq => up q (h2 ci fs e v hv q hq)⟩
end
section
/-! ===== the constructors ===== -/
section WFX
variable {n : Nat}
theorem wfs_nil : wfS n [] := fun _ h => absurd h List.not_mem_nil
theorem wfs_c {v : Value} {st : List Value} (hv : wfV n v) (hs : wfS n st) : wfS n (v :: st) := fun u hu => (List.mem_cons.mp hu).elim (fun e => e ▸ hv) (hs u)
theorem wfs_i {x : Int32} {st : List Value} (hs : wfS n st) : wfS n (.int x :: st) := wfs_c (fun k e => by cases e) hs
theorem wfs_j {x : Int64} {st : List Value} (hs : wfS n st) : wfS n (.long x :: st) := wfs_c (fun k e => by cases e) hs
theorem wfs_n {st : List Value} (hs : wfS n st) : wfS n (.null :: st) := wfs_c (fun k e => by cases e) hs
theorem wfs_r {k : Nat} {st : List Value} (hk : k < n) (hs : wfS n st) : wfS n (.ref k :: st) := wfs_c (fun j e => by cases e; exact Or.inl hk) hs
theorem wfo {ci : Nat} {fs : List Value} (h : wfS n fs) : wfE n (.inr (ci, fs)) := ⟨fun _ _ _ e => (by cases e), fun _ _ e v hv => (by cases e; exact h v hv)⟩
theorem wfi {ty : FieldType} {len : Nat} {f : Nat → Int32} : wfE n (.inl (ty, len, .inl f)) := ⟨fun _ _ _ e => (by cases e), fun _ _ e => (by cases e)⟩
theorem wfj {ty : FieldType} {len : Nat} {f : Nat → Int64} : wfE n (.inl (ty, len, .inr (.inl f))) := ⟨fun _ _ _ e => (by cases e), fun _ _ e => (by cases e)⟩
theorem wfl_nil : wfL n [] := fun _ h => absurd h List.not_mem_nil
theorem wfl_0 {ls : List (Option Value)} (h : wfL n ls) : wfL n (none :: ls) := fun v hv => (List.mem_cons.mp hv).elim (fun e => by cases e) (h v)
theorem wfl_c {u : Value} {ls : List (Option Value)} (hu : wfV n u) (h : wfL n ls) : wfL n (some u :: ls) := fun v hv => (List.mem_cons.mp hv).elim (fun e => by cases e; exact hu) (h v)
theorem wfl_i {x : Int32} {ls : List (Option Value)} (h : wfL n ls) : wfL n (some (.int x) :: ls) := wfl_c (fun k e => by cases e) h
theorem wfl_r {k : Nat} {ls : List (Option Value)} (hk : k < n) (h : wfL n ls) : wfL n (some (.ref k) :: ls) := wfl_c (fun j e => by cases e; exact Or.inl hk) h
end WFX

theorem kI_X6_init_40_7 {l : Launch} (h : aH) (b : Nat) (hb : b + 2 ≤ 1000000) (wh : wfH b h) : AOk l yy_X6_init (rmA 1 1 280) (fun r n' h' => r = none ∧ n' = b + 2 ∧ h' = blk h b [.inr (5, [.ref (b + 1), .int 7, .int 40, .int 0]), .inl (.int, 280, .inl (fun _ => 0))]) [.ref b, .int 40, .int 7] (b + 1) (blk h b [.inr (5, [.null, .int 0, .int 0, .int 0])]) := by
  refine AOk.of (ls := [some (.ref b), some (.int 40), some (.int 7)]) (by decide +kernel) (Nat.le_of_ble_eq_true rfl) rfl ?_
  refine AW.run [(.aload_n 0, 0)] (pc' := 1) (ls' := [some (.ref b), some (.int 40), some (.int 7)]) (st' := [.ref b]) (by decide +kernel) rfl ?_
  refine AW.objInit (idx := 3) (tb_in 120 (by decide +kernel) (by decide +kernel)) (by decide +kernel) (Nat.le_of_ble_eq_true rfl) (Nat.le_of_ble_eq_true rfl) ?_
  refine AW.run [(.aload_n 0, 0), (.iload_n 1, 0)] (pc' := 6) (ls' := [some (.ref b), some (.int 40), some (.int 7)]) (st' := [.int 40, .ref b]) (by decide +kernel) rfl ?_
  refine AW.putF ff_RX6_9 rfl (by decide +kernel) (by omega) (blk_get (j := 0) rfl) (Nat.le_of_ble_eq_true rfl) (fun _ => rfl) (fun _ => rfl) ?_
  rw [blk_set (j := 0) (by rfl) (Nat.le_of_ble_eq_true rfl)]
  show AW l yy_X6_init _ _ 0 0 9 [some (.ref b), some (.int 40), some (.int 7)] [] (b + 1) (blk h b [.inr (5, [.null, .int 0, .int 40, .int 0])])
  refine AW.run [(.aload_n 0, 0), (.iload_n 2, 0)] (pc' := 11) (ls' := [some (.ref b), some (.int 40), some (.int 7)]) (st' := [.int 7, .ref b]) (by decide +kernel) rfl ?_
  refine AW.putF ff_RX6_15 rfl (by decide +kernel) (by omega) (blk_get (j := 0) rfl) (Nat.le_of_ble_eq_true rfl) (fun _ => rfl) (fun _ => rfl) ?_
  rw [blk_set (j := 0) (by rfl) (Nat.le_of_ble_eq_true rfl)]
  show AW l yy_X6_init _ _ 0 0 14 [some (.ref b), some (.int 40), some (.int 7)] [] (b + 1) (blk h b [.inr (5, [.null, .int 7, .int 40, .int 0])])
  refine AW.run [(.aload_n 0, 0), (.iload_n 1, 0), (.iload_n 2, 0), (.imul, 0)] (pc' := 18) (ls' := [some (.ref b), some (.int 40), some (.int 7)]) (st' := [.int (40 * 7), .ref b]) (by decide +kernel) rfl ?_
  rw [show (40 : Int32) * 7 = 280 by decide +kernel]
  refine AW.newa (atype := .int) (ty := .int) (N' := 280) (c0 := .inl (fun _ => 0)) 0 (fun _ => rfl) (fun _ e => by cases e) (tb_in 73 (by decide +kernel) (by decide +kernel)) rfl (fun _ => rfl) (fun _ => rfl) (by decide +kernel) (by decide +kernel) (Nat.le_of_ble_eq_true rfl) (by decide +kernel) (by show _ < 1000000; omega) (blk_wf wh rfl (List.forall_mem_cons.mpr ⟨(wfo (wfs_n (wfs_i (wfs_i (wfs_i wfs_nil))))), (fun _ h => absurd h List.not_mem_nil)⟩)) (wfl_r (by omega) (wfl_i (wfl_i wfl_nil))) (wfs_r (by omega) wfs_nil) (Nat.le_of_ble_eq_true rfl) (Nat.le_of_ble_eq_true rfl) ?_
  rw [blk_push (by rfl)]
  show AW l yy_X6_init _ _ 1 280 20 [some (.ref b), some (.int 40), some (.int 7)] [.ref (b + 1), .ref b] (b + 2) (blk h b [.inr (5, [.null, .int 7, .int 40, .int 0]), .inl (.int, 280, .inl (fun _ => 0))])
  refine AW.putF ff_RX6_18 rfl (by decide +kernel) (by omega) (blk_get (j := 0) rfl) (Nat.le_of_ble_eq_true rfl) (fun _ => rfl) (fun _ => rfl) ?_
  rw [blk_set (j := 0) (by rfl) (Nat.le_of_ble_eq_true rfl)]
  show AW l yy_X6_init _ _ 1 280 23 [some (.ref b), some (.int 40), some (.int 7)] [] (b + 2) (blk h b [.inr (5, [.ref (b + 1), .int 7, .int 40, .int 0]), .inl (.int, 280, .inl (fun _ => 0))])
  exact AW.vret rfl (by decide +kernel) (Nat.le_refl _) (Nat.le_refl _) ⟨rfl, rfl, rfl⟩
theorem kI_X6_init_10_4 {l : Launch} (h : aH) (b : Nat) (hb : b + 2 ≤ 1000000) (wh : wfH b h) : AOk l yy_X6_init (rmA 1 1 40) (fun r n' h' => r = none ∧ n' = b + 2 ∧ h' = blk h b [.inr (5, [.ref (b + 1), .int 4, .int 10, .int 0]), .inl (.int, 40, .inl (fun _ => 0))]) [.ref b, .int 10, .int 4] (b + 1) (blk h b [.inr (5, [.null, .int 0, .int 0, .int 0])]) := by
  refine AOk.of (ls := [some (.ref b), some (.int 10), some (.int 4)]) (by decide +kernel) (Nat.le_of_ble_eq_true rfl) rfl ?_
  refine AW.run [(.aload_n 0, 0)] (pc' := 1) (ls' := [some (.ref b), some (.int 10), some (.int 4)]) (st' := [.ref b]) (by decide +kernel) rfl ?_
  refine AW.objInit (idx := 3) (tb_in 120 (by decide +kernel) (by decide +kernel)) (by decide +kernel) (Nat.le_of_ble_eq_true rfl) (Nat.le_of_ble_eq_true rfl) ?_
  refine AW.run [(.aload_n 0, 0), (.iload_n 1, 0)] (pc' := 6) (ls' := [some (.ref b), some (.int 10), some (.int 4)]) (st' := [.int 10, .ref b]) (by decide +kernel) rfl ?_
  refine AW.putF ff_RX6_9 rfl (by decide +kernel) (by omega) (blk_get (j := 0) rfl) (Nat.le_of_ble_eq_true rfl) (fun _ => rfl) (fun _ => rfl) ?_
  rw [blk_set (j := 0) (by rfl) (Nat.le_of_ble_eq_true rfl)]
  show AW l yy_X6_init _ _ 0 0 9 [some (.ref b), some (.int 10), some (.int 4)] [] (b + 1) (blk h b [.inr (5, [.null, .int 0, .int 10, .int 0])])
  refine AW.run [(.aload_n 0, 0), (.iload_n 2, 0)] (pc' := 11) (ls' := [some (.ref b), some (.int 10), some (.int 4)]) (st' := [.int 4, .ref b]) (by decide +kernel) rfl ?_
  refine AW.putF ff_RX6_15 rfl (by decide +kernel) (by omega) (blk_get (j := 0) rfl) (Nat.le_of_ble_eq_true rfl) (fun _ => rfl) (fun _ => rfl) ?_
  rw [blk_set (j := 0) (by rfl) (Nat.le_of_ble_eq_true rfl)]
  show AW l yy_X6_init _ _ 0 0 14 [some (.ref b), some (.int 10), some (.int 4)] [] (b + 1) (blk h b [.inr (5, [.null, .int 4, .int 10, .int 0])])
  refine AW.run [(.aload_n 0, 0), (.iload_n 1, 0), (.iload_n 2, 0), (.imul, 0)] (pc' := 18) (ls' := [some (.ref b), some (.int 10), some (.int 4)]) (st' := [.int (10 * 4), .ref b]) (by decide +kernel) rfl ?_
  rw [show (10 : Int32) * 4 = 40 by decide +kernel]
  refine AW.newa (atype := .int) (ty := .int) (N' := 40) (c0 := .inl (fun _ => 0)) 0 (fun _ => rfl) (fun _ e => by cases e) (tb_in 73 (by decide +kernel) (by decide +kernel)) rfl (fun _ => rfl) (fun _ => rfl) (by decide +kernel) (by decide +kernel) (Nat.le_of_ble_eq_true rfl) (by decide +kernel) (by show _ < 1000000; omega) (blk_wf wh rfl (List.forall_mem_cons.mpr ⟨(wfo (wfs_n (wfs_i (wfs_i (wfs_i wfs_nil))))), (fun _ h => absurd h List.not_mem_nil)⟩)) (wfl_r (by omega) (wfl_i (wfl_i wfl_nil))) (wfs_r (by omega) wfs_nil) (Nat.le_of_ble_eq_true rfl) (Nat.le_of_ble_eq_true rfl) ?_
  rw [blk_push (by rfl)]
  show AW l yy_X6_init _ _ 1 40 20 [some (.ref b), some (.int 10), some (.int 4)] [.ref (b + 1), .ref b] (b + 2) (blk h b [.inr (5, [.null, .int 4, .int 10, .int 0]), .inl (.int, 40, .inl (fun _ => 0))])
  refine AW.putF ff_RX6_18 rfl (by decide +kernel) (by omega) (blk_get (j := 0) rfl) (Nat.le_of_ble_eq_true rfl) (fun _ => rfl) (fun _ => rfl) ?_
  rw [blk_set (j := 0) (by rfl) (Nat.le_of_ble_eq_true rfl)]
  show AW l yy_X6_init _ _ 1 40 23 [some (.ref b), some (.int 10), some (.int 4)] [] (b + 2) (blk h b [.inr (5, [.ref (b + 1), .int 4, .int 10, .int 0]), .inl (.int, 40, .inl (fun _ => 0))])
  exact AW.vret rfl (by decide +kernel) (Nat.le_refl _) (Nat.le_refl _) ⟨rfl, rfl, rfl⟩
theorem kI_X6_init_8_2 {l : Launch} (h : aH) (b : Nat) (hb : b + 2 ≤ 1000000) (wh : wfH b h) : AOk l yy_X6_init (rmA 1 1 16) (fun r n' h' => r = none ∧ n' = b + 2 ∧ h' = blk h b [.inr (5, [.ref (b + 1), .int 2, .int 8, .int 0]), .inl (.int, 16, .inl (fun _ => 0))]) [.ref b, .int 8, .int 2] (b + 1) (blk h b [.inr (5, [.null, .int 0, .int 0, .int 0])]) := by
  refine AOk.of (ls := [some (.ref b), some (.int 8), some (.int 2)]) (by decide +kernel) (Nat.le_of_ble_eq_true rfl) rfl ?_
  refine AW.run [(.aload_n 0, 0)] (pc' := 1) (ls' := [some (.ref b), some (.int 8), some (.int 2)]) (st' := [.ref b]) (by decide +kernel) rfl ?_
  refine AW.objInit (idx := 3) (tb_in 120 (by decide +kernel) (by decide +kernel)) (by decide +kernel) (Nat.le_of_ble_eq_true rfl) (Nat.le_of_ble_eq_true rfl) ?_
  refine AW.run [(.aload_n 0, 0), (.iload_n 1, 0)] (pc' := 6) (ls' := [some (.ref b), some (.int 8), some (.int 2)]) (st' := [.int 8, .ref b]) (by decide +kernel) rfl ?_
  refine AW.putF ff_RX6_9 rfl (by decide +kernel) (by omega) (blk_get (j := 0) rfl) (Nat.le_of_ble_eq_true rfl) (fun _ => rfl) (fun _ => rfl) ?_
  rw [blk_set (j := 0) (by rfl) (Nat.le_of_ble_eq_true rfl)]
  show AW l yy_X6_init _ _ 0 0 9 [some (.ref b), some (.int 8), some (.int 2)] [] (b + 1) (blk h b [.inr (5, [.null, .int 0, .int 8, .int 0])])
  refine AW.run [(.aload_n 0, 0), (.iload_n 2, 0)] (pc' := 11) (ls' := [some (.ref b), some (.int 8), some (.int 2)]) (st' := [.int 2, .ref b]) (by decide +kernel) rfl ?_
  refine AW.putF ff_RX6_15 rfl (by decide +kernel) (by omega) (blk_get (j := 0) rfl) (Nat.le_of_ble_eq_true rfl) (fun _ => rfl) (fun _ => rfl) ?_
  rw [blk_set (j := 0) (by rfl) (Nat.le_of_ble_eq_true rfl)]
  show AW l yy_X6_init _ _ 0 0 14 [some (.ref b), some (.int 8), some (.int 2)] [] (b + 1) (blk h b [.inr (5, [.null, .int 2, .int 8, .int 0])])
  refine AW.run [(.aload_n 0, 0), (.iload_n 1, 0), (.iload_n 2, 0), (.imul, 0)] (pc' := 18) (ls' := [some (.ref b), some (.int 8), some (.int 2)]) (st' := [.int (8 * 2), .ref b]) (by decide +kernel) rfl ?_
  rw [show (8 : Int32) * 2 = 16 by decide +kernel]
  refine AW.newa (atype := .int) (ty := .int) (N' := 16) (c0 := .inl (fun _ => 0)) 0 (fun _ => rfl) (fun _ e => by cases e) (tb_in 73 (by decide +kernel) (by decide +kernel)) rfl (fun _ => rfl) (fun _ => rfl) (by decide +kernel) (by decide +kernel) (Nat.le_of_ble_eq_true rfl) (by decide +kernel) (by show _ < 1000000; omega) (blk_wf wh rfl (List.forall_mem_cons.mpr ⟨(wfo (wfs_n (wfs_i (wfs_i (wfs_i wfs_nil))))), (fun _ h => absurd h List.not_mem_nil)⟩)) (wfl_r (by omega) (wfl_i (wfl_i wfl_nil))) (wfs_r (by omega) wfs_nil) (Nat.le_of_ble_eq_true rfl) (Nat.le_of_ble_eq_true rfl) ?_
  rw [blk_push (by rfl)]
  show AW l yy_X6_init _ _ 1 16 20 [some (.ref b), some (.int 8), some (.int 2)] [.ref (b + 1), .ref b] (b + 2) (blk h b [.inr (5, [.null, .int 2, .int 8, .int 0]), .inl (.int, 16, .inl (fun _ => 0))])
  refine AW.putF ff_RX6_18 rfl (by decide +kernel) (by omega) (blk_get (j := 0) rfl) (Nat.le_of_ble_eq_true rfl) (fun _ => rfl) (fun _ => rfl) ?_
  rw [blk_set (j := 0) (by rfl) (Nat.le_of_ble_eq_true rfl)]
  show AW l yy_X6_init _ _ 1 16 23 [some (.ref b), some (.int 8), some (.int 2)] [] (b + 2) (blk h b [.inr (5, [.ref (b + 1), .int 2, .int 8, .int 0]), .inl (.int, 16, .inl (fun _ => 0))])
  exact AW.vret rfl (by decide +kernel) (Nat.le_refl _) (Nat.le_refl _) ⟨rfl, rfl, rfl⟩
theorem kI_X10_init {l : Launch} (h : aH) (b : Nat) (hb : b + 5 ≤ 1000000) (wh : wfH b h) : AOk l yy_X10_init (rmA 1 4 1603) (fun r n' h' => r = none ∧ n' = b + 5 ∧ h' = blk h b [.inr (8, [.ref (b + 1), .ref (b + 2), .ref (b + 3), .ref (b + 4), .int 0, .int 0, .int 0, .int 0, .int 0, .int 0]), .inl (.int, 400, .inl (fun _ => 0)), .inl (.int, 401, .inl (fun _ => 0)), .inl (.int, 401, .inl (fun _ => 0)), .inl (.int, 401, .inl (fun _ => 0))]) [.ref b] (b + 1) (blk h b [.inr (8, [.null, .null, .null, .null, .int 0, .int 0, .int 0, .int 0, .int 0, .int 0])]) := by
  refine AOk.of (ls := [some (.ref b)]) (by decide +kernel) (Nat.le_of_ble_eq_true rfl) rfl ?_
  refine AW.run [(.aload_n 0, 0)] (pc' := 1) (ls' := [some (.ref b)]) (st' := [.ref b]) (by decide +kernel) rfl ?_
  refine AW.objInit (idx := 1) (tb_in 34 (by decide +kernel) (by decide +kernel)) (by decide +kernel) (Nat.le_of_ble_eq_true rfl) (Nat.le_of_ble_eq_true rfl) ?_
  refine AW.run [(.aload_n 0, 0), (.sipush 400, 400)] (pc' := 8) (ls' := [some (.ref b)]) (st' := [.int 400, .ref b]) (by decide +kernel) rfl ?_
  refine AW.newa (atype := .int) (ty := .int) (N' := 400) (c0 := .inl (fun _ => 0)) 0 (fun _ => rfl) (fun _ e => by cases e) (tb_in 73 (by decide +kernel) (by decide +kernel)) rfl (fun _ => rfl) (fun _ => rfl) (by decide +kernel) (by decide +kernel) (Nat.le_of_ble_eq_true rfl) (by decide +kernel) (by show _ < 1000000; omega) (blk_wf wh rfl (List.forall_mem_cons.mpr ⟨(wfo (wfs_n (wfs_n (wfs_n (wfs_n (wfs_i (wfs_i (wfs_i (wfs_i (wfs_i (wfs_i wfs_nil))))))))))), (fun _ h => absurd h List.not_mem_nil)⟩)) (wfl_r (by omega) wfl_nil) (wfs_r (by omega) wfs_nil) (Nat.le_of_ble_eq_true rfl) (Nat.le_of_ble_eq_true rfl) ?_
  rw [blk_push (by rfl)]
  show AW l yy_X10_init _ _ 1 400 10 [some (.ref b)] [.ref (b + 1), .ref b] (b + 2) (blk h b [.inr (8, [.null, .null, .null, .null, .int 0, .int 0, .int 0, .int 0, .int 0, .int 0]), .inl (.int, 400, .inl (fun _ => 0))])
  refine AW.putF ff_RX10_9 rfl (by decide +kernel) (by omega) (blk_get (j := 0) rfl) (Nat.le_of_ble_eq_true rfl) (fun _ => rfl) (fun _ => rfl) ?_
  rw [blk_set (j := 0) (by rfl) (Nat.le_of_ble_eq_true rfl)]
  show AW l yy_X10_init _ _ 1 400 13 [some (.ref b)] [] (b + 2) (blk h b [.inr (8, [.ref (b + 1), .null, .null, .null, .int 0, .int 0, .int 0, .int 0, .int 0, .int 0]), .inl (.int, 400, .inl (fun _ => 0))])
  refine AW.run [(.aload_n 0, 0), (.sipush 401, 401)] (pc' := 17) (ls' := [some (.ref b)]) (st' := [.int 401, .ref b]) (by decide +kernel) rfl ?_
  refine AW.newa (atype := .int) (ty := .int) (N' := 401) (c0 := .inl (fun _ => 0)) 0 (fun _ => rfl) (fun _ e => by cases e) (tb_in 73 (by decide +kernel) (by decide +kernel)) rfl (fun _ => rfl) (fun _ => rfl) (by decide +kernel) (by decide +kernel) (Nat.le_of_ble_eq_true rfl) (by decide +kernel) (by show _ < 1000000; omega) (blk_wf wh rfl (List.forall_mem_cons.mpr ⟨(wfo (wfs_r (by omega) (wfs_n (wfs_n (wfs_n (wfs_i (wfs_i (wfs_i (wfs_i (wfs_i (wfs_i wfs_nil))))))))))), (List.forall_mem_cons.mpr ⟨wfi, (fun _ h => absurd h List.not_mem_nil)⟩)⟩)) (wfl_r (by omega) wfl_nil) (wfs_r (by omega) wfs_nil) (Nat.le_of_ble_eq_true rfl) (Nat.le_of_ble_eq_true rfl) ?_
  rw [blk_push (by rfl)]
  show AW l yy_X10_init _ _ 2 801 19 [some (.ref b)] [.ref (b + 2), .ref b] (b + 3) (blk h b [.inr (8, [.ref (b + 1), .null, .null, .null, .int 0, .int 0, .int 0, .int 0, .int 0, .int 0]), .inl (.int, 400, .inl (fun _ => 0)), .inl (.int, 401, .inl (fun _ => 0))])
  refine AW.putF ff_RX10_13 rfl (by decide +kernel) (by omega) (blk_get (j := 0) rfl) (Nat.le_of_ble_eq_true rfl) (fun _ => rfl) (fun _ => rfl) ?_
  rw [blk_set (j := 0) (by rfl) (Nat.le_of_ble_eq_true rfl)]
  show AW l yy_X10_init _ _ 2 801 22 [some (.ref b)] [] (b + 3) (blk h b [.inr (8, [.ref (b + 1), .ref (b + 2), .null, .null, .int 0, .int 0, .int 0, .int 0, .int 0, .int 0]), .inl (.int, 400, .inl (fun _ => 0)), .inl (.int, 401, .inl (fun _ => 0))])
  refine AW.run [(.aload_n 0, 0), (.sipush 401, 401)] (pc' := 26) (ls' := [some (.ref b)]) (st' := [.int 401, .ref b]) (by decide +kernel) rfl ?_
  refine AW.newa (atype := .int) (ty := .int) (N' := 401) (c0 := .inl (fun _ => 0)) 0 (fun _ => rfl) (fun _ e => by cases e) (tb_in 73 (by decide +kernel) (by decide +kernel)) rfl (fun _ => rfl) (fun _ => rfl) (by decide +kernel) (by decide +kernel) (Nat.le_of_ble_eq_true rfl) (by decide +kernel) (by show _ < 1000000; omega) (blk_wf wh rfl (List.forall_mem_cons.mpr ⟨(wfo (wfs_r (by omega) (wfs_r (by omega) (wfs_n (wfs_n (wfs_i (wfs_i (wfs_i (wfs_i (wfs_i (wfs_i wfs_nil))))))))))), (List.forall_mem_cons.mpr ⟨wfi, (List.forall_mem_cons.mpr ⟨wfi, (fun _ h => absurd h List.not_mem_nil)⟩)⟩)⟩)) (wfl_r (by omega) wfl_nil) (wfs_r (by omega) wfs_nil) (Nat.le_of_ble_eq_true rfl) (Nat.le_of_ble_eq_true rfl) ?_
  rw [blk_push (by rfl)]
  show AW l yy_X10_init _ _ 3 1202 28 [some (.ref b)] [.ref (b + 3), .ref b] (b + 4) (blk h b [.inr (8, [.ref (b + 1), .ref (b + 2), .null, .null, .int 0, .int 0, .int 0, .int 0, .int 0, .int 0]), .inl (.int, 400, .inl (fun _ => 0)), .inl (.int, 401, .inl (fun _ => 0)), .inl (.int, 401, .inl (fun _ => 0))])
  refine AW.putF ff_RX10_16 rfl (by decide +kernel) (by omega) (blk_get (j := 0) rfl) (Nat.le_of_ble_eq_true rfl) (fun _ => rfl) (fun _ => rfl) ?_
  rw [blk_set (j := 0) (by rfl) (Nat.le_of_ble_eq_true rfl)]
  show AW l yy_X10_init _ _ 3 1202 31 [some (.ref b)] [] (b + 4) (blk h b [.inr (8, [.ref (b + 1), .ref (b + 2), .ref (b + 3), .null, .int 0, .int 0, .int 0, .int 0, .int 0, .int 0]), .inl (.int, 400, .inl (fun _ => 0)), .inl (.int, 401, .inl (fun _ => 0)), .inl (.int, 401, .inl (fun _ => 0))])
  refine AW.run [(.aload_n 0, 0), (.sipush 401, 401)] (pc' := 35) (ls' := [some (.ref b)]) (st' := [.int 401, .ref b]) (by decide +kernel) rfl ?_
  refine AW.newa (atype := .int) (ty := .int) (N' := 401) (c0 := .inl (fun _ => 0)) 0 (fun _ => rfl) (fun _ e => by cases e) (tb_in 73 (by decide +kernel) (by decide +kernel)) rfl (fun _ => rfl) (fun _ => rfl) (by decide +kernel) (by decide +kernel) (Nat.le_of_ble_eq_true rfl) (by decide +kernel) (by show _ < 1000000; omega) (blk_wf wh rfl (List.forall_mem_cons.mpr ⟨(wfo (wfs_r (by omega) (wfs_r (by omega) (wfs_r (by omega) (wfs_n (wfs_i (wfs_i (wfs_i (wfs_i (wfs_i (wfs_i wfs_nil))))))))))), (List.forall_mem_cons.mpr ⟨wfi, (List.forall_mem_cons.mpr ⟨wfi, (List.forall_mem_cons.mpr ⟨wfi, (fun _ h => absurd h List.not_mem_nil)⟩)⟩)⟩)⟩)) (wfl_r (by omega) wfl_nil) (wfs_r (by omega) wfs_nil) (Nat.le_of_ble_eq_true rfl) (Nat.le_of_ble_eq_true rfl) ?_
  rw [blk_push (by rfl)]
  show AW l yy_X10_init _ _ 4 1603 37 [some (.ref b)] [.ref (b + 4), .ref b] (b + 5) (blk h b [.inr (8, [.ref (b + 1), .ref (b + 2), .ref (b + 3), .null, .int 0, .int 0, .int 0, .int 0, .int 0, .int 0]), .inl (.int, 400, .inl (fun _ => 0)), .inl (.int, 401, .inl (fun _ => 0)), .inl (.int, 401, .inl (fun _ => 0)), .inl (.int, 401, .inl (fun _ => 0))])
  refine AW.putF ff_RX10_19 rfl (by decide +kernel) (by omega) (blk_get (j := 0) rfl) (Nat.le_of_ble_eq_true rfl) (fun _ => rfl) (fun _ => rfl) ?_
  rw [blk_set (j := 0) (by rfl) (Nat.le_of_ble_eq_true rfl)]
  show AW l yy_X10_init _ _ 4 1603 40 [some (.ref b)] [] (b + 5) (blk h b [.inr (8, [.ref (b + 1), .ref (b + 2), .ref (b + 3), .ref (b + 4), .int 0, .int 0, .int 0, .int 0, .int 0, .int 0]), .inl (.int, 400, .inl (fun _ => 0)), .inl (.int, 401, .inl (fun _ => 0)), .inl (.int, 401, .inl (fun _ => 0)), .inl (.int, 401, .inl (fun _ => 0))])
  exact AW.vret rfl (by decide +kernel) (Nat.le_refl _) (Nat.le_refl _) ⟨rfl, rfl, rfl⟩
theorem kI_X7_init {l : Launch} (h : aH) (b : Nat) (hb : b + 6 ≤ 1000000) (wh : wfH b h) : AOk l yy_X7_init (rmA 1 5 448) (fun r n' h' => r = none ∧ n' = b + 6 ∧ h' = blk h b [.inr (6, [.ref (b + 1), .ref (b + 2), .ref (b + 3), .ref (b + 4), .ref (b + 5), .int 0, .int 0, .int 0]), .inl (.int, 400, .inl (fun _ => 0)), .inl (.int, 12, .inl (fun _ => 0)), .inl (.int, 12, .inl (fun _ => 0)), .inl (.int, 12, .inl (fun _ => 0)), .inl (.int, 12, .inl (fun _ => 0))]) [.ref b] (b + 1) (blk h b [.inr (6, [.null, .null, .null, .null, .null, .int 0, .int 0, .int 0])]) := by
  refine AOk.of (ls := [some (.ref b)]) (by decide +kernel) (Nat.le_of_ble_eq_true rfl) rfl ?_
  refine AW.run [(.aload_n 0, 0)] (pc' := 1) (ls' := [some (.ref b)]) (st' := [.ref b]) (by decide +kernel) rfl ?_
  refine AW.objInit (idx := 1) (tb_in 80 (by decide +kernel) (by decide +kernel)) (by decide +kernel) (Nat.le_of_ble_eq_true rfl) (Nat.le_of_ble_eq_true rfl) ?_
  refine AW.run [(.aload_n 0, 0), (.sipush 400, 400)] (pc' := 8) (ls' := [some (.ref b)]) (st' := [.int 400, .ref b]) (by decide +kernel) rfl ?_
  refine AW.newa (atype := .int) (ty := .int) (N' := 400) (c0 := .inl (fun _ => 0)) 0 (fun _ => rfl) (fun _ e => by cases e) (tb_in 73 (by decide +kernel) (by decide +kernel)) rfl (fun _ => rfl) (fun _ => rfl) (by decide +kernel) (by decide +kernel) (Nat.le_of_ble_eq_true rfl) (by decide +kernel) (by show _ < 1000000; omega) (blk_wf wh rfl (List.forall_mem_cons.mpr ⟨(wfo (wfs_n (wfs_n (wfs_n (wfs_n (wfs_n (wfs_i (wfs_i (wfs_i wfs_nil))))))))), (fun _ h => absurd h List.not_mem_nil)⟩)) (wfl_r (by omega) wfl_nil) (wfs_r (by omega) wfs_nil) (Nat.le_of_ble_eq_true rfl) (Nat.le_of_ble_eq_true rfl) ?_
  rw [blk_push (by rfl)]
  show AW l yy_X7_init _ _ 1 400 10 [some (.ref b)] [.ref (b + 1), .ref b] (b + 2) (blk h b [.inr (6, [.null, .null, .null, .null, .null, .int 0, .int 0, .int 0]), .inl (.int, 400, .inl (fun _ => 0))])
  refine AW.putF ff_RX7_9 rfl (by decide +kernel) (by omega) (blk_get (j := 0) rfl) (Nat.le_of_ble_eq_true rfl) (fun _ => rfl) (fun _ => rfl) ?_
  rw [blk_set (j := 0) (by rfl) (Nat.le_of_ble_eq_true rfl)]
  show AW l yy_X7_init _ _ 1 400 13 [some (.ref b)] [] (b + 2) (blk h b [.inr (6, [.ref (b + 1), .null, .null, .null, .null, .int 0, .int 0, .int 0]), .inl (.int, 400, .inl (fun _ => 0))])
  refine AW.run [(.aload_n 0, 0), (.bipush 12, 12)] (pc' := 16) (ls' := [some (.ref b)]) (st' := [.int 12, .ref b]) (by decide +kernel) rfl ?_
  refine AW.newa (atype := .int) (ty := .int) (N' := 12) (c0 := .inl (fun _ => 0)) 0 (fun _ => rfl) (fun _ e => by cases e) (tb_in 73 (by decide +kernel) (by decide +kernel)) rfl (fun _ => rfl) (fun _ => rfl) (by decide +kernel) (by decide +kernel) (Nat.le_of_ble_eq_true rfl) (by decide +kernel) (by show _ < 1000000; omega) (blk_wf wh rfl (List.forall_mem_cons.mpr ⟨(wfo (wfs_r (by omega) (wfs_n (wfs_n (wfs_n (wfs_n (wfs_i (wfs_i (wfs_i wfs_nil))))))))), (List.forall_mem_cons.mpr ⟨wfi, (fun _ h => absurd h List.not_mem_nil)⟩)⟩)) (wfl_r (by omega) wfl_nil) (wfs_r (by omega) wfs_nil) (Nat.le_of_ble_eq_true rfl) (Nat.le_of_ble_eq_true rfl) ?_
  rw [blk_push (by rfl)]
  show AW l yy_X7_init _ _ 2 412 18 [some (.ref b)] [.ref (b + 2), .ref b] (b + 3) (blk h b [.inr (6, [.ref (b + 1), .null, .null, .null, .null, .int 0, .int 0, .int 0]), .inl (.int, 400, .inl (fun _ => 0)), .inl (.int, 12, .inl (fun _ => 0))])
  refine AW.putF ff_RX7_15 rfl (by decide +kernel) (by omega) (blk_get (j := 0) rfl) (Nat.le_of_ble_eq_true rfl) (fun _ => rfl) (fun _ => rfl) ?_
  rw [blk_set (j := 0) (by rfl) (Nat.le_of_ble_eq_true rfl)]
  show AW l yy_X7_init _ _ 2 412 21 [some (.ref b)] [] (b + 3) (blk h b [.inr (6, [.ref (b + 1), .ref (b + 2), .null, .null, .null, .int 0, .int 0, .int 0]), .inl (.int, 400, .inl (fun _ => 0)), .inl (.int, 12, .inl (fun _ => 0))])
  refine AW.run [(.aload_n 0, 0), (.bipush 12, 12)] (pc' := 24) (ls' := [some (.ref b)]) (st' := [.int 12, .ref b]) (by decide +kernel) rfl ?_
  refine AW.newa (atype := .int) (ty := .int) (N' := 12) (c0 := .inl (fun _ => 0)) 0 (fun _ => rfl) (fun _ e => by cases e) (tb_in 73 (by decide +kernel) (by decide +kernel)) rfl (fun _ => rfl) (fun _ => rfl) (by decide +kernel) (by decide +kernel) (Nat.le_of_ble_eq_true rfl) (by decide +kernel) (by show _ < 1000000; omega) (blk_wf wh rfl (List.forall_mem_cons.mpr ⟨(wfo (wfs_r (by omega) (wfs_r (by omega) (wfs_n (wfs_n (wfs_n (wfs_i (wfs_i (wfs_i wfs_nil))))))))), (List.forall_mem_cons.mpr ⟨wfi, (List.forall_mem_cons.mpr ⟨wfi, (fun _ h => absurd h List.not_mem_nil)⟩)⟩)⟩)) (wfl_r (by omega) wfl_nil) (wfs_r (by omega) wfs_nil) (Nat.le_of_ble_eq_true rfl) (Nat.le_of_ble_eq_true rfl) ?_
  rw [blk_push (by rfl)]
  show AW l yy_X7_init _ _ 3 424 26 [some (.ref b)] [.ref (b + 3), .ref b] (b + 4) (blk h b [.inr (6, [.ref (b + 1), .ref (b + 2), .null, .null, .null, .int 0, .int 0, .int 0]), .inl (.int, 400, .inl (fun _ => 0)), .inl (.int, 12, .inl (fun _ => 0)), .inl (.int, 12, .inl (fun _ => 0))])
  refine AW.putF ff_RX7_18 rfl (by decide +kernel) (by omega) (blk_get (j := 0) rfl) (Nat.le_of_ble_eq_true rfl) (fun _ => rfl) (fun _ => rfl) ?_
  rw [blk_set (j := 0) (by rfl) (Nat.le_of_ble_eq_true rfl)]
  show AW l yy_X7_init _ _ 3 424 29 [some (.ref b)] [] (b + 4) (blk h b [.inr (6, [.ref (b + 1), .ref (b + 2), .ref (b + 3), .null, .null, .int 0, .int 0, .int 0]), .inl (.int, 400, .inl (fun _ => 0)), .inl (.int, 12, .inl (fun _ => 0)), .inl (.int, 12, .inl (fun _ => 0))])
  refine AW.run [(.aload_n 0, 0), (.bipush 12, 12)] (pc' := 32) (ls' := [some (.ref b)]) (st' := [.int 12, .ref b]) (by decide +kernel) rfl ?_
  refine AW.newa (atype := .int) (ty := .int) (N' := 12) (c0 := .inl (fun _ => 0)) 0 (fun _ => rfl) (fun _ e => by cases e) (tb_in 73 (by decide +kernel) (by decide +kernel)) rfl (fun _ => rfl) (fun _ => rfl) (by decide +kernel) (by decide +kernel) (Nat.le_of_ble_eq_true rfl) (by decide +kernel) (by show _ < 1000000; omega) (blk_wf wh rfl (List.forall_mem_cons.mpr ⟨(wfo (wfs_r (by omega) (wfs_r (by omega) (wfs_r (by omega) (wfs_n (wfs_n (wfs_i (wfs_i (wfs_i wfs_nil))))))))), (List.forall_mem_cons.mpr ⟨wfi, (List.forall_mem_cons.mpr ⟨wfi, (List.forall_mem_cons.mpr ⟨wfi, (fun _ h => absurd h List.not_mem_nil)⟩)⟩)⟩)⟩)) (wfl_r (by omega) wfl_nil) (wfs_r (by omega) wfs_nil) (Nat.le_of_ble_eq_true rfl) (Nat.le_of_ble_eq_true rfl) ?_
  rw [blk_push (by rfl)]
  show AW l yy_X7_init _ _ 4 436 34 [some (.ref b)] [.ref (b + 4), .ref b] (b + 5) (blk h b [.inr (6, [.ref (b + 1), .ref (b + 2), .ref (b + 3), .null, .null, .int 0, .int 0, .int 0]), .inl (.int, 400, .inl (fun _ => 0)), .inl (.int, 12, .inl (fun _ => 0)), .inl (.int, 12, .inl (fun _ => 0)), .inl (.int, 12, .inl (fun _ => 0))])
  refine AW.putF ff_RX7_21 rfl (by decide +kernel) (by omega) (blk_get (j := 0) rfl) (Nat.le_of_ble_eq_true rfl) (fun _ => rfl) (fun _ => rfl) ?_
  rw [blk_set (j := 0) (by rfl) (Nat.le_of_ble_eq_true rfl)]
  show AW l yy_X7_init _ _ 4 436 37 [some (.ref b)] [] (b + 5) (blk h b [.inr (6, [.ref (b + 1), .ref (b + 2), .ref (b + 3), .ref (b + 4), .null, .int 0, .int 0, .int 0]), .inl (.int, 400, .inl (fun _ => 0)), .inl (.int, 12, .inl (fun _ => 0)), .inl (.int, 12, .inl (fun _ => 0)), .inl (.int, 12, .inl (fun _ => 0))])
  refine AW.run [(.aload_n 0, 0), (.bipush 12, 12)] (pc' := 40) (ls' := [some (.ref b)]) (st' := [.int 12, .ref b]) (by decide +kernel) rfl ?_
  refine AW.newa (atype := .int) (ty := .int) (N' := 12) (c0 := .inl (fun _ => 0)) 0 (fun _ => rfl) (fun _ e => by cases e) (tb_in 73 (by decide +kernel) (by decide +kernel)) rfl (fun _ => rfl) (fun _ => rfl) (by decide +kernel) (by decide +kernel) (Nat.le_of_ble_eq_true rfl) (by decide +kernel) (by show _ < 1000000; omega) (blk_wf wh rfl (List.forall_mem_cons.mpr ⟨(wfo (wfs_r (by omega) (wfs_r (by omega) (wfs_r (by omega) (wfs_r (by omega) (wfs_n (wfs_i (wfs_i (wfs_i wfs_nil))))))))), (List.forall_mem_cons.mpr ⟨wfi, (List.forall_mem_cons.mpr ⟨wfi, (List.forall_mem_cons.mpr ⟨wfi, (List.forall_mem_cons.mpr ⟨wfi, (fun _ h => absurd h List.not_mem_nil)⟩)⟩)⟩)⟩)⟩)) (wfl_r (by omega) wfl_nil) (wfs_r (by omega) wfs_nil) (Nat.le_of_ble_eq_true rfl) (Nat.le_of_ble_eq_true rfl) ?_
  rw [blk_push (by rfl)]
  show AW l yy_X7_init _ _ 5 448 42 [some (.ref b)] [.ref (b + 5), .ref b] (b + 6) (blk h b [.inr (6, [.ref (b + 1), .ref (b + 2), .ref (b + 3), .ref (b + 4), .null, .int 0, .int 0, .int 0]), .inl (.int, 400, .inl (fun _ => 0)), .inl (.int, 12, .inl (fun _ => 0)), .inl (.int, 12, .inl (fun _ => 0)), .inl (.int, 12, .inl (fun _ => 0)), .inl (.int, 12, .inl (fun _ => 0))])
  refine AW.putF ff_RX7_24 rfl (by decide +kernel) (by omega) (blk_get (j := 0) rfl) (Nat.le_of_ble_eq_true rfl) (fun _ => rfl) (fun _ => rfl) ?_
  rw [blk_set (j := 0) (by rfl) (Nat.le_of_ble_eq_true rfl)]
  show AW l yy_X7_init _ _ 5 448 45 [some (.ref b)] [] (b + 6) (blk h b [.inr (6, [.ref (b + 1), .ref (b + 2), .ref (b + 3), .ref (b + 4), .ref (b + 5), .int 0, .int 0, .int 0]), .inl (.int, 400, .inl (fun _ => 0)), .inl (.int, 12, .inl (fun _ => 0)), .inl (.int, 12, .inl (fun _ => 0)), .inl (.int, 12, .inl (fun _ => 0)), .inl (.int, 12, .inl (fun _ => 0))])
  exact AW.vret rfl (by decide +kernel) (Nat.le_refl _) (Nat.le_refl _) ⟨rfl, rfl, rfl⟩
theorem kI_X2_init {l : Launch} (h : aH) (b : Nat) (hb : b + 12 ≤ 1000000) (wh : wfH b h) : AOk l yy_X2_init (rmA 2 11 444) (fun r n' h' => r = none ∧ n' = b + 12 ∧ h' = blk h b [.inr (2, [.ref (b + 1), .ref (b + 2), .ref (b + 3), .ref (b + 4), .ref (b + 5), .ref (b + 6), .ref (b + 8), .ref (b + 10), .int 0, .int 0, .int 0, .int 0, .int 0, .int (-1), .int 0]), .inl (.int, 8, .inl (fun _ => 0)), .inl (.int, 8, .inl (fun _ => 0)), .inl (.int, 8, .inl (fun _ => 0)), .inl (.int, 8, .inl (fun _ => 0)), .inl (.int, 64, .inl (fun _ => 0)), .inr (5, [.ref (b + 7), .int 7, .int 40, .int 0]), .inl (.int, 280, .inl (fun _ => 0)), .inr (5, [.ref (b + 9), .int 4, .int 10, .int 0]), .inl (.int, 40, .inl (fun _ => 0)), .inr (5, [.ref (b + 11), .int 2, .int 8, .int 0]), .inl (.int, 16, .inl (fun _ => 0))]) [.ref b] (b + 1) (blk h b [.inr (2, [.null, .null, .null, .null, .null, .null, .null, .null, .int 0, .int 0, .int 0, .int 0, .int 0, .int 0, .int 0])]) := by
  refine AOk.of (ls := [some (.ref b)]) (by decide +kernel) (Nat.le_of_ble_eq_true rfl) rfl ?_
  refine AW.run [(.aload_n 0, 0)] (pc' := 1) (ls' := [some (.ref b)]) (st' := [.ref b]) (by decide +kernel) rfl ?_
  refine AW.objInit (idx := 3) (tb_in 114 (by decide +kernel) (by decide +kernel)) (by decide +kernel) (Nat.le_of_ble_eq_true rfl) (Nat.le_of_ble_eq_true rfl) ?_
  refine AW.run [(.aload_n 0, 0), (.bipush 8, 8)] (pc' := 7) (ls' := [some (.ref b)]) (st' := [.int 8, .ref b]) (by decide +kernel) rfl ?_
  refine AW.newa (atype := .int) (ty := .int) (N' := 8) (c0 := .inl (fun _ => 0)) 0 (fun _ => rfl) (fun _ e => by cases e) (tb_in 73 (by decide +kernel) (by decide +kernel)) rfl (fun _ => rfl) (fun _ => rfl) (by decide +kernel) (by decide +kernel) (Nat.le_of_ble_eq_true rfl) (by decide +kernel) (by show _ < 1000000; omega) (blk_wf wh rfl (List.forall_mem_cons.mpr ⟨(wfo (wfs_n (wfs_n (wfs_n (wfs_n (wfs_n (wfs_n (wfs_n (wfs_n (wfs_i (wfs_i (wfs_i (wfs_i (wfs_i (wfs_i (wfs_i wfs_nil)))))))))))))))), (fun _ h => absurd h List.not_mem_nil)⟩)) (wfl_r (by omega) wfl_nil) (wfs_r (by omega) wfs_nil) (Nat.le_of_ble_eq_true rfl) (Nat.le_of_ble_eq_true rfl) ?_
  rw [blk_push (by rfl)]
  show AW l yy_X2_init _ _ 1 8 9 [some (.ref b)] [.ref (b + 1), .ref b] (b + 2) (blk h b [.inr (2, [.null, .null, .null, .null, .null, .null, .null, .null, .int 0, .int 0, .int 0, .int 0, .int 0, .int 0, .int 0]), .inl (.int, 8, .inl (fun _ => 0))])
  refine AW.putF ff_RX2_11 rfl (by decide +kernel) (by omega) (blk_get (j := 0) rfl) (Nat.le_of_ble_eq_true rfl) (fun _ => rfl) (fun _ => rfl) ?_
  rw [blk_set (j := 0) (by rfl) (Nat.le_of_ble_eq_true rfl)]
  show AW l yy_X2_init _ _ 1 8 12 [some (.ref b)] [] (b + 2) (blk h b [.inr (2, [.ref (b + 1), .null, .null, .null, .null, .null, .null, .null, .int 0, .int 0, .int 0, .int 0, .int 0, .int 0, .int 0]), .inl (.int, 8, .inl (fun _ => 0))])
  refine AW.run [(.aload_n 0, 0), (.bipush 8, 8)] (pc' := 15) (ls' := [some (.ref b)]) (st' := [.int 8, .ref b]) (by decide +kernel) rfl ?_
  refine AW.newa (atype := .int) (ty := .int) (N' := 8) (c0 := .inl (fun _ => 0)) 0 (fun _ => rfl) (fun _ e => by cases e) (tb_in 73 (by decide +kernel) (by decide +kernel)) rfl (fun _ => rfl) (fun _ => rfl) (by decide +kernel) (by decide +kernel) (Nat.le_of_ble_eq_true rfl) (by decide +kernel) (by show _ < 1000000; omega) (blk_wf wh rfl (List.forall_mem_cons.mpr ⟨(wfo (wfs_r (by omega) (wfs_n (wfs_n (wfs_n (wfs_n (wfs_n (wfs_n (wfs_n (wfs_i (wfs_i (wfs_i (wfs_i (wfs_i (wfs_i (wfs_i wfs_nil)))))))))))))))), (List.forall_mem_cons.mpr ⟨wfi, (fun _ h => absurd h List.not_mem_nil)⟩)⟩)) (wfl_r (by omega) wfl_nil) (wfs_r (by omega) wfs_nil) (Nat.le_of_ble_eq_true rfl) (Nat.le_of_ble_eq_true rfl) ?_
  rw [blk_push (by rfl)]
  show AW l yy_X2_init _ _ 2 16 17 [some (.ref b)] [.ref (b + 2), .ref b] (b + 3) (blk h b [.inr (2, [.ref (b + 1), .null, .null, .null, .null, .null, .null, .null, .int 0, .int 0, .int 0, .int 0, .int 0, .int 0, .int 0]), .inl (.int, 8, .inl (fun _ => 0)), .inl (.int, 8, .inl (fun _ => 0))])
  refine AW.putF ff_RX2_15 rfl (by decide +kernel) (by omega) (blk_get (j := 0) rfl) (Nat.le_of_ble_eq_true rfl) (fun _ => rfl) (fun _ => rfl) ?_
  rw [blk_set (j := 0) (by rfl) (Nat.le_of_ble_eq_true rfl)]
  show AW l yy_X2_init _ _ 2 16 20 [some (.ref b)] [] (b + 3) (blk h b [.inr (2, [.ref (b + 1), .ref (b + 2), .null, .null, .null, .null, .null, .null, .int 0, .int 0, .int 0, .int 0, .int 0, .int 0, .int 0]), .inl (.int, 8, .inl (fun _ => 0)), .inl (.int, 8, .inl (fun _ => 0))])
  refine AW.run [(.aload_n 0, 0), (.bipush 8, 8)] (pc' := 23) (ls' := [some (.ref b)]) (st' := [.int 8, .ref b]) (by decide +kernel) rfl ?_
  refine AW.newa (atype := .int) (ty := .int) (N' := 8) (c0 := .inl (fun _ => 0)) 0 (fun _ => rfl) (fun _ e => by cases e) (tb_in 73 (by decide +kernel) (by decide +kernel)) rfl (fun _ => rfl) (fun _ => rfl) (by decide +kernel) (by decide +kernel) (Nat.le_of_ble_eq_true rfl) (by decide +kernel) (by show _ < 1000000; omega) (blk_wf wh rfl (List.forall_mem_cons.mpr ⟨(wfo (wfs_r (by omega) (wfs_r (by omega) (wfs_n (wfs_n (wfs_n (wfs_n (wfs_n (wfs_n (wfs_i (wfs_i (wfs_i (wfs_i (wfs_i (wfs_i (wfs_i wfs_nil)))))))))))))))), (List.forall_mem_cons.mpr ⟨wfi, (List.forall_mem_cons.mpr ⟨wfi, (fun _ h => absurd h List.not_mem_nil)⟩)⟩)⟩)) (wfl_r (by omega) wfl_nil) (wfs_r (by omega) wfs_nil) (Nat.le_of_ble_eq_true rfl) (Nat.le_of_ble_eq_true rfl) ?_
  rw [blk_push (by rfl)]
  show AW l yy_X2_init _ _ 3 24 25 [some (.ref b)] [.ref (b + 3), .ref b] (b + 4) (blk h b [.inr (2, [.ref (b + 1), .ref (b + 2), .null, .null, .null, .null, .null, .null, .int 0, .int 0, .int 0, .int 0, .int 0, .int 0, .int 0]), .inl (.int, 8, .inl (fun _ => 0)), .inl (.int, 8, .inl (fun _ => 0)), .inl (.int, 8, .inl (fun _ => 0))])
  refine AW.putF ff_RX2_18 rfl (by decide +kernel) (by omega) (blk_get (j := 0) rfl) (Nat.le_of_ble_eq_true rfl) (fun _ => rfl) (fun _ => rfl) ?_
  rw [blk_set (j := 0) (by rfl) (Nat.le_of_ble_eq_true rfl)]
  show AW l yy_X2_init _ _ 3 24 28 [some (.ref b)] [] (b + 4) (blk h b [.inr (2, [.ref (b + 1), .ref (b + 2), .ref (b + 3), .null, .null, .null, .null, .null, .int 0, .int 0, .int 0, .int 0, .int 0, .int 0, .int 0]), .inl (.int, 8, .inl (fun _ => 0)), .inl (.int, 8, .inl (fun _ => 0)), .inl (.int, 8, .inl (fun _ => 0))])
  refine AW.run [(.aload_n 0, 0), (.bipush 8, 8)] (pc' := 31) (ls' := [some (.ref b)]) (st' := [.int 8, .ref b]) (by decide +kernel) rfl ?_
  refine AW.newa (atype := .int) (ty := .int) (N' := 8) (c0 := .inl (fun _ => 0)) 0 (fun _ => rfl) (fun _ e => by cases e) (tb_in 73 (by decide +kernel) (by decide +kernel)) rfl (fun _ => rfl) (fun _ => rfl) (by decide +kernel) (by decide +kernel) (Nat.le_of_ble_eq_true rfl) (by decide +kernel) (by show _ < 1000000; omega) (blk_wf wh rfl (List.forall_mem_cons.mpr ⟨(wfo (wfs_r (by omega) (wfs_r (by omega) (wfs_r (by omega) (wfs_n (wfs_n (wfs_n (wfs_n (wfs_n (wfs_i (wfs_i (wfs_i (wfs_i (wfs_i (wfs_i (wfs_i wfs_nil)))))))))))))))), (List.forall_mem_cons.mpr ⟨wfi, (List.forall_mem_cons.mpr ⟨wfi, (List.forall_mem_cons.mpr ⟨wfi, (fun _ h => absurd h List.not_mem_nil)⟩)⟩)⟩)⟩)) (wfl_r (by omega) wfl_nil) (wfs_r (by omega) wfs_nil) (Nat.le_of_ble_eq_true rfl) (Nat.le_of_ble_eq_true rfl) ?_
  rw [blk_push (by rfl)]
  show AW l yy_X2_init _ _ 4 32 33 [some (.ref b)] [.ref (b + 4), .ref b] (b + 5) (blk h b [.inr (2, [.ref (b + 1), .ref (b + 2), .ref (b + 3), .null, .null, .null, .null, .null, .int 0, .int 0, .int 0, .int 0, .int 0, .int 0, .int 0]), .inl (.int, 8, .inl (fun _ => 0)), .inl (.int, 8, .inl (fun _ => 0)), .inl (.int, 8, .inl (fun _ => 0)), .inl (.int, 8, .inl (fun _ => 0))])
  refine AW.putF ff_RX2_21 rfl (by decide +kernel) (by omega) (blk_get (j := 0) rfl) (Nat.le_of_ble_eq_true rfl) (fun _ => rfl) (fun _ => rfl) ?_
  rw [blk_set (j := 0) (by rfl) (Nat.le_of_ble_eq_true rfl)]
  show AW l yy_X2_init _ _ 4 32 36 [some (.ref b)] [] (b + 5) (blk h b [.inr (2, [.ref (b + 1), .ref (b + 2), .ref (b + 3), .ref (b + 4), .null, .null, .null, .null, .int 0, .int 0, .int 0, .int 0, .int 0, .int 0, .int 0]), .inl (.int, 8, .inl (fun _ => 0)), .inl (.int, 8, .inl (fun _ => 0)), .inl (.int, 8, .inl (fun _ => 0)), .inl (.int, 8, .inl (fun _ => 0))])
  refine AW.run [(.aload_n 0, 0), (.bipush 64, 64)] (pc' := 39) (ls' := [some (.ref b)]) (st' := [.int 64, .ref b]) (by decide +kernel) rfl ?_
  refine AW.newa (atype := .int) (ty := .int) (N' := 64) (c0 := .inl (fun _ => 0)) 0 (fun _ => rfl) (fun _ e => by cases e) (tb_in 73 (by decide +kernel) (by decide +kernel)) rfl (fun _ => rfl) (fun _ => rfl) (by decide +kernel) (by decide +kernel) (Nat.le_of_ble_eq_true rfl) (by decide +kernel) (by show _ < 1000000; omega) (blk_wf wh rfl (List.forall_mem_cons.mpr ⟨(wfo (wfs_r (by omega) (wfs_r (by omega) (wfs_r (by omega) (wfs_r (by omega) (wfs_n (wfs_n (wfs_n (wfs_n (wfs_i (wfs_i (wfs_i (wfs_i (wfs_i (wfs_i (wfs_i wfs_nil)))))))))))))))), (List.forall_mem_cons.mpr ⟨wfi, (List.forall_mem_cons.mpr ⟨wfi, (List.forall_mem_cons.mpr ⟨wfi, (List.forall_mem_cons.mpr ⟨wfi, (fun _ h => absurd h List.not_mem_nil)⟩)⟩)⟩)⟩)⟩)) (wfl_r (by omega) wfl_nil) (wfs_r (by omega) wfs_nil) (Nat.le_of_ble_eq_true rfl) (Nat.le_of_ble_eq_true rfl) ?_
  rw [blk_push (by rfl)]
  show AW l yy_X2_init _ _ 5 96 41 [some (.ref b)] [.ref (b + 5), .ref b] (b + 6) (blk h b [.inr (2, [.ref (b + 1), .ref (b + 2), .ref (b + 3), .ref (b + 4), .null, .null, .null, .null, .int 0, .int 0, .int 0, .int 0, .int 0, .int 0, .int 0]), .inl (.int, 8, .inl (fun _ => 0)), .inl (.int, 8, .inl (fun _ => 0)), .inl (.int, 8, .inl (fun _ => 0)), .inl (.int, 8, .inl (fun _ => 0)), .inl (.int, 64, .inl (fun _ => 0))])
  refine AW.putF ff_RX2_24 rfl (by decide +kernel) (by omega) (blk_get (j := 0) rfl) (Nat.le_of_ble_eq_true rfl) (fun _ => rfl) (fun _ => rfl) ?_
  rw [blk_set (j := 0) (by rfl) (Nat.le_of_ble_eq_true rfl)]
  show AW l yy_X2_init _ _ 5 96 44 [some (.ref b)] [] (b + 6) (blk h b [.inr (2, [.ref (b + 1), .ref (b + 2), .ref (b + 3), .ref (b + 4), .ref (b + 5), .null, .null, .null, .int 0, .int 0, .int 0, .int 0, .int 0, .int 0, .int 0]), .inl (.int, 8, .inl (fun _ => 0)), .inl (.int, 8, .inl (fun _ => 0)), .inl (.int, 8, .inl (fun _ => 0)), .inl (.int, 8, .inl (fun _ => 0)), .inl (.int, 64, .inl (fun _ => 0))])
  refine AW.run [(.aload_n 0, 0)] (pc' := 45) (ls' := [some (.ref b)]) (st' := [.ref b]) (by decide +kernel) rfl ?_
  refine AW.new (idx := 27) (C := RX6) (T := TX6) (ty := tyX6) (N := 4) (ci := 5) (fs := [.null, .int 0, .int 0, .int 0]) (tb_in 115 (by decide +kernel) (by decide +kernel)) (tb_in 116 (by decide +kernel) (by decide +kernel)) (tb_in 5 (by decide +kernel) (by decide +kernel)) ck_5 tyX6_ok rfl (lt_s (lt_s (lt_s (lt_s lt_0 rfl) rfl) rfl) rfl) (fun _ => rfl) (by decide +kernel) (by show _ < 1000000; omega) (blk_wf wh rfl (List.forall_mem_cons.mpr ⟨(wfo (wfs_r (by omega) (wfs_r (by omega) (wfs_r (by omega) (wfs_r (by omega) (wfs_r (by omega) (wfs_n (wfs_n (wfs_n (wfs_i (wfs_i (wfs_i (wfs_i (wfs_i (wfs_i (wfs_i wfs_nil)))))))))))))))), (List.forall_mem_cons.mpr ⟨wfi, (List.forall_mem_cons.mpr ⟨wfi, (List.forall_mem_cons.mpr ⟨wfi, (List.forall_mem_cons.mpr ⟨wfi, (List.forall_mem_cons.mpr ⟨wfi, (fun _ h => absurd h List.not_mem_nil)⟩)⟩)⟩)⟩)⟩)⟩)) (wfl_r (by omega) wfl_nil) (wfs_r (by omega) wfs_nil) (Nat.le_of_ble_eq_true rfl) (Nat.le_of_ble_eq_true rfl) ?_
  rw [blk_push (by rfl)]
  show AW l yy_X2_init _ _ 6 100 48 [some (.ref b)] [.ref (b + 6), .ref b] (b + 7) (blk h b [.inr (2, [.ref (b + 1), .ref (b + 2), .ref (b + 3), .ref (b + 4), .ref (b + 5), .null, .null, .null, .int 0, .int 0, .int 0, .int 0, .int 0, .int 0, .int 0]), .inl (.int, 8, .inl (fun _ => 0)), .inl (.int, 8, .inl (fun _ => 0)), .inl (.int, 8, .inl (fun _ => 0)), .inl (.int, 8, .inl (fun _ => 0)), .inl (.int, 64, .inl (fun _ => 0)), .inr (5, [.null, .int 0, .int 0, .int 0])])
  refine AW.run [(.dup, 0), (.bipush 40, 40), (.bipush 7, 7)] (pc' := 53) (ls' := [some (.ref b)]) (st' := [.int 7, .int 40, .ref (b + 6), .ref (b + 6), .ref b]) (by decide +kernel) rfl ?_
  rw [show blk h b [.inr (2, [.ref (b + 1), .ref (b + 2), .ref (b + 3), .ref (b + 4), .ref (b + 5), .null, .null, .null, .int 0, .int 0, .int 0, .int 0, .int 0, .int 0, .int 0]), .inl (.int, 8, .inl (fun _ => 0)), .inl (.int, 8, .inl (fun _ => 0)), .inl (.int, 8, .inl (fun _ => 0)), .inl (.int, 8, .inl (fun _ => 0)), .inl (.int, 64, .inl (fun _ => 0)), .inr (5, [.null, .int 0, .int 0, .int 0])] = blk (blk h b [.inr (2, [.ref (b + 1), .ref (b + 2), .ref (b + 3), .ref (b + 4), .ref (b + 5), .null, .null, .null, .int 0, .int 0, .int 0, .int 0, .int 0, .int 0, .int 0]), .inl (.int, 8, .inl (fun _ => 0)), .inl (.int, 8, .inl (fun _ => 0)), .inl (.int, 8, .inl (fun _ => 0)), .inl (.int, 8, .inl (fun _ => 0)), .inl (.int, 64, .inl (fun _ => 0))]) (b + 6) [.inr (5, [.null, .int 0, .int 0, .int 0])] from blk_app (cs := [.inr (2, [.ref (b + 1), .ref (b + 2), .ref (b + 3), .ref (b + 4), .ref (b + 5), .null, .null, .null, .int 0, .int 0, .int 0, .int 0, .int 0, .int 0, .int 0]), .inl (.int, 8, .inl (fun _ => 0)), .inl (.int, 8, .inl (fun _ => 0)), .inl (.int, 8, .inl (fun _ => 0)), .inl (.int, 8, .inl (fun _ => 0)), .inl (.int, 64, .inl (fun _ => 0))]) (ds := [.inr (5, [.null, .int 0, .int 0, .int 0])])]
  refine AW.callI (As := [.int 40, .int 7]) (st := [.ref (b + 6), .ref b]) li_RX2_29 (by decide +kernel) (kI_X6_init_40_7 (blk h b [.inr (2, [.ref (b + 1), .ref (b + 2), .ref (b + 3), .ref (b + 4), .ref (b + 5), .null, .null, .null, .int 0, .int 0, .int 0, .int 0, .int 0, .int 0, .int 0]), .inl (.int, 8, .inl (fun _ => 0)), .inl (.int, 8, .inl (fun _ => 0)), .inl (.int, 8, .inl (fun _ => 0)), .inl (.int, 8, .inl (fun _ => 0)), .inl (.int, 64, .inl (fun _ => 0))]) (b + 6) (by omega) (blk_wf (m := b + 6) wh rfl (List.forall_mem_cons.mpr ⟨(wfo (wfs_r (by omega) (wfs_r (by omega) (wfs_r (by omega) (wfs_r (by omega) (wfs_r (by omega) (wfs_n (wfs_n (wfs_n (wfs_i (wfs_i (wfs_i (wfs_i (wfs_i (wfs_i (wfs_i wfs_nil)))))))))))))))), (List.forall_mem_cons.mpr ⟨wfi, (List.forall_mem_cons.mpr ⟨wfi, (List.forall_mem_cons.mpr ⟨wfi, (List.forall_mem_cons.mpr ⟨wfi, (List.forall_mem_cons.mpr ⟨wfi, (fun _ h => absurd h List.not_mem_nil)⟩)⟩)⟩)⟩)⟩)⟩))) (Nat.le_of_ble_eq_true rfl) (Nat.le_of_ble_eq_true rfl) rfl (Nat.le_of_ble_eq_true rfl) rfl (Nat.le_of_ble_eq_true rfl) (Nat.le_of_ble_eq_true rfl) (wfl_r (by omega) wfl_nil) (wfs_r (by omega) (wfs_r (by omega) wfs_nil)) (fun r n' h' q => q.1) (fun n' h' _ _ q => ?_)
  obtain ⟨-, q2, q3⟩ := q
  subst q2
  subst q3
  rw [show blk (blk h b [.inr (2, [.ref (b + 1), .ref (b + 2), .ref (b + 3), .ref (b + 4), .ref (b + 5), .null, .null, .null, .int 0, .int 0, .int 0, .int 0, .int 0, .int 0, .int 0]), .inl (.int, 8, .inl (fun _ => 0)), .inl (.int, 8, .inl (fun _ => 0)), .inl (.int, 8, .inl (fun _ => 0)), .inl (.int, 8, .inl (fun _ => 0)), .inl (.int, 64, .inl (fun _ => 0))]) (b + 6) [.inr (5, [.ref (b + 6 + 1), .int 7, .int 40, .int 0]), .inl (.int, 280, .inl (fun _ => 0))] = blk h b [.inr (2, [.ref (b + 1), .ref (b + 2), .ref (b + 3), .ref (b + 4), .ref (b + 5), .null, .null, .null, .int 0, .int 0, .int 0, .int 0, .int 0, .int 0, .int 0]), .inl (.int, 8, .inl (fun _ => 0)), .inl (.int, 8, .inl (fun _ => 0)), .inl (.int, 8, .inl (fun _ => 0)), .inl (.int, 8, .inl (fun _ => 0)), .inl (.int, 64, .inl (fun _ => 0)), .inr (5, [.ref (b + 7), .int 7, .int 40, .int 0]), .inl (.int, 280, .inl (fun _ => 0))] from (blk_app (cs := [.inr (2, [.ref (b + 1), .ref (b + 2), .ref (b + 3), .ref (b + 4), .ref (b + 5), .null, .null, .null, .int 0, .int 0, .int 0, .int 0, .int 0, .int 0, .int 0]), .inl (.int, 8, .inl (fun _ => 0)), .inl (.int, 8, .inl (fun _ => 0)), .inl (.int, 8, .inl (fun _ => 0)), .inl (.int, 8, .inl (fun _ => 0)), .inl (.int, 64, .inl (fun _ => 0))]) (ds := [.inr (5, [.ref (b + 7), .int 7, .int 40, .int 0]), .inl (.int, 280, .inl (fun _ => 0))])).symm]
  show AW l yy_X2_init _ _ 7 380 56 [some (.ref b)] [.ref (b + 6), .ref b] (b + 8) _
  refine AW.putF ff_RX2_32 rfl (by decide +kernel) (by omega) (blk_get (j := 0) rfl) (Nat.le_of_ble_eq_true rfl) (fun _ => rfl) (fun _ => rfl) ?_
  rw [blk_set (j := 0) (by rfl) (Nat.le_of_ble_eq_true rfl)]
  show AW l yy_X2_init _ _ 7 380 59 [some (.ref b)] [] (b + 8) (blk h b [.inr (2, [.ref (b + 1), .ref (b + 2), .ref (b + 3), .ref (b + 4), .ref (b + 5), .ref (b + 6), .null, .null, .int 0, .int 0, .int 0, .int 0, .int 0, .int 0, .int 0]), .inl (.int, 8, .inl (fun _ => 0)), .inl (.int, 8, .inl (fun _ => 0)), .inl (.int, 8, .inl (fun _ => 0)), .inl (.int, 8, .inl (fun _ => 0)), .inl (.int, 64, .inl (fun _ => 0)), .inr (5, [.ref (b + 7), .int 7, .int 40, .int 0]), .inl (.int, 280, .inl (fun _ => 0))])
  refine AW.run [(.aload_n 0, 0)] (pc' := 60) (ls' := [some (.ref b)]) (st' := [.ref b]) (by decide +kernel) rfl ?_
  refine AW.new (idx := 27) (C := RX6) (T := TX6) (ty := tyX6) (N := 4) (ci := 5) (fs := [.null, .int 0, .int 0, .int 0]) (tb_in 115 (by decide +kernel) (by decide +kernel)) (tb_in 116 (by decide +kernel) (by decide +kernel)) (tb_in 5 (by decide +kernel) (by decide +kernel)) ck_5 tyX6_ok rfl (lt_s (lt_s (lt_s (lt_s lt_0 rfl) rfl) rfl) rfl) (fun _ => rfl) (by decide +kernel) (by show _ < 1000000; omega) (blk_wf wh rfl (List.forall_mem_cons.mpr ⟨(wfo (wfs_r (by omega) (wfs_r (by omega) (wfs_r (by omega) (wfs_r (by omega) (wfs_r (by omega) (wfs_r (by omega) (wfs_n (wfs_n (wfs_i (wfs_i (wfs_i (wfs_i (wfs_i (wfs_i (wfs_i wfs_nil)))))))))))))))), (List.forall_mem_cons.mpr ⟨wfi, (List.forall_mem_cons.mpr ⟨wfi, (List.forall_mem_cons.mpr ⟨wfi, (List.forall_mem_cons.mpr ⟨wfi, (List.forall_mem_cons.mpr ⟨wfi, (List.forall_mem_cons.mpr ⟨(wfo (wfs_r (by omega) (wfs_i (wfs_i (wfs_i wfs_nil))))), (List.forall_mem_cons.mpr ⟨wfi, (fun _ h => absurd h List.not_mem_nil)⟩)⟩)⟩)⟩)⟩)⟩)⟩)⟩)) (wfl_r (by omega) wfl_nil) (wfs_r (by omega) wfs_nil) (Nat.le_of_ble_eq_true rfl) (Nat.le_of_ble_eq_true rfl) ?_
  rw [blk_push (by rfl)]
  show AW l yy_X2_init _ _ 8 384 63 [some (.ref b)] [.ref (b + 8), .ref b] (b + 9) (blk h b [.inr (2, [.ref (b + 1), .ref (b + 2), .ref (b + 3), .ref (b + 4), .ref (b + 5), .ref (b + 6), .null, .null, .int 0, .int 0, .int 0, .int 0, .int 0, .int 0, .int 0]), .inl (.int, 8, .inl (fun _ => 0)), .inl (.int, 8, .inl (fun _ => 0)), .inl (.int, 8, .inl (fun _ => 0)), .inl (.int, 8, .inl (fun _ => 0)), .inl (.int, 64, .inl (fun _ => 0)), .inr (5, [.ref (b + 7), .int 7, .int 40, .int 0]), .inl (.int, 280, .inl (fun _ => 0)), .inr (5, [.null, .int 0, .int 0, .int 0])])
  refine AW.run [(.dup, 0), (.bipush 10, 10), (.iconst 4, 4)] (pc' := 67) (ls' := [some (.ref b)]) (st' := [.int 4, .int 10, .ref (b + 8), .ref (b + 8), .ref b]) (by decide +kernel) rfl ?_
  rw [show blk h b [.inr (2, [.ref (b + 1), .ref (b + 2), .ref (b + 3), .ref (b + 4), .ref (b + 5), .ref (b + 6), .null, .null, .int 0, .int 0, .int 0, .int 0, .int 0, .int 0, .int 0]), .inl (.int, 8, .inl (fun _ => 0)), .inl (.int, 8, .inl (fun _ => 0)), .inl (.int, 8, .inl (fun _ => 0)), .inl (.int, 8, .inl (fun _ => 0)), .inl (.int, 64, .inl (fun _ => 0)), .inr (5, [.ref (b + 7), .int 7, .int 40, .int 0]), .inl (.int, 280, .inl (fun _ => 0)), .inr (5, [.null, .int 0, .int 0, .int 0])] = blk (blk h b [.inr (2, [.ref (b + 1), .ref (b + 2), .ref (b + 3), .ref (b + 4), .ref (b + 5), .ref (b + 6), .null, .null, .int 0, .int 0, .int 0, .int 0, .int 0, .int 0, .int 0]), .inl (.int, 8, .inl (fun _ => 0)), .inl (.int, 8, .inl (fun _ => 0)), .inl (.int, 8, .inl (fun _ => 0)), .inl (.int, 8, .inl (fun _ => 0)), .inl (.int, 64, .inl (fun _ => 0)), .inr (5, [.ref (b + 7), .int 7, .int 40, .int 0]), .inl (.int, 280, .inl (fun _ => 0))]) (b + 8) [.inr (5, [.null, .int 0, .int 0, .int 0])] from blk_app (cs := [.inr (2, [.ref (b + 1), .ref (b + 2), .ref (b + 3), .ref (b + 4), .ref (b + 5), .ref (b + 6), .null, .null, .int 0, .int 0, .int 0, .int 0, .int 0, .int 0, .int 0]), .inl (.int, 8, .inl (fun _ => 0)), .inl (.int, 8, .inl (fun _ => 0)), .inl (.int, 8, .inl (fun _ => 0)), .inl (.int, 8, .inl (fun _ => 0)), .inl (.int, 64, .inl (fun _ => 0)), .inr (5, [.ref (b + 7), .int 7, .int 40, .int 0]), .inl (.int, 280, .inl (fun _ => 0))]) (ds := [.inr (5, [.null, .int 0, .int 0, .int 0])])]
  refine AW.callI (As := [.int 10, .int 4]) (st := [.ref (b + 8), .ref b]) li_RX2_29 (by decide +kernel) (kI_X6_init_10_4 (blk h b [.inr (2, [.ref (b + 1), .ref (b + 2), .ref (b + 3), .ref (b + 4), .ref (b + 5), .ref (b + 6), .null, .null, .int 0, .int 0, .int 0, .int 0, .int 0, .int 0, .int 0]), .inl (.int, 8, .inl (fun _ => 0)), .inl (.int, 8, .inl (fun _ => 0)), .inl (.int, 8, .inl (fun _ => 0)), .inl (.int, 8, .inl (fun _ => 0)), .inl (.int, 64, .inl (fun _ => 0)), .inr (5, [.ref (b + 7), .int 7, .int 40, .int 0]), .inl (.int, 280, .inl (fun _ => 0))]) (b + 8) (by omega) (blk_wf (m := b + 8) wh rfl (List.forall_mem_cons.mpr ⟨(wfo (wfs_r (by omega) (wfs_r (by omega) (wfs_r (by omega) (wfs_r (by omega) (wfs_r (by omega) (wfs_r (by omega) (wfs_n (wfs_n (wfs_i (wfs_i (wfs_i (wfs_i (wfs_i (wfs_i (wfs_i wfs_nil)))))))))))))))), (List.forall_mem_cons.mpr ⟨wfi, (List.forall_mem_cons.mpr ⟨wfi, (List.forall_mem_cons.mpr ⟨wfi, (List.forall_mem_cons.mpr ⟨wfi, (List.forall_mem_cons.mpr ⟨wfi, (List.forall_mem_cons.mpr ⟨(wfo (wfs_r (by omega) (wfs_i (wfs_i (wfs_i wfs_nil))))), (List.forall_mem_cons.mpr ⟨wfi, (fun _ h => absurd h List.not_mem_nil)⟩)⟩)⟩)⟩)⟩)⟩)⟩)⟩))) (Nat.le_of_ble_eq_true rfl) (Nat.le_of_ble_eq_true rfl) rfl (Nat.le_of_ble_eq_true rfl) rfl (Nat.le_of_ble_eq_true rfl) (Nat.le_of_ble_eq_true rfl) (wfl_r (by omega) wfl_nil) (wfs_r (by omega) (wfs_r (by omega) wfs_nil)) (fun r n' h' q => q.1) (fun n' h' _ _ q => ?_)
  obtain ⟨-, q2, q3⟩ := q
  subst q2
  subst q3
  rw [show blk (blk h b [.inr (2, [.ref (b + 1), .ref (b + 2), .ref (b + 3), .ref (b + 4), .ref (b + 5), .ref (b + 6), .null, .null, .int 0, .int 0, .int 0, .int 0, .int 0, .int 0, .int 0]), .inl (.int, 8, .inl (fun _ => 0)), .inl (.int, 8, .inl (fun _ => 0)), .inl (.int, 8, .inl (fun _ => 0)), .inl (.int, 8, .inl (fun _ => 0)), .inl (.int, 64, .inl (fun _ => 0)), .inr (5, [.ref (b + 7), .int 7, .int 40, .int 0]), .inl (.int, 280, .inl (fun _ => 0))]) (b + 8) [.inr (5, [.ref (b + 8 + 1), .int 4, .int 10, .int 0]), .inl (.int, 40, .inl (fun _ => 0))] = blk h b [.inr (2, [.ref (b + 1), .ref (b + 2), .ref (b + 3), .ref (b + 4), .ref (b + 5), .ref (b + 6), .null, .null, .int 0, .int 0, .int 0, .int 0, .int 0, .int 0, .int 0]), .inl (.int, 8, .inl (fun _ => 0)), .inl (.int, 8, .inl (fun _ => 0)), .inl (.int, 8, .inl (fun _ => 0)), .inl (.int, 8, .inl (fun _ => 0)), .inl (.int, 64, .inl (fun _ => 0)), .inr (5, [.ref (b + 7), .int 7, .int 40, .int 0]), .inl (.int, 280, .inl (fun _ => 0)), .inr (5, [.ref (b + 9), .int 4, .int 10, .int 0]), .inl (.int, 40, .inl (fun _ => 0))] from (blk_app (cs := [.inr (2, [.ref (b + 1), .ref (b + 2), .ref (b + 3), .ref (b + 4), .ref (b + 5), .ref (b + 6), .null, .null, .int 0, .int 0, .int 0, .int 0, .int 0, .int 0, .int 0]), .inl (.int, 8, .inl (fun _ => 0)), .inl (.int, 8, .inl (fun _ => 0)), .inl (.int, 8, .inl (fun _ => 0)), .inl (.int, 8, .inl (fun _ => 0)), .inl (.int, 64, .inl (fun _ => 0)), .inr (5, [.ref (b + 7), .int 7, .int 40, .int 0]), .inl (.int, 280, .inl (fun _ => 0))]) (ds := [.inr (5, [.ref (b + 9), .int 4, .int 10, .int 0]), .inl (.int, 40, .inl (fun _ => 0))])).symm]
  show AW l yy_X2_init _ _ 9 424 70 [some (.ref b)] [.ref (b + 8), .ref b] (b + 10) _
  refine AW.putF ff_RX2_36 rfl (by decide +kernel) (by omega) (blk_get (j := 0) rfl) (Nat.le_of_ble_eq_true rfl) (fun _ => rfl) (fun _ => rfl) ?_
  rw [blk_set (j := 0) (by rfl) (Nat.le_of_ble_eq_true rfl)]
  show AW l yy_X2_init _ _ 9 424 73 [some (.ref b)] [] (b + 10) (blk h b [.inr (2, [.ref (b + 1), .ref (b + 2), .ref (b + 3), .ref (b + 4), .ref (b + 5), .ref (b + 6), .ref (b + 8), .null, .int 0, .int 0, .int 0, .int 0, .int 0, .int 0, .int 0]), .inl (.int, 8, .inl (fun _ => 0)), .inl (.int, 8, .inl (fun _ => 0)), .inl (.int, 8, .inl (fun _ => 0)), .inl (.int, 8, .inl (fun _ => 0)), .inl (.int, 64, .inl (fun _ => 0)), .inr (5, [.ref (b + 7), .int 7, .int 40, .int 0]), .inl (.int, 280, .inl (fun _ => 0)), .inr (5, [.ref (b + 9), .int 4, .int 10, .int 0]), .inl (.int, 40, .inl (fun _ => 0))])
  refine AW.run [(.aload_n 0, 0)] (pc' := 74) (ls' := [some (.ref b)]) (st' := [.ref b]) (by decide +kernel) rfl ?_
  refine AW.new (idx := 27) (C := RX6) (T := TX6) (ty := tyX6) (N := 4) (ci := 5) (fs := [.null, .int 0, .int 0, .int 0]) (tb_in 115 (by decide +kernel) (by decide +kernel)) (tb_in 116 (by decide +kernel) (by decide +kernel)) (tb_in 5 (by decide +kernel) (by decide +kernel)) ck_5 tyX6_ok rfl (lt_s (lt_s (lt_s (lt_s lt_0 rfl) rfl) rfl) rfl) (fun _ => rfl) (by decide +kernel) (by show _ < 1000000; omega) (blk_wf wh rfl (List.forall_mem_cons.mpr ⟨(wfo (wfs_r (by omega) (wfs_r (by omega) (wfs_r (by omega) (wfs_r (by omega) (wfs_r (by omega) (wfs_r (by omega) (wfs_r (by omega) (wfs_n (wfs_i (wfs_i (wfs_i (wfs_i (wfs_i (wfs_i (wfs_i wfs_nil)))))))))))))))), (List.forall_mem_cons.mpr ⟨wfi, (List.forall_mem_cons.mpr ⟨wfi, (List.forall_mem_cons.mpr ⟨wfi, (List.forall_mem_cons.mpr ⟨wfi, (List.forall_mem_cons.mpr ⟨wfi, (List.forall_mem_cons.mpr ⟨(wfo (wfs_r (by omega) (wfs_i (wfs_i (wfs_i wfs_nil))))), (List.forall_mem_cons.mpr ⟨wfi, (List.forall_mem_cons.mpr ⟨(wfo (wfs_r (by omega) (wfs_i (wfs_i (wfs_i wfs_nil))))), (List.forall_mem_cons.mpr ⟨wfi, (fun _ h => absurd h List.not_mem_nil)⟩)⟩)⟩)⟩)⟩)⟩)⟩)⟩)⟩)⟩)) (wfl_r (by omega) wfl_nil) (wfs_r (by omega) wfs_nil) (Nat.le_of_ble_eq_true rfl) (Nat.le_of_ble_eq_true rfl) ?_
  rw [blk_push (by rfl)]
  show AW l yy_X2_init _ _ 10 428 77 [some (.ref b)] [.ref (b + 10), .ref b] (b + 11) (blk h b [.inr (2, [.ref (b + 1), .ref (b + 2), .ref (b + 3), .ref (b + 4), .ref (b + 5), .ref (b + 6), .ref (b + 8), .null, .int 0, .int 0, .int 0, .int 0, .int 0, .int 0, .int 0]), .inl (.int, 8, .inl (fun _ => 0)), .inl (.int, 8, .inl (fun _ => 0)), .inl (.int, 8, .inl (fun _ => 0)), .inl (.int, 8, .inl (fun _ => 0)), .inl (.int, 64, .inl (fun _ => 0)), .inr (5, [.ref (b + 7), .int 7, .int 40, .int 0]), .inl (.int, 280, .inl (fun _ => 0)), .inr (5, [.ref (b + 9), .int 4, .int 10, .int 0]), .inl (.int, 40, .inl (fun _ => 0)), .inr (5, [.null, .int 0, .int 0, .int 0])])
  refine AW.run [(.dup, 0), (.bipush 8, 8), (.iconst 2, 2)] (pc' := 81) (ls' := [some (.ref b)]) (st' := [.int 2, .int 8, .ref (b + 10), .ref (b + 10), .ref b]) (by decide +kernel) rfl ?_
  rw [show blk h b [.inr (2, [.ref (b + 1), .ref (b + 2), .ref (b + 3), .ref (b + 4), .ref (b + 5), .ref (b + 6), .ref (b + 8), .null, .int 0, .int 0, .int 0, .int 0, .int 0, .int 0, .int 0]), .inl (.int, 8, .inl (fun _ => 0)), .inl (.int, 8, .inl (fun _ => 0)), .inl (.int, 8, .inl (fun _ => 0)), .inl (.int, 8, .inl (fun _ => 0)), .inl (.int, 64, .inl (fun _ => 0)), .inr (5, [.ref (b + 7), .int 7, .int 40, .int 0]), .inl (.int, 280, .inl (fun _ => 0)), .inr (5, [.ref (b + 9), .int 4, .int 10, .int 0]), .inl (.int, 40, .inl (fun _ => 0)), .inr (5, [.null, .int 0, .int 0, .int 0])] = blk (blk h b [.inr (2, [.ref (b + 1), .ref (b + 2), .ref (b + 3), .ref (b + 4), .ref (b + 5), .ref (b + 6), .ref (b + 8), .null, .int 0, .int 0, .int 0, .int 0, .int 0, .int 0, .int 0]), .inl (.int, 8, .inl (fun _ => 0)), .inl (.int, 8, .inl (fun _ => 0)), .inl (.int, 8, .inl (fun _ => 0)), .inl (.int, 8, .inl (fun _ => 0)), .inl (.int, 64, .inl (fun _ => 0)), .inr (5, [.ref (b + 7), .int 7, .int 40, .int 0]), .inl (.int, 280, .inl (fun _ => 0)), .inr (5, [.ref (b + 9), .int 4, .int 10, .int 0]), .inl (.int, 40, .inl (fun _ => 0))]) (b + 10) [.inr (5, [.null, .int 0, .int 0, .int 0])] from blk_app (cs := [.inr (2, [.ref (b + 1), .ref (b + 2), .ref (b + 3), .ref (b + 4), .ref (b + 5), .ref (b + 6), .ref (b + 8), .null, .int 0, .int 0, .int 0, .int 0, .int 0, .int 0, .int 0]), .inl (.int, 8, .inl (fun _ => 0)), .inl (.int, 8, .inl (fun _ => 0)), .inl (.int, 8, .inl (fun _ => 0)), .inl (.int, 8, .inl (fun _ => 0)), .inl (.int, 64, .inl (fun _ => 0)), .inr (5, [.ref (b + 7), .int 7, .int 40, .int 0]), .inl (.int, 280, .inl (fun _ => 0)), .inr (5, [.ref (b + 9), .int 4, .int 10, .int 0]), .inl (.int, 40, .inl (fun _ => 0))]) (ds := [.inr (5, [.null, .int 0, .int 0, .int 0])])]
  refine AW.callI (As := [.int 8, .int 2]) (st := [.ref (b + 10), .ref b]) li_RX2_29 (by decide +kernel) (kI_X6_init_8_2 (blk h b [.inr (2, [.ref (b + 1), .ref (b + 2), .ref (b + 3), .ref (b + 4), .ref (b + 5), .ref (b + 6), .ref (b + 8), .null, .int 0, .int 0, .int 0, .int 0, .int 0, .int 0, .int 0]), .inl (.int, 8, .inl (fun _ => 0)), .inl (.int, 8, .inl (fun _ => 0)), .inl (.int, 8, .inl (fun _ => 0)), .inl (.int, 8, .inl (fun _ => 0)), .inl (.int, 64, .inl (fun _ => 0)), .inr (5, [.ref (b + 7), .int 7, .int 40, .int 0]), .inl (.int, 280, .inl (fun _ => 0)), .inr (5, [.ref (b + 9), .int 4, .int 10, .int 0]), .inl (.int, 40, .inl (fun _ => 0))]) (b + 10) (by omega) (blk_wf (m := b + 10) wh rfl (List.forall_mem_cons.mpr ⟨(wfo (wfs_r (by omega) (wfs_r (by omega) (wfs_r (by omega) (wfs_r (by omega) (wfs_r (by omega) (wfs_r (by omega) (wfs_r (by omega) (wfs_n (wfs_i (wfs_i (wfs_i (wfs_i (wfs_i (wfs_i (wfs_i wfs_nil)))))))))))))))), (List.forall_mem_cons.mpr ⟨wfi, (List.forall_mem_cons.mpr ⟨wfi, (List.forall_mem_cons.mpr ⟨wfi, (List.forall_mem_cons.mpr ⟨wfi, (List.forall_mem_cons.mpr ⟨wfi, (List.forall_mem_cons.mpr ⟨(wfo (wfs_r (by omega) (wfs_i (wfs_i (wfs_i wfs_nil))))), (List.forall_mem_cons.mpr ⟨wfi, (List.forall_mem_cons.mpr ⟨(wfo (wfs_r (by omega) (wfs_i (wfs_i (wfs_i wfs_nil))))), (List.forall_mem_cons.mpr ⟨wfi, (fun _ h => absurd h List.not_mem_nil)⟩)⟩)⟩)⟩)⟩)⟩)⟩)⟩)⟩)⟩))) (Nat.le_of_ble_eq_true rfl) (Nat.le_of_ble_eq_true rfl) rfl (Nat.le_of_ble_eq_true rfl) rfl (Nat.le_of_ble_eq_true rfl) (Nat.le_of_ble_eq_true rfl) (wfl_r (by omega) wfl_nil) (wfs_r (by omega) (wfs_r (by omega) wfs_nil)) (fun r n' h' q => q.1) (fun n' h' _ _ q => ?_)
  obtain ⟨-, q2, q3⟩ := q
  subst q2
  subst q3
  rw [show blk (blk h b [.inr (2, [.ref (b + 1), .ref (b + 2), .ref (b + 3), .ref (b + 4), .ref (b + 5), .ref (b + 6), .ref (b + 8), .null, .int 0, .int 0, .int 0, .int 0, .int 0, .int 0, .int 0]), .inl (.int, 8, .inl (fun _ => 0)), .inl (.int, 8, .inl (fun _ => 0)), .inl (.int, 8, .inl (fun _ => 0)), .inl (.int, 8, .inl (fun _ => 0)), .inl (.int, 64, .inl (fun _ => 0)), .inr (5, [.ref (b + 7), .int 7, .int 40, .int 0]), .inl (.int, 280, .inl (fun _ => 0)), .inr (5, [.ref (b + 9), .int 4, .int 10, .int 0]), .inl (.int, 40, .inl (fun _ => 0))]) (b + 10) [.inr (5, [.ref (b + 10 + 1), .int 2, .int 8, .int 0]), .inl (.int, 16, .inl (fun _ => 0))] = blk h b [.inr (2, [.ref (b + 1), .ref (b + 2), .ref (b + 3), .ref (b + 4), .ref (b + 5), .ref (b + 6), .ref (b + 8), .null, .int 0, .int 0, .int 0, .int 0, .int 0, .int 0, .int 0]), .inl (.int, 8, .inl (fun _ => 0)), .inl (.int, 8, .inl (fun _ => 0)), .inl (.int, 8, .inl (fun _ => 0)), .inl (.int, 8, .inl (fun _ => 0)), .inl (.int, 64, .inl (fun _ => 0)), .inr (5, [.ref (b + 7), .int 7, .int 40, .int 0]), .inl (.int, 280, .inl (fun _ => 0)), .inr (5, [.ref (b + 9), .int 4, .int 10, .int 0]), .inl (.int, 40, .inl (fun _ => 0)), .inr (5, [.ref (b + 11), .int 2, .int 8, .int 0]), .inl (.int, 16, .inl (fun _ => 0))] from (blk_app (cs := [.inr (2, [.ref (b + 1), .ref (b + 2), .ref (b + 3), .ref (b + 4), .ref (b + 5), .ref (b + 6), .ref (b + 8), .null, .int 0, .int 0, .int 0, .int 0, .int 0, .int 0, .int 0]), .inl (.int, 8, .inl (fun _ => 0)), .inl (.int, 8, .inl (fun _ => 0)), .inl (.int, 8, .inl (fun _ => 0)), .inl (.int, 8, .inl (fun _ => 0)), .inl (.int, 64, .inl (fun _ => 0)), .inr (5, [.ref (b + 7), .int 7, .int 40, .int 0]), .inl (.int, 280, .inl (fun _ => 0)), .inr (5, [.ref (b + 9), .int 4, .int 10, .int 0]), .inl (.int, 40, .inl (fun _ => 0))]) (ds := [.inr (5, [.ref (b + 11), .int 2, .int 8, .int 0]), .inl (.int, 16, .inl (fun _ => 0))])).symm]
  show AW l yy_X2_init _ _ 11 444 84 [some (.ref b)] [.ref (b + 10), .ref b] (b + 12) _
  refine AW.putF ff_RX2_39 rfl (by decide +kernel) (by omega) (blk_get (j := 0) rfl) (Nat.le_of_ble_eq_true rfl) (fun _ => rfl) (fun _ => rfl) ?_
  rw [blk_set (j := 0) (by rfl) (Nat.le_of_ble_eq_true rfl)]
  show AW l yy_X2_init _ _ 11 444 87 [some (.ref b)] [] (b + 12) (blk h b [.inr (2, [.ref (b + 1), .ref (b + 2), .ref (b + 3), .ref (b + 4), .ref (b + 5), .ref (b + 6), .ref (b + 8), .ref (b + 10), .int 0, .int 0, .int 0, .int 0, .int 0, .int 0, .int 0]), .inl (.int, 8, .inl (fun _ => 0)), .inl (.int, 8, .inl (fun _ => 0)), .inl (.int, 8, .inl (fun _ => 0)), .inl (.int, 8, .inl (fun _ => 0)), .inl (.int, 64, .inl (fun _ => 0)), .inr (5, [.ref (b + 7), .int 7, .int 40, .int 0]), .inl (.int, 280, .inl (fun _ => 0)), .inr (5, [.ref (b + 9), .int 4, .int 10, .int 0]), .inl (.int, 40, .inl (fun _ => 0)), .inr (5, [.ref (b + 11), .int 2, .int 8, .int 0]), .inl (.int, 16, .inl (fun _ => 0))])
  refine AW.run [(.aload_n 0, 0), (.iconst (-1), (-1))] (pc' := 89) (ls' := [some (.ref b)]) (st' := [.int (-1), .ref b]) (by decide +kernel) rfl ?_
  refine AW.putf fp_RX2_42 (by decide +kernel) (by omega) (blk_get (j := 0) rfl) (Nat.le_of_ble_eq_true rfl) (fun _ => rfl) (fun _ => rfl) ?_
  rw [blk_set (j := 0) (by rfl) (Nat.le_of_ble_eq_true rfl)]
  show AW l yy_X2_init _ _ 11 444 92 [some (.ref b)] [] (b + 12) (blk h b [.inr (2, [.ref (b + 1), .ref (b + 2), .ref (b + 3), .ref (b + 4), .ref (b + 5), .ref (b + 6), .ref (b + 8), .ref (b + 10), .int 0, .int 0, .int 0, .int 0, .int 0, .int (-1), .int 0]), .inl (.int, 8, .inl (fun _ => 0)), .inl (.int, 8, .inl (fun _ => 0)), .inl (.int, 8, .inl (fun _ => 0)), .inl (.int, 8, .inl (fun _ => 0)), .inl (.int, 64, .inl (fun _ => 0)), .inr (5, [.ref (b + 7), .int 7, .int 40, .int 0]), .inl (.int, 280, .inl (fun _ => 0)), .inr (5, [.ref (b + 9), .int 4, .int 10, .int 0]), .inl (.int, 40, .inl (fun _ => 0)), .inr (5, [.ref (b + 11), .int 2, .int 8, .int 0]), .inl (.int, 16, .inl (fun _ => 0))])
  exact AW.vret rfl (by decide +kernel) (Nat.le_refl _) (Nat.le_refl _) ⟨rfl, rfl, rfl⟩
theorem kI_X1_init {l : Launch} (h : aH) (b : Nat) (hb : b + 2 ≤ 1000000) (wh : wfH b h) : AOk l yy_X1_init (rmA 1 1 400) (fun r n' h' => r = none ∧ n' = b + 2 ∧ h' = blk h b [.inr (1, [.ref (b + 1), .int 0, .int 0]), .inl (.int, 400, .inl (fun _ => 0))]) [.ref b] (b + 1) (blk h b [.inr (1, [.null, .int 0, .int 0])]) := by
  refine AOk.of (ls := [some (.ref b)]) (by decide +kernel) (Nat.le_of_ble_eq_true rfl) rfl ?_
  refine AW.run [(.aload_n 0, 0)] (pc' := 1) (ls' := [some (.ref b)]) (st' := [.ref b]) (by decide +kernel) rfl ?_
  refine AW.objInit (idx := 1) (tb_in 226 (by decide +kernel) (by decide +kernel)) (by decide +kernel) (Nat.le_of_ble_eq_true rfl) (Nat.le_of_ble_eq_true rfl) ?_
  refine AW.run [(.aload_n 0, 0), (.sipush 400, 400)] (pc' := 8) (ls' := [some (.ref b)]) (st' := [.int 400, .ref b]) (by decide +kernel) rfl ?_
  refine AW.newa (atype := .int) (ty := .int) (N' := 400) (c0 := .inl (fun _ => 0)) 0 (fun _ => rfl) (fun _ e => by cases e) (tb_in 73 (by decide +kernel) (by decide +kernel)) rfl (fun _ => rfl) (fun _ => rfl) (by decide +kernel) (by decide +kernel) (Nat.le_of_ble_eq_true rfl) (by decide +kernel) (by show _ < 1000000; omega) (blk_wf wh rfl (List.forall_mem_cons.mpr ⟨(wfo (wfs_n (wfs_i (wfs_i wfs_nil)))), (fun _ h => absurd h List.not_mem_nil)⟩)) (wfl_r (by omega) wfl_nil) (wfs_r (by omega) wfs_nil) (Nat.le_of_ble_eq_true rfl) (Nat.le_of_ble_eq_true rfl) ?_
  rw [blk_push (by rfl)]
  show AW l yy_X1_init _ _ 1 400 10 [some (.ref b)] [.ref (b + 1), .ref b] (b + 2) (blk h b [.inr (1, [.null, .int 0, .int 0]), .inl (.int, 400, .inl (fun _ => 0))])
  refine AW.putF ff_RX1_9 rfl (by decide +kernel) (by omega) (blk_get (j := 0) rfl) (Nat.le_of_ble_eq_true rfl) (fun _ => rfl) (fun _ => rfl) ?_
  rw [blk_set (j := 0) (by rfl) (Nat.le_of_ble_eq_true rfl)]
  show AW l yy_X1_init _ _ 1 400 13 [some (.ref b)] [] (b + 2) (blk h b [.inr (1, [.ref (b + 1), .int 0, .int 0]), .inl (.int, 400, .inl (fun _ => 0))])
  exact AW.vret rfl (by decide +kernel) (Nat.le_refl _) (Nat.le_refl _) ⟨rfl, rfl, rfl⟩
theorem kI_X9_init {l : Launch} (h : aH) (b : Nat) (hb : b + 3 ≤ 1000000) (wh : wfH b h) : AOk l yy_X9_init (rmA 1 2 72) (fun r n' h' => r = none ∧ n' = b + 3 ∧ h' = blk h b [.inr (7, [.ref (b + 1), .ref (b + 2)]), .inl (.long, 8, .inr (.inl (fun _ => 0))), .inl (.long, 64, .inr (.inl (fun _ => 0)))]) [.ref b] (b + 1) (blk h b [.inr (7, [.null, .null])]) := by
  refine AOk.of (ls := [some (.ref b)]) (by decide +kernel) (Nat.le_of_ble_eq_true rfl) rfl ?_
  refine AW.run [(.aload_n 0, 0)] (pc' := 1) (ls' := [some (.ref b)]) (st' := [.ref b]) (by decide +kernel) rfl ?_
  refine AW.objInit (idx := 1) (tb_in 250 (by decide +kernel) (by decide +kernel)) (by decide +kernel) (Nat.le_of_ble_eq_true rfl) (Nat.le_of_ble_eq_true rfl) ?_
  refine AW.run [(.aload_n 0, 0), (.bipush 8, 8)] (pc' := 7) (ls' := [some (.ref b)]) (st' := [.int 8, .ref b]) (by decide +kernel) rfl ?_
  refine AW.newa (atype := .long) (ty := .long) (N' := 8) (c0 := .inr (.inl (fun _ => 0))) 1 (fun _ => rfl) (fun _ e => by cases e) (tb_in 260 (by decide +kernel) (by decide +kernel)) rfl (fun _ => rfl) (fun _ => rfl) (by decide +kernel) (by decide +kernel) (Nat.le_of_ble_eq_true rfl) (by decide +kernel) (by show _ < 1000000; omega) (blk_wf wh rfl (List.forall_mem_cons.mpr ⟨(wfo (wfs_n (wfs_n wfs_nil))), (fun _ h => absurd h List.not_mem_nil)⟩)) (wfl_r (by omega) wfl_nil) (wfs_r (by omega) wfs_nil) (Nat.le_of_ble_eq_true rfl) (Nat.le_of_ble_eq_true rfl) ?_
  rw [blk_push (by rfl)]
  show AW l yy_X9_init _ _ 1 8 9 [some (.ref b)] [.ref (b + 1), .ref b] (b + 2) (blk h b [.inr (7, [.null, .null]), .inl (.long, 8, .inr (.inl (fun _ => 0)))])
  refine AW.putF ff_RX9_9 rfl (by decide +kernel) (by omega) (blk_get (j := 0) rfl) (Nat.le_of_ble_eq_true rfl) (fun _ => rfl) (fun _ => rfl) ?_
  rw [blk_set (j := 0) (by rfl) (Nat.le_of_ble_eq_true rfl)]
  show AW l yy_X9_init _ _ 1 8 12 [some (.ref b)] [] (b + 2) (blk h b [.inr (7, [.ref (b + 1), .null]), .inl (.long, 8, .inr (.inl (fun _ => 0)))])
  refine AW.run [(.aload_n 0, 0), (.bipush 64, 64)] (pc' := 15) (ls' := [some (.ref b)]) (st' := [.int 64, .ref b]) (by decide +kernel) rfl ?_
  refine AW.newa (atype := .long) (ty := .long) (N' := 64) (c0 := .inr (.inl (fun _ => 0))) 1 (fun _ => rfl) (fun _ e => by cases e) (tb_in 260 (by decide +kernel) (by decide +kernel)) rfl (fun _ => rfl) (fun _ => rfl) (by decide +kernel) (by decide +kernel) (Nat.le_of_ble_eq_true rfl) (by decide +kernel) (by show _ < 1000000; omega) (blk_wf wh rfl (List.forall_mem_cons.mpr ⟨(wfo (wfs_r (by omega) (wfs_n wfs_nil))), (List.forall_mem_cons.mpr ⟨wfj, (fun _ h => absurd h List.not_mem_nil)⟩)⟩)) (wfl_r (by omega) wfl_nil) (wfs_r (by omega) wfs_nil) (Nat.le_of_ble_eq_true rfl) (Nat.le_of_ble_eq_true rfl) ?_
  rw [blk_push (by rfl)]
  show AW l yy_X9_init _ _ 2 72 17 [some (.ref b)] [.ref (b + 2), .ref b] (b + 3) (blk h b [.inr (7, [.ref (b + 1), .null]), .inl (.long, 8, .inr (.inl (fun _ => 0))), .inl (.long, 64, .inr (.inl (fun _ => 0)))])
  refine AW.putF ff_RX9_15 rfl (by decide +kernel) (by omega) (blk_get (j := 0) rfl) (Nat.le_of_ble_eq_true rfl) (fun _ => rfl) (fun _ => rfl) ?_
  rw [blk_set (j := 0) (by rfl) (Nat.le_of_ble_eq_true rfl)]
  show AW l yy_X9_init _ _ 2 72 20 [some (.ref b)] [] (b + 3) (blk h b [.inr (7, [.ref (b + 1), .ref (b + 2)]), .inl (.long, 8, .inr (.inl (fun _ => 0))), .inl (.long, 64, .inr (.inl (fun _ => 0)))])
  exact AW.vret rfl (by decide +kernel) (Nat.le_refl _) (Nat.le_refl _) ⟨rfl, rfl, rfl⟩
theorem kI_X4_init {l : Launch} (h : aH) (b : Nat) (hb : b + 5 ≤ 1000000) (wh : wfH b h) : AOk l yy_X4_init (rmA 2 4 80) (fun r n' h' => r = none ∧ n' = b + 5 ∧ h' = blk h b [.inr (3, [.ref (b + 1), .ref (b + 4)]), .inr (7, [.ref (b + 2), .ref (b + 3)]), .inl (.long, 8, .inr (.inl (fun _ => 0))), .inl (.long, 64, .inr (.inl (fun _ => 0))), .inl (.int, 6, .inl (fun _ => 0))]) [.ref b] (b + 1) (blk h b [.inr (3, [.null, .null])]) := by
  refine AOk.of (ls := [some (.ref b)]) (by decide +kernel) (Nat.le_of_ble_eq_true rfl) rfl ?_
  refine AW.run [(.aload_n 0, 0)] (pc' := 1) (ls' := [some (.ref b)]) (st' := [.ref b]) (by decide +kernel) rfl ?_
  refine AW.objInit (idx := 1) (tb_in 244 (by decide +kernel) (by decide +kernel)) (by decide +kernel) (Nat.le_of_ble_eq_true rfl) (Nat.le_of_ble_eq_true rfl) ?_
  refine AW.run [(.aload_n 0, 0)] (pc' := 5) (ls' := [some (.ref b)]) (st' := [.ref b]) (by decide +kernel) rfl ?_
  refine AW.new (idx := 7) (C := RX9) (T := TX9) (ty := tyX9) (N := 2) (ci := 7) (fs := [.null, .null]) (tb_in 245 (by decide +kernel) (by decide +kernel)) (tb_in 246 (by decide +kernel) (by decide +kernel)) (tb_in 8 (by decide +kernel) (by decide +kernel)) ck_7 tyX9_ok rfl (lt_s (lt_s lt_0 rfl) rfl) (fun _ => rfl) (by decide +kernel) (by show _ < 1000000; omega) (blk_wf wh rfl (List.forall_mem_cons.mpr ⟨(wfo (wfs_n (wfs_n wfs_nil))), (fun _ h => absurd h List.not_mem_nil)⟩)) (wfl_r (by omega) wfl_nil) (wfs_r (by omega) wfs_nil) (Nat.le_of_ble_eq_true rfl) (Nat.le_of_ble_eq_true rfl) ?_
  rw [blk_push (by rfl)]
  show AW l yy_X4_init _ _ 1 2 8 [some (.ref b)] [.ref (b + 1), .ref b] (b + 2) (blk h b [.inr (3, [.null, .null]), .inr (7, [.null, .null])])
  refine AW.run [(.dup, 0)] (pc' := 9) (ls' := [some (.ref b)]) (st' := [.ref (b + 1), .ref (b + 1), .ref b]) (by decide +kernel) rfl ?_
  rw [show blk h b [.inr (3, [.null, .null]), .inr (7, [.null, .null])] = blk (blk h b [.inr (3, [.null, .null])]) (b + 1) [.inr (7, [.null, .null])] from blk_app (cs := [.inr (3, [.null, .null])]) (ds := [.inr (7, [.null, .null])])]
  refine AW.callI (As := []) (st := [.ref (b + 1), .ref b]) li_RX4_9 (by decide +kernel) (kI_X9_init (blk h b [.inr (3, [.null, .null])]) (b + 1) (by omega) (blk_wf (m := b + 1) wh rfl (List.forall_mem_cons.mpr ⟨(wfo (wfs_n (wfs_n wfs_nil))), (fun _ h => absurd h List.not_mem_nil)⟩))) (Nat.le_of_ble_eq_true rfl) (Nat.le_of_ble_eq_true rfl) rfl (Nat.le_of_ble_eq_true rfl) rfl (Nat.le_of_ble_eq_true rfl) (Nat.le_of_ble_eq_true rfl) (wfl_r (by omega) wfl_nil) (wfs_r (by omega) (wfs_r (by omega) wfs_nil)) (fun r n' h' q => q.1) (fun n' h' _ _ q => ?_)
  obtain ⟨-, q2, q3⟩ := q
  subst q2
  subst q3
  rw [show blk (blk h b [.inr (3, [.null, .null])]) (b + 1) [.inr (7, [.ref (b + 1 + 1), .ref (b + 1 + 2)]), .inl (.long, 8, .inr (.inl (fun _ => 0))), .inl (.long, 64, .inr (.inl (fun _ => 0)))] = blk h b [.inr (3, [.null, .null]), .inr (7, [.ref (b + 2), .ref (b + 3)]), .inl (.long, 8, .inr (.inl (fun _ => 0))), .inl (.long, 64, .inr (.inl (fun _ => 0)))] from (blk_app (cs := [.inr (3, [.null, .null])]) (ds := [.inr (7, [.ref (b + 2), .ref (b + 3)]), .inl (.long, 8, .inr (.inl (fun _ => 0))), .inl (.long, 64, .inr (.inl (fun _ => 0)))])).symm]
  show AW l yy_X4_init _ _ 3 74 12 [some (.ref b)] [.ref (b + 1), .ref b] (b + 4) _
  refine AW.putF ff_RX4_10 rfl (by decide +kernel) (by omega) (blk_get (j := 0) rfl) (Nat.le_of_ble_eq_true rfl) (fun _ => rfl) (fun _ => rfl) ?_
  rw [blk_set (j := 0) (by rfl) (Nat.le_of_ble_eq_true rfl)]
  show AW l yy_X4_init _ _ 3 74 15 [some (.ref b)] [] (b + 4) (blk h b [.inr (3, [.ref (b + 1), .null]), .inr (7, [.ref (b + 2), .ref (b + 3)]), .inl (.long, 8, .inr (.inl (fun _ => 0))), .inl (.long, 64, .inr (.inl (fun _ => 0)))])
  refine AW.run [(.aload_n 0, 0), (.bipush 6, 6)] (pc' := 18) (ls' := [some (.ref b)]) (st' := [.int 6, .ref b]) (by decide +kernel) rfl ?_
  refine AW.newa (atype := .int) (ty := .int) (N' := 6) (c0 := .inl (fun _ => 0)) 0 (fun _ => rfl) (fun _ e => by cases e) (tb_in 73 (by decide +kernel) (by decide +kernel)) rfl (fun _ => rfl) (fun _ => rfl) (by decide +kernel) (by decide +kernel) (Nat.le_of_ble_eq_true rfl) (by decide +kernel) (by show _ < 1000000; omega) (blk_wf wh rfl (List.forall_mem_cons.mpr ⟨(wfo (wfs_r (by omega) (wfs_n wfs_nil))), (List.forall_mem_cons.mpr ⟨(wfo (wfs_r (by omega) (wfs_r (by omega) wfs_nil))), (List.forall_mem_cons.mpr ⟨wfj, (List.forall_mem_cons.mpr ⟨wfj, (fun _ h => absurd h List.not_mem_nil)⟩)⟩)⟩)⟩)) (wfl_r (by omega) wfl_nil) (wfs_r (by omega) wfs_nil) (Nat.le_of_ble_eq_true rfl) (Nat.le_of_ble_eq_true rfl) ?_
  rw [blk_push (by rfl)]
  show AW l yy_X4_init _ _ 4 80 20 [some (.ref b)] [.ref (b + 4), .ref b] (b + 5) (blk h b [.inr (3, [.ref (b + 1), .null]), .inr (7, [.ref (b + 2), .ref (b + 3)]), .inl (.long, 8, .inr (.inl (fun _ => 0))), .inl (.long, 64, .inr (.inl (fun _ => 0))), .inl (.int, 6, .inl (fun _ => 0))])
  refine AW.putF ff_RX4_18 rfl (by decide +kernel) (by omega) (blk_get (j := 0) rfl) (Nat.le_of_ble_eq_true rfl) (fun _ => rfl) (fun _ => rfl) ?_
  rw [blk_set (j := 0) (by rfl) (Nat.le_of_ble_eq_true rfl)]
  show AW l yy_X4_init _ _ 4 80 23 [some (.ref b)] [] (b + 5) (blk h b [.inr (3, [.ref (b + 1), .ref (b + 4)]), .inr (7, [.ref (b + 2), .ref (b + 3)]), .inl (.long, 8, .inr (.inl (fun _ => 0))), .inl (.long, 64, .inr (.inl (fun _ => 0))), .inl (.int, 6, .inl (fun _ => 0))])
  exact AW.vret rfl (by decide +kernel) (Nat.le_refl _) (Nat.le_refl _) ⟨rfl, rfl, rfl⟩
theorem kI_X5_init {l : Launch} (h : aH) (b : Nat) (hb : b + 4 ≤ 1000000) (wh : wfH b h) : AOk l yy_X5_init (rmA 1 3 3088) (fun r n' h' => r = none ∧ n' = b + 4 ∧ h' = blk h b [.inr (4, [.ref (b + 1), .ref (b + 2), .ref (b + 3), .int 0, .int 0]), .inl (.long, 2048, .inr (.inl (fun _ => 0))), .inl (.int, 1024, .inl (fun _ => 0)), .inl (.int, 16, .inl (fun _ => 0))]) [.ref b] (b + 1) (blk h b [.inr (4, [.null, .null, .null, .int 0, .int 0])]) := by
  refine AOk.of (ls := [some (.ref b)]) (by decide +kernel) (Nat.le_of_ble_eq_true rfl) rfl ?_
  refine AW.run [(.aload_n 0, 0)] (pc' := 1) (ls' := [some (.ref b)]) (st' := [.ref b]) (by decide +kernel) rfl ?_
  refine AW.objInit (idx := 1) (tb_in 274 (by decide +kernel) (by decide +kernel)) (by decide +kernel) (Nat.le_of_ble_eq_true rfl) (Nat.le_of_ble_eq_true rfl) ?_
  refine AW.run [(.aload_n 0, 0), (.sipush 2048, 2048)] (pc' := 8) (ls' := [some (.ref b)]) (st' := [.int 2048, .ref b]) (by decide +kernel) rfl ?_
  refine AW.newa (atype := .long) (ty := .long) (N' := 2048) (c0 := .inr (.inl (fun _ => 0))) 1 (fun _ => rfl) (fun _ e => by cases e) (tb_in 260 (by decide +kernel) (by decide +kernel)) rfl (fun _ => rfl) (fun _ => rfl) (by decide +kernel) (by decide +kernel) (Nat.le_of_ble_eq_true rfl) (by decide +kernel) (by show _ < 1000000; omega) (blk_wf wh rfl (List.forall_mem_cons.mpr ⟨(wfo (wfs_n (wfs_n (wfs_n (wfs_i (wfs_i wfs_nil)))))), (fun _ h => absurd h List.not_mem_nil)⟩)) (wfl_r (by omega) wfl_nil) (wfs_r (by omega) wfs_nil) (Nat.le_of_ble_eq_true rfl) (Nat.le_of_ble_eq_true rfl) ?_
  rw [blk_push (by rfl)]
  show AW l yy_X5_init _ _ 1 2048 10 [some (.ref b)] [.ref (b + 1), .ref b] (b + 2) (blk h b [.inr (4, [.null, .null, .null, .int 0, .int 0]), .inl (.long, 2048, .inr (.inl (fun _ => 0)))])
  refine AW.putF ff_RX5_11 rfl (by decide +kernel) (by omega) (blk_get (j := 0) rfl) (Nat.le_of_ble_eq_true rfl) (fun _ => rfl) (fun _ => rfl) ?_
  rw [blk_set (j := 0) (by rfl) (Nat.le_of_ble_eq_true rfl)]
  show AW l yy_X5_init _ _ 1 2048 13 [some (.ref b)] [] (b + 2) (blk h b [.inr (4, [.ref (b + 1), .null, .null, .int 0, .int 0]), .inl (.long, 2048, .inr (.inl (fun _ => 0)))])
  refine AW.run [(.aload_n 0, 0), (.sipush 1024, 1024)] (pc' := 17) (ls' := [some (.ref b)]) (st' := [.int 1024, .ref b]) (by decide +kernel) rfl ?_
  refine AW.newa (atype := .int) (ty := .int) (N' := 1024) (c0 := .inl (fun _ => 0)) 0 (fun _ => rfl) (fun _ e => by cases e) (tb_in 73 (by decide +kernel) (by decide +kernel)) rfl (fun _ => rfl) (fun _ => rfl) (by decide +kernel) (by decide +kernel) (Nat.le_of_ble_eq_true rfl) (by decide +kernel) (by show _ < 1000000; omega) (blk_wf wh rfl (List.forall_mem_cons.mpr ⟨(wfo (wfs_r (by omega) (wfs_n (wfs_n (wfs_i (wfs_i wfs_nil)))))), (List.forall_mem_cons.mpr ⟨wfj, (fun _ h => absurd h List.not_mem_nil)⟩)⟩)) (wfl_r (by omega) wfl_nil) (wfs_r (by omega) wfs_nil) (Nat.le_of_ble_eq_true rfl) (Nat.le_of_ble_eq_true rfl) ?_
  rw [blk_push (by rfl)]
  show AW l yy_X5_init _ _ 2 3072 19 [some (.ref b)] [.ref (b + 2), .ref b] (b + 3) (blk h b [.inr (4, [.ref (b + 1), .null, .null, .int 0, .int 0]), .inl (.long, 2048, .inr (.inl (fun _ => 0))), .inl (.int, 1024, .inl (fun _ => 0))])
  refine AW.putF ff_RX5_15 rfl (by decide +kernel) (by omega) (blk_get (j := 0) rfl) (Nat.le_of_ble_eq_true rfl) (fun _ => rfl) (fun _ => rfl) ?_
  rw [blk_set (j := 0) (by rfl) (Nat.le_of_ble_eq_true rfl)]
  show AW l yy_X5_init _ _ 2 3072 22 [some (.ref b)] [] (b + 3) (blk h b [.inr (4, [.ref (b + 1), .ref (b + 2), .null, .int 0, .int 0]), .inl (.long, 2048, .inr (.inl (fun _ => 0))), .inl (.int, 1024, .inl (fun _ => 0))])
  refine AW.run [(.aload_n 0, 0), (.bipush 16, 16)] (pc' := 25) (ls' := [some (.ref b)]) (st' := [.int 16, .ref b]) (by decide +kernel) rfl ?_
  refine AW.newa (atype := .int) (ty := .int) (N' := 16) (c0 := .inl (fun _ => 0)) 0 (fun _ => rfl) (fun _ e => by cases e) (tb_in 73 (by decide +kernel) (by decide +kernel)) rfl (fun _ => rfl) (fun _ => rfl) (by decide +kernel) (by decide +kernel) (Nat.le_of_ble_eq_true rfl) (by decide +kernel) (by show _ < 1000000; omega) (blk_wf wh rfl (List.forall_mem_cons.mpr ⟨(wfo (wfs_r (by omega) (wfs_r (by omega) (wfs_n (wfs_i (wfs_i wfs_nil)))))), (List.forall_mem_cons.mpr ⟨wfj, (List.forall_mem_cons.mpr ⟨wfi, (fun _ h => absurd h List.not_mem_nil)⟩)⟩)⟩)) (wfl_r (by omega) wfl_nil) (wfs_r (by omega) wfs_nil) (Nat.le_of_ble_eq_true rfl) (Nat.le_of_ble_eq_true rfl) ?_
  rw [blk_push (by rfl)]
  show AW l yy_X5_init _ _ 3 3088 27 [some (.ref b)] [.ref (b + 3), .ref b] (b + 4) (blk h b [.inr (4, [.ref (b + 1), .ref (b + 2), .null, .int 0, .int 0]), .inl (.long, 2048, .inr (.inl (fun _ => 0))), .inl (.int, 1024, .inl (fun _ => 0)), .inl (.int, 16, .inl (fun _ => 0))])
  refine AW.putF ff_RX5_19 rfl (by decide +kernel) (by omega) (blk_get (j := 0) rfl) (Nat.le_of_ble_eq_true rfl) (fun _ => rfl) (fun _ => rfl) ?_
  rw [blk_set (j := 0) (by rfl) (Nat.le_of_ble_eq_true rfl)]
  show AW l yy_X5_init _ _ 3 3088 30 [some (.ref b)] [] (b + 4) (blk h b [.inr (4, [.ref (b + 1), .ref (b + 2), .ref (b + 3), .int 0, .int 0]), .inl (.long, 2048, .inr (.inl (fun _ => 0))), .inl (.int, 1024, .inl (fun _ => 0)), .inl (.int, 16, .inl (fun _ => 0))])
  exact AW.vret rfl (by decide +kernel) (Nat.le_refl _) (Nat.le_refl _) ⟨rfl, rfl, rfl⟩
theorem kI_X0_init {l : Launch} (h : aH) (b : Nat) (hb : b + 3 ≤ 1000000) (wh : wfH b h) : AOk l yy_X0_init (rmA 1 2 320) (fun r n' h' => r = none ∧ n' = b + 3 ∧ h' = blk h b [.inr (0, [.ref (b + 1), .ref (b + 2)]), .inl (.int, 64, .inl (fun _ => 0)), .inl (.int, 256, .inl (fun _ => 0))]) [.ref b] (b + 1) (blk h b [.inr (0, [.null, .null])]) := by
  refine AOk.of (ls := [some (.ref b)]) (by decide +kernel) (Nat.le_of_ble_eq_true rfl) rfl ?_
  refine AW.run [(.aload_n 0, 0)] (pc' := 1) (ls' := [some (.ref b)]) (st' := [.ref b]) (by decide +kernel) rfl ?_
  refine AW.objInit (idx := 1) (tb_in 298 (by decide +kernel) (by decide +kernel)) (by decide +kernel) (Nat.le_of_ble_eq_true rfl) (Nat.le_of_ble_eq_true rfl) ?_
  refine AW.run [(.aload_n 0, 0), (.bipush 64, 64)] (pc' := 7) (ls' := [some (.ref b)]) (st' := [.int 64, .ref b]) (by decide +kernel) rfl ?_
  refine AW.newa (atype := .int) (ty := .int) (N' := 64) (c0 := .inl (fun _ => 0)) 0 (fun _ => rfl) (fun _ e => by cases e) (tb_in 73 (by decide +kernel) (by decide +kernel)) rfl (fun _ => rfl) (fun _ => rfl) (by decide +kernel) (by decide +kernel) (Nat.le_of_ble_eq_true rfl) (by decide +kernel) (by show _ < 1000000; omega) (blk_wf wh rfl (List.forall_mem_cons.mpr ⟨(wfo (wfs_n (wfs_n wfs_nil))), (fun _ h => absurd h List.not_mem_nil)⟩)) (wfl_r (by omega) wfl_nil) (wfs_r (by omega) wfs_nil) (Nat.le_of_ble_eq_true rfl) (Nat.le_of_ble_eq_true rfl) ?_
  rw [blk_push (by rfl)]
  show AW l yy_X0_init _ _ 1 64 9 [some (.ref b)] [.ref (b + 1), .ref b] (b + 2) (blk h b [.inr (0, [.null, .null]), .inl (.int, 64, .inl (fun _ => 0))])
  refine AW.putF ff_RX0_9 rfl (by decide +kernel) (by omega) (blk_get (j := 0) rfl) (Nat.le_of_ble_eq_true rfl) (fun _ => rfl) (fun _ => rfl) ?_
  rw [blk_set (j := 0) (by rfl) (Nat.le_of_ble_eq_true rfl)]
  show AW l yy_X0_init _ _ 1 64 12 [some (.ref b)] [] (b + 2) (blk h b [.inr (0, [.ref (b + 1), .null]), .inl (.int, 64, .inl (fun _ => 0))])
  refine AW.run [(.aload_n 0, 0), (.sipush 256, 256)] (pc' := 16) (ls' := [some (.ref b)]) (st' := [.int 256, .ref b]) (by decide +kernel) rfl ?_
  refine AW.newa (atype := .int) (ty := .int) (N' := 256) (c0 := .inl (fun _ => 0)) 0 (fun _ => rfl) (fun _ e => by cases e) (tb_in 73 (by decide +kernel) (by decide +kernel)) rfl (fun _ => rfl) (fun _ => rfl) (by decide +kernel) (by decide +kernel) (Nat.le_of_ble_eq_true rfl) (by decide +kernel) (by show _ < 1000000; omega) (blk_wf wh rfl (List.forall_mem_cons.mpr ⟨(wfo (wfs_r (by omega) (wfs_n wfs_nil))), (List.forall_mem_cons.mpr ⟨wfi, (fun _ h => absurd h List.not_mem_nil)⟩)⟩)) (wfl_r (by omega) wfl_nil) (wfs_r (by omega) wfs_nil) (Nat.le_of_ble_eq_true rfl) (Nat.le_of_ble_eq_true rfl) ?_
  rw [blk_push (by rfl)]
  show AW l yy_X0_init _ _ 2 320 18 [some (.ref b)] [.ref (b + 2), .ref b] (b + 3) (blk h b [.inr (0, [.ref (b + 1), .null]), .inl (.int, 64, .inl (fun _ => 0)), .inl (.int, 256, .inl (fun _ => 0))])
  refine AW.putF ff_RX0_13 rfl (by decide +kernel) (by omega) (blk_get (j := 0) rfl) (Nat.le_of_ble_eq_true rfl) (fun _ => rfl) (fun _ => rfl) ?_
  rw [blk_set (j := 0) (by rfl) (Nat.le_of_ble_eq_true rfl)]
  show AW l yy_X0_init _ _ 2 320 21 [some (.ref b)] [] (b + 3) (blk h b [.inr (0, [.ref (b + 1), .ref (b + 2)]), .inl (.int, 64, .inl (fun _ => 0)), .inl (.int, 256, .inl (fun _ => 0))])
  exact AW.vret rfl (by decide +kernel) (Nat.le_refl _) (Nat.le_refl _) ⟨rfl, rfl, rfl⟩
theorem kI_X12_init {l : Launch} (h : aH) (b : Nat) (hb : b + 19 ≤ 1000000) (wh : wfH b h) : AOk l yy_X12_init (rmA 1 18 144539) (fun r n' h' => r = none ∧ n' = b + 19 ∧ h' = blk h b [.inr (10, [.ref (b + 1), .int 0, .int 0, .ref (b + 2), .ref (b + 3), .ref (b + 4), .ref (b + 5), .ref (b + 6), .int 0, .int 0, .int 0, .int 0, .int 0, .int 0, .int 0, .ref (b + 7), .int 0, .int 0, .ref (b + 8), .int 0, .ref (b + 9), .ref (b + 10), .int (-1), .int 0, .ref (b + 11), .int 0, .ref (b + 12), .ref (b + 13), .ref (b + 14), .long 0, .ref (b + 15), .ref (b + 16), .ref (b + 17), .ref (b + 18)]), .inl (.byte, 400, .inl (fun _ => 0)), .inl (.int, 2400, .inl (fun _ => 0)), .inl (.int, 7, .inl (fun _ => 0)), .inl (.int, 360, .inl (fun _ => 0)), .inl (.int, 6, .inl (fun _ => 0)), .inl (.int, 112, .inl (fun _ => 0)), .inl (.int, 400, .inl (fun _ => 0)), .inl (.long, 64, .inr (.inl (fun _ => 0))), .inl (.long, 8, .inr (.inl (fun _ => 0))), .inl (.int, 410, .inl (fun _ => 0)), .inl (.int, 7040, .inl (fun _ => 0)), .inl (.int, 131072, .inl (fun _ => 0)), .inl (.int, 256, .inl (fun _ => 0)), .inl (.int, 352, .inl (fun _ => 0)), .inl (.int, 1640, .inl (fun _ => 0)), .inl (.int, 4, .inl (fun _ => 0)), .inl (.int, 4, .inl (fun _ => 0)), .inl (.boolean, 4, .inl (fun _ => 0))]) [.ref b] (b + 1) (blk h b [.inr (10, [.null, .int 0, .int 0, .null, .null, .null, .null, .null, .int 0, .int 0, .int 0, .int 0, .int 0, .int 0, .int 0, .null, .int 0, .int 0, .null, .int 0, .null, .null, .int 0, .int 0, .null, .int 0, .null, .null, .null, .long 0, .null, .null, .null, .null])]) := by
  refine AOk.of (ls := [some (.ref b)]) (by decide +kernel) (Nat.le_of_ble_eq_true rfl) rfl ?_
  refine AW.run [(.aload_n 0, 0)] (pc' := 1) (ls' := [some (.ref b)]) (st' := [.ref b]) (by decide +kernel) rfl ?_
  refine AW.objInit (idx := 1) (tb_in 1051 (by decide +kernel) (by decide +kernel)) (by decide +kernel) (Nat.le_of_ble_eq_true rfl) (Nat.le_of_ble_eq_true rfl) ?_
  refine AW.run [(.aload_n 0, 0), (.sipush 400, 400)] (pc' := 8) (ls' := [some (.ref b)]) (st' := [.int 400, .ref b]) (by decide +kernel) rfl ?_
  refine AW.newa (atype := .byte) (ty := .byte) (N' := 400) (c0 := .inl (fun _ => 0)) 2 (fun _ => rfl) (fun _ e => by cases e) (tb_in 502 (by decide +kernel) (by decide +kernel)) rfl (fun _ => rfl) (fun _ => rfl) (by decide +kernel) (by decide +kernel) (Nat.le_of_ble_eq_true rfl) (by decide +kernel) (by show _ < 1000000; omega) (blk_wf wh rfl (List.forall_mem_cons.mpr ⟨(wfo (wfs_n (wfs_i (wfs_i (wfs_n (wfs_n (wfs_n (wfs_n (wfs_n (wfs_i (wfs_i (wfs_i (wfs_i (wfs_i (wfs_i (wfs_i (wfs_n (wfs_i (wfs_i (wfs_n (wfs_i (wfs_n (wfs_n (wfs_i (wfs_i (wfs_n (wfs_i (wfs_n (wfs_n (wfs_n (wfs_j (wfs_n (wfs_n (wfs_n (wfs_n wfs_nil))))))))))))))))))))))))))))))))))), (fun _ h => absurd h List.not_mem_nil)⟩)) (wfl_r (by omega) wfl_nil) (wfs_r (by omega) wfs_nil) (Nat.le_of_ble_eq_true rfl) (Nat.le_of_ble_eq_true rfl) ?_
  rw [blk_push (by rfl)]
  show AW l yy_X12_init _ _ 1 400 10 [some (.ref b)] [.ref (b + 1), .ref b] (b + 2) (blk h b [.inr (10, [.null, .int 0, .int 0, .null, .null, .null, .null, .null, .int 0, .int 0, .int 0, .int 0, .int 0, .int 0, .int 0, .null, .int 0, .int 0, .null, .int 0, .null, .null, .int 0, .int 0, .null, .int 0, .null, .null, .null, .long 0, .null, .null, .null, .null]), .inl (.byte, 400, .inl (fun _ => 0))])
  refine AW.putF ff_RX12_7 rfl (by decide +kernel) (by omega) (blk_get (j := 0) rfl) (Nat.le_of_ble_eq_true rfl) (fun _ => rfl) (fun _ => rfl) ?_
  rw [blk_set (j := 0) (by rfl) (Nat.le_of_ble_eq_true rfl)]
  show AW l yy_X12_init _ _ 1 400 13 [some (.ref b)] [] (b + 2) (blk h b [.inr (10, [.ref (b + 1), .int 0, .int 0, .null, .null, .null, .null, .null, .int 0, .int 0, .int 0, .int 0, .int 0, .int 0, .int 0, .null, .int 0, .int 0, .null, .int 0, .null, .null, .int 0, .int 0, .null, .int 0, .null, .null, .null, .long 0, .null, .null, .null, .null]), .inl (.byte, 400, .inl (fun _ => 0))])
  refine AW.run [(.aload_n 0, 0), (.sipush 2400, 2400)] (pc' := 17) (ls' := [some (.ref b)]) (st' := [.int 2400, .ref b]) (by decide +kernel) rfl ?_
  refine AW.newa (atype := .int) (ty := .int) (N' := 2400) (c0 := .inl (fun _ => 0)) 0 (fun _ => rfl) (fun _ e => by cases e) (tb_in 73 (by decide +kernel) (by decide +kernel)) rfl (fun _ => rfl) (fun _ => rfl) (by decide +kernel) (by decide +kernel) (Nat.le_of_ble_eq_true rfl) (by decide +kernel) (by show _ < 1000000; omega) (blk_wf wh rfl (List.forall_mem_cons.mpr ⟨(wfo (wfs_r (by omega) (wfs_i (wfs_i (wfs_n (wfs_n (wfs_n (wfs_n (wfs_n (wfs_i (wfs_i (wfs_i (wfs_i (wfs_i (wfs_i (wfs_i (wfs_n (wfs_i (wfs_i (wfs_n (wfs_i (wfs_n (wfs_n (wfs_i (wfs_i (wfs_n (wfs_i (wfs_n (wfs_n (wfs_n (wfs_j (wfs_n (wfs_n (wfs_n (wfs_n wfs_nil))))))))))))))))))))))))))))))))))), (List.forall_mem_cons.mpr ⟨wfi, (fun _ h => absurd h List.not_mem_nil)⟩)⟩)) (wfl_r (by omega) wfl_nil) (wfs_r (by omega) wfs_nil) (Nat.le_of_ble_eq_true rfl) (Nat.le_of_ble_eq_true rfl) ?_
  rw [blk_push (by rfl)]
  show AW l yy_X12_init _ _ 2 2800 19 [some (.ref b)] [.ref (b + 2), .ref b] (b + 3) (blk h b [.inr (10, [.ref (b + 1), .int 0, .int 0, .null, .null, .null, .null, .null, .int 0, .int 0, .int 0, .int 0, .int 0, .int 0, .int 0, .null, .int 0, .int 0, .null, .int 0, .null, .null, .int 0, .int 0, .null, .int 0, .null, .null, .null, .long 0, .null, .null, .null, .null]), .inl (.byte, 400, .inl (fun _ => 0)), .inl (.int, 2400, .inl (fun _ => 0))])
  refine AW.putF ff_RX12_13 rfl (by decide +kernel) (by omega) (blk_get (j := 0) rfl) (Nat.le_of_ble_eq_true rfl) (fun _ => rfl) (fun _ => rfl) ?_
  rw [blk_set (j := 0) (by rfl) (Nat.le_of_ble_eq_true rfl)]
  show AW l yy_X12_init _ _ 2 2800 22 [some (.ref b)] [] (b + 3) (blk h b [.inr (10, [.ref (b + 1), .int 0, .int 0, .ref (b + 2), .null, .null, .null, .null, .int 0, .int 0, .int 0, .int 0, .int 0, .int 0, .int 0, .null, .int 0, .int 0, .null, .int 0, .null, .null, .int 0, .int 0, .null, .int 0, .null, .null, .null, .long 0, .null, .null, .null, .null]), .inl (.byte, 400, .inl (fun _ => 0)), .inl (.int, 2400, .inl (fun _ => 0))])
  refine AW.run [(.aload_n 0, 0), (.bipush 7, 7)] (pc' := 25) (ls' := [some (.ref b)]) (st' := [.int 7, .ref b]) (by decide +kernel) rfl ?_
  refine AW.newa (atype := .int) (ty := .int) (N' := 7) (c0 := .inl (fun _ => 0)) 0 (fun _ => rfl) (fun _ e => by cases e) (tb_in 73 (by decide +kernel) (by decide +kernel)) rfl (fun _ => rfl) (fun _ => rfl) (by decide +kernel) (by decide +kernel) (Nat.le_of_ble_eq_true rfl) (by decide +kernel) (by show _ < 1000000; omega) (blk_wf wh rfl (List.forall_mem_cons.mpr ⟨(wfo (wfs_r (by omega) (wfs_i (wfs_i (wfs_r (by omega) (wfs_n (wfs_n (wfs_n (wfs_n (wfs_i (wfs_i (wfs_i (wfs_i (wfs_i (wfs_i (wfs_i (wfs_n (wfs_i (wfs_i (wfs_n (wfs_i (wfs_n (wfs_n (wfs_i (wfs_i (wfs_n (wfs_i (wfs_n (wfs_n (wfs_n (wfs_j (wfs_n (wfs_n (wfs_n (wfs_n wfs_nil))))))))))))))))))))))))))))))))))), (List.forall_mem_cons.mpr ⟨wfi, (List.forall_mem_cons.mpr ⟨wfi, (fun _ h => absurd h List.not_mem_nil)⟩)⟩)⟩)) (wfl_r (by omega) wfl_nil) (wfs_r (by omega) wfs_nil) (Nat.le_of_ble_eq_true rfl) (Nat.le_of_ble_eq_true rfl) ?_
  rw [blk_push (by rfl)]
  show AW l yy_X12_init _ _ 3 2807 27 [some (.ref b)] [.ref (b + 3), .ref b] (b + 4) (blk h b [.inr (10, [.ref (b + 1), .int 0, .int 0, .ref (b + 2), .null, .null, .null, .null, .int 0, .int 0, .int 0, .int 0, .int 0, .int 0, .int 0, .null, .int 0, .int 0, .null, .int 0, .null, .null, .int 0, .int 0, .null, .int 0, .null, .null, .null, .long 0, .null, .null, .null, .null]), .inl (.byte, 400, .inl (fun _ => 0)), .inl (.int, 2400, .inl (fun _ => 0)), .inl (.int, 7, .inl (fun _ => 0))])
  refine AW.putF ff_RX12_17 rfl (by decide +kernel) (by omega) (blk_get (j := 0) rfl) (Nat.le_of_ble_eq_true rfl) (fun _ => rfl) (fun _ => rfl) ?_
  rw [blk_set (j := 0) (by rfl) (Nat.le_of_ble_eq_true rfl)]
  show AW l yy_X12_init _ _ 3 2807 30 [some (.ref b)] [] (b + 4) (blk h b [.inr (10, [.ref (b + 1), .int 0, .int 0, .ref (b + 2), .ref (b + 3), .null, .null, .null, .int 0, .int 0, .int 0, .int 0, .int 0, .int 0, .int 0, .null, .int 0, .int 0, .null, .int 0, .null, .null, .int 0, .int 0, .null, .int 0, .null, .null, .null, .long 0, .null, .null, .null, .null]), .inl (.byte, 400, .inl (fun _ => 0)), .inl (.int, 2400, .inl (fun _ => 0)), .inl (.int, 7, .inl (fun _ => 0))])
  refine AW.run [(.aload_n 0, 0), (.sipush 360, 360)] (pc' := 34) (ls' := [some (.ref b)]) (st' := [.int 360, .ref b]) (by decide +kernel) rfl ?_
  refine AW.newa (atype := .int) (ty := .int) (N' := 360) (c0 := .inl (fun _ => 0)) 0 (fun _ => rfl) (fun _ e => by cases e) (tb_in 73 (by decide +kernel) (by decide +kernel)) rfl (fun _ => rfl) (fun _ => rfl) (by decide +kernel) (by decide +kernel) (Nat.le_of_ble_eq_true rfl) (by decide +kernel) (by show _ < 1000000; omega) (blk_wf wh rfl (List.forall_mem_cons.mpr ⟨(wfo (wfs_r (by omega) (wfs_i (wfs_i (wfs_r (by omega) (wfs_r (by omega) (wfs_n (wfs_n (wfs_n (wfs_i (wfs_i (wfs_i (wfs_i (wfs_i (wfs_i (wfs_i (wfs_n (wfs_i (wfs_i (wfs_n (wfs_i (wfs_n (wfs_n (wfs_i (wfs_i (wfs_n (wfs_i (wfs_n (wfs_n (wfs_n (wfs_j (wfs_n (wfs_n (wfs_n (wfs_n wfs_nil))))))))))))))))))))))))))))))))))), (List.forall_mem_cons.mpr ⟨wfi, (List.forall_mem_cons.mpr ⟨wfi, (List.forall_mem_cons.mpr ⟨wfi, (fun _ h => absurd h List.not_mem_nil)⟩)⟩)⟩)⟩)) (wfl_r (by omega) wfl_nil) (wfs_r (by omega) wfs_nil) (Nat.le_of_ble_eq_true rfl) (Nat.le_of_ble_eq_true rfl) ?_
  rw [blk_push (by rfl)]
  show AW l yy_X12_init _ _ 4 3167 36 [some (.ref b)] [.ref (b + 4), .ref b] (b + 5) (blk h b [.inr (10, [.ref (b + 1), .int 0, .int 0, .ref (b + 2), .ref (b + 3), .null, .null, .null, .int 0, .int 0, .int 0, .int 0, .int 0, .int 0, .int 0, .null, .int 0, .int 0, .null, .int 0, .null, .null, .int 0, .int 0, .null, .int 0, .null, .null, .null, .long 0, .null, .null, .null, .null]), .inl (.byte, 400, .inl (fun _ => 0)), .inl (.int, 2400, .inl (fun _ => 0)), .inl (.int, 7, .inl (fun _ => 0)), .inl (.int, 360, .inl (fun _ => 0))])
  refine AW.putF ff_RX12_20 rfl (by decide +kernel) (by omega) (blk_get (j := 0) rfl) (Nat.le_of_ble_eq_true rfl) (fun _ => rfl) (fun _ => rfl) ?_
  rw [blk_set (j := 0) (by rfl) (Nat.le_of_ble_eq_true rfl)]
  show AW l yy_X12_init _ _ 4 3167 39 [some (.ref b)] [] (b + 5) (blk h b [.inr (10, [.ref (b + 1), .int 0, .int 0, .ref (b + 2), .ref (b + 3), .ref (b + 4), .null, .null, .int 0, .int 0, .int 0, .int 0, .int 0, .int 0, .int 0, .null, .int 0, .int 0, .null, .int 0, .null, .null, .int 0, .int 0, .null, .int 0, .null, .null, .null, .long 0, .null, .null, .null, .null]), .inl (.byte, 400, .inl (fun _ => 0)), .inl (.int, 2400, .inl (fun _ => 0)), .inl (.int, 7, .inl (fun _ => 0)), .inl (.int, 360, .inl (fun _ => 0))])
  refine AW.run [(.aload_n 0, 0), (.bipush 6, 6)] (pc' := 42) (ls' := [some (.ref b)]) (st' := [.int 6, .ref b]) (by decide +kernel) rfl ?_
  refine AW.newa (atype := .int) (ty := .int) (N' := 6) (c0 := .inl (fun _ => 0)) 0 (fun _ => rfl) (fun _ e => by cases e) (tb_in 73 (by decide +kernel) (by decide +kernel)) rfl (fun _ => rfl) (fun _ => rfl) (by decide +kernel) (by decide +kernel) (Nat.le_of_ble_eq_true rfl) (by decide +kernel) (by show _ < 1000000; omega) (blk_wf wh rfl (List.forall_mem_cons.mpr ⟨(wfo (wfs_r (by omega) (wfs_i (wfs_i (wfs_r (by omega) (wfs_r (by omega) (wfs_r (by omega) (wfs_n (wfs_n (wfs_i (wfs_i (wfs_i (wfs_i (wfs_i (wfs_i (wfs_i (wfs_n (wfs_i (wfs_i (wfs_n (wfs_i (wfs_n (wfs_n (wfs_i (wfs_i (wfs_n (wfs_i (wfs_n (wfs_n (wfs_n (wfs_j (wfs_n (wfs_n (wfs_n (wfs_n wfs_nil))))))))))))))))))))))))))))))))))), (List.forall_mem_cons.mpr ⟨wfi, (List.forall_mem_cons.mpr ⟨wfi, (List.forall_mem_cons.mpr ⟨wfi, (List.forall_mem_cons.mpr ⟨wfi, (fun _ h => absurd h List.not_mem_nil)⟩)⟩)⟩)⟩)⟩)) (wfl_r (by omega) wfl_nil) (wfs_r (by omega) wfs_nil) (Nat.le_of_ble_eq_true rfl) (Nat.le_of_ble_eq_true rfl) ?_
  rw [blk_push (by rfl)]
  show AW l yy_X12_init _ _ 5 3173 44 [some (.ref b)] [.ref (b + 5), .ref b] (b + 6) (blk h b [.inr (10, [.ref (b + 1), .int 0, .int 0, .ref (b + 2), .ref (b + 3), .ref (b + 4), .null, .null, .int 0, .int 0, .int 0, .int 0, .int 0, .int 0, .int 0, .null, .int 0, .int 0, .null, .int 0, .null, .null, .int 0, .int 0, .null, .int 0, .null, .null, .null, .long 0, .null, .null, .null, .null]), .inl (.byte, 400, .inl (fun _ => 0)), .inl (.int, 2400, .inl (fun _ => 0)), .inl (.int, 7, .inl (fun _ => 0)), .inl (.int, 360, .inl (fun _ => 0)), .inl (.int, 6, .inl (fun _ => 0))])
  refine AW.putF ff_RX12_23 rfl (by decide +kernel) (by omega) (blk_get (j := 0) rfl) (Nat.le_of_ble_eq_true rfl) (fun _ => rfl) (fun _ => rfl) ?_
  rw [blk_set (j := 0) (by rfl) (Nat.le_of_ble_eq_true rfl)]
  show AW l yy_X12_init _ _ 5 3173 47 [some (.ref b)] [] (b + 6) (blk h b [.inr (10, [.ref (b + 1), .int 0, .int 0, .ref (b + 2), .ref (b + 3), .ref (b + 4), .ref (b + 5), .null, .int 0, .int 0, .int 0, .int 0, .int 0, .int 0, .int 0, .null, .int 0, .int 0, .null, .int 0, .null, .null, .int 0, .int 0, .null, .int 0, .null, .null, .null, .long 0, .null, .null, .null, .null]), .inl (.byte, 400, .inl (fun _ => 0)), .inl (.int, 2400, .inl (fun _ => 0)), .inl (.int, 7, .inl (fun _ => 0)), .inl (.int, 360, .inl (fun _ => 0)), .inl (.int, 6, .inl (fun _ => 0))])
  refine AW.run [(.aload_n 0, 0), (.bipush 112, 112)] (pc' := 50) (ls' := [some (.ref b)]) (st' := [.int 112, .ref b]) (by decide +kernel) rfl ?_
  refine AW.newa (atype := .int) (ty := .int) (N' := 112) (c0 := .inl (fun _ => 0)) 0 (fun _ => rfl) (fun _ e => by cases e) (tb_in 73 (by decide +kernel) (by decide +kernel)) rfl (fun _ => rfl) (fun _ => rfl) (by decide +kernel) (by decide +kernel) (Nat.le_of_ble_eq_true rfl) (by decide +kernel) (by show _ < 1000000; omega) (blk_wf wh rfl (List.forall_mem_cons.mpr ⟨(wfo (wfs_r (by omega) (wfs_i (wfs_i (wfs_r (by omega) (wfs_r (by omega) (wfs_r (by omega) (wfs_r (by omega) (wfs_n (wfs_i (wfs_i (wfs_i (wfs_i (wfs_i (wfs_i (wfs_i (wfs_n (wfs_i (wfs_i (wfs_n (wfs_i (wfs_n (wfs_n (wfs_i (wfs_i (wfs_n (wfs_i (wfs_n (wfs_n (wfs_n (wfs_j (wfs_n (wfs_n (wfs_n (wfs_n wfs_nil))))))))))))))))))))))))))))))))))), (List.forall_mem_cons.mpr ⟨wfi, (List.forall_mem_cons.mpr ⟨wfi, (List.forall_mem_cons.mpr ⟨wfi, (List.forall_mem_cons.mpr ⟨wfi, (List.forall_mem_cons.mpr ⟨wfi, (fun _ h => absurd h List.not_mem_nil)⟩)⟩)⟩)⟩)⟩)⟩)) (wfl_r (by omega) wfl_nil) (wfs_r (by omega) wfs_nil) (Nat.le_of_ble_eq_true rfl) (Nat.le_of_ble_eq_true rfl) ?_
  rw [blk_push (by rfl)]
  show AW l yy_X12_init _ _ 6 3285 52 [some (.ref b)] [.ref (b + 6), .ref b] (b + 7) (blk h b [.inr (10, [.ref (b + 1), .int 0, .int 0, .ref (b + 2), .ref (b + 3), .ref (b + 4), .ref (b + 5), .null, .int 0, .int 0, .int 0, .int 0, .int 0, .int 0, .int 0, .null, .int 0, .int 0, .null, .int 0, .null, .null, .int 0, .int 0, .null, .int 0, .null, .null, .null, .long 0, .null, .null, .null, .null]), .inl (.byte, 400, .inl (fun _ => 0)), .inl (.int, 2400, .inl (fun _ => 0)), .inl (.int, 7, .inl (fun _ => 0)), .inl (.int, 360, .inl (fun _ => 0)), .inl (.int, 6, .inl (fun _ => 0)), .inl (.int, 112, .inl (fun _ => 0))])
  refine AW.putF ff_RX12_26 rfl (by decide +kernel) (by omega) (blk_get (j := 0) rfl) (Nat.le_of_ble_eq_true rfl) (fun _ => rfl) (fun _ => rfl) ?_
  rw [blk_set (j := 0) (by rfl) (Nat.le_of_ble_eq_true rfl)]
  show AW l yy_X12_init _ _ 6 3285 55 [some (.ref b)] [] (b + 7) (blk h b [.inr (10, [.ref (b + 1), .int 0, .int 0, .ref (b + 2), .ref (b + 3), .ref (b + 4), .ref (b + 5), .ref (b + 6), .int 0, .int 0, .int 0, .int 0, .int 0, .int 0, .int 0, .null, .int 0, .int 0, .null, .int 0, .null, .null, .int 0, .int 0, .null, .int 0, .null, .null, .null, .long 0, .null, .null, .null, .null]), .inl (.byte, 400, .inl (fun _ => 0)), .inl (.int, 2400, .inl (fun _ => 0)), .inl (.int, 7, .inl (fun _ => 0)), .inl (.int, 360, .inl (fun _ => 0)), .inl (.int, 6, .inl (fun _ => 0)), .inl (.int, 112, .inl (fun _ => 0))])
  refine AW.run [(.aload_n 0, 0), (.sipush 400, 400)] (pc' := 59) (ls' := [some (.ref b)]) (st' := [.int 400, .ref b]) (by decide +kernel) rfl ?_
  refine AW.newa (atype := .int) (ty := .int) (N' := 400) (c0 := .inl (fun _ => 0)) 0 (fun _ => rfl) (fun _ e => by cases e) (tb_in 73 (by decide +kernel) (by decide +kernel)) rfl (fun _ => rfl) (fun _ => rfl) (by decide +kernel) (by decide +kernel) (Nat.le_of_ble_eq_true rfl) (by decide +kernel) (by show _ < 1000000; omega) (blk_wf wh rfl (List.forall_mem_cons.mpr ⟨(wfo (wfs_r (by omega) (wfs_i (wfs_i (wfs_r (by omega) (wfs_r (by omega) (wfs_r (by omega) (wfs_r (by omega) (wfs_r (by omega) (wfs_i (wfs_i (wfs_i (wfs_i (wfs_i (wfs_i (wfs_i (wfs_n (wfs_i (wfs_i (wfs_n (wfs_i (wfs_n (wfs_n (wfs_i (wfs_i (wfs_n (wfs_i (wfs_n (wfs_n (wfs_n (wfs_j (wfs_n (wfs_n (wfs_n (wfs_n wfs_nil))))))))))))))))))))))))))))))))))), (List.forall_mem_cons.mpr ⟨wfi, (List.forall_mem_cons.mpr ⟨wfi, (List.forall_mem_cons.mpr ⟨wfi, (List.forall_mem_cons.mpr ⟨wfi, (List.forall_mem_cons.mpr ⟨wfi, (List.forall_mem_cons.mpr ⟨wfi, (fun _ h => absurd h List.not_mem_nil)⟩)⟩)⟩)⟩)⟩)⟩)⟩)) (wfl_r (by omega) wfl_nil) (wfs_r (by omega) wfs_nil) (Nat.le_of_ble_eq_true rfl) (Nat.le_of_ble_eq_true rfl) ?_
  rw [blk_push (by rfl)]
  show AW l yy_X12_init _ _ 7 3685 61 [some (.ref b)] [.ref (b + 7), .ref b] (b + 8) (blk h b [.inr (10, [.ref (b + 1), .int 0, .int 0, .ref (b + 2), .ref (b + 3), .ref (b + 4), .ref (b + 5), .ref (b + 6), .int 0, .int 0, .int 0, .int 0, .int 0, .int 0, .int 0, .null, .int 0, .int 0, .null, .int 0, .null, .null, .int 0, .int 0, .null, .int 0, .null, .null, .null, .long 0, .null, .null, .null, .null]), .inl (.byte, 400, .inl (fun _ => 0)), .inl (.int, 2400, .inl (fun _ => 0)), .inl (.int, 7, .inl (fun _ => 0)), .inl (.int, 360, .inl (fun _ => 0)), .inl (.int, 6, .inl (fun _ => 0)), .inl (.int, 112, .inl (fun _ => 0)), .inl (.int, 400, .inl (fun _ => 0))])
  refine AW.putF ff_RX12_29 rfl (by decide +kernel) (by omega) (blk_get (j := 0) rfl) (Nat.le_of_ble_eq_true rfl) (fun _ => rfl) (fun _ => rfl) ?_
  rw [blk_set (j := 0) (by rfl) (Nat.le_of_ble_eq_true rfl)]
  show AW l yy_X12_init _ _ 7 3685 64 [some (.ref b)] [] (b + 8) (blk h b [.inr (10, [.ref (b + 1), .int 0, .int 0, .ref (b + 2), .ref (b + 3), .ref (b + 4), .ref (b + 5), .ref (b + 6), .int 0, .int 0, .int 0, .int 0, .int 0, .int 0, .int 0, .ref (b + 7), .int 0, .int 0, .null, .int 0, .null, .null, .int 0, .int 0, .null, .int 0, .null, .null, .null, .long 0, .null, .null, .null, .null]), .inl (.byte, 400, .inl (fun _ => 0)), .inl (.int, 2400, .inl (fun _ => 0)), .inl (.int, 7, .inl (fun _ => 0)), .inl (.int, 360, .inl (fun _ => 0)), .inl (.int, 6, .inl (fun _ => 0)), .inl (.int, 112, .inl (fun _ => 0)), .inl (.int, 400, .inl (fun _ => 0))])
  refine AW.run [(.aload_n 0, 0), (.bipush 64, 64)] (pc' := 67) (ls' := [some (.ref b)]) (st' := [.int 64, .ref b]) (by decide +kernel) rfl ?_
  refine AW.newa (atype := .long) (ty := .long) (N' := 64) (c0 := .inr (.inl (fun _ => 0))) 1 (fun _ => rfl) (fun _ e => by cases e) (tb_in 260 (by decide +kernel) (by decide +kernel)) rfl (fun _ => rfl) (fun _ => rfl) (by decide +kernel) (by decide +kernel) (Nat.le_of_ble_eq_true rfl) (by decide +kernel) (by show _ < 1000000; omega) (blk_wf wh rfl (List.forall_mem_cons.mpr ⟨(wfo (wfs_r (by omega) (wfs_i (wfs_i (wfs_r (by omega) (wfs_r (by omega) (wfs_r (by omega) (wfs_r (by omega) (wfs_r (by omega) (wfs_i (wfs_i (wfs_i (wfs_i (wfs_i (wfs_i (wfs_i (wfs_r (by omega) (wfs_i (wfs_i (wfs_n (wfs_i (wfs_n (wfs_n (wfs_i (wfs_i (wfs_n (wfs_i (wfs_n (wfs_n (wfs_n (wfs_j (wfs_n (wfs_n (wfs_n (wfs_n wfs_nil))))))))))))))))))))))))))))))))))), (List.forall_mem_cons.mpr ⟨wfi, (List.forall_mem_cons.mpr ⟨wfi, (List.forall_mem_cons.mpr ⟨wfi, (List.forall_mem_cons.mpr ⟨wfi, (List.forall_mem_cons.mpr ⟨wfi, (List.forall_mem_cons.mpr ⟨wfi, (List.forall_mem_cons.mpr ⟨wfi, (fun _ h => absurd h List.not_mem_nil)⟩)⟩)⟩)⟩)⟩)⟩)⟩)⟩)) (wfl_r (by omega) wfl_nil) (wfs_r (by omega) wfs_nil) (Nat.le_of_ble_eq_true rfl) (Nat.le_of_ble_eq_true rfl) ?_
  rw [blk_push (by rfl)]
  show AW l yy_X12_init _ _ 8 3749 69 [some (.ref b)] [.ref (b + 8), .ref b] (b + 9) (blk h b [.inr (10, [.ref (b + 1), .int 0, .int 0, .ref (b + 2), .ref (b + 3), .ref (b + 4), .ref (b + 5), .ref (b + 6), .int 0, .int 0, .int 0, .int 0, .int 0, .int 0, .int 0, .ref (b + 7), .int 0, .int 0, .null, .int 0, .null, .null, .int 0, .int 0, .null, .int 0, .null, .null, .null, .long 0, .null, .null, .null, .null]), .inl (.byte, 400, .inl (fun _ => 0)), .inl (.int, 2400, .inl (fun _ => 0)), .inl (.int, 7, .inl (fun _ => 0)), .inl (.int, 360, .inl (fun _ => 0)), .inl (.int, 6, .inl (fun _ => 0)), .inl (.int, 112, .inl (fun _ => 0)), .inl (.int, 400, .inl (fun _ => 0)), .inl (.long, 64, .inr (.inl (fun _ => 0)))])
  refine AW.putF ff_RX12_32 rfl (by decide +kernel) (by omega) (blk_get (j := 0) rfl) (Nat.le_of_ble_eq_true rfl) (fun _ => rfl) (fun _ => rfl) ?_
  rw [blk_set (j := 0) (by rfl) (Nat.le_of_ble_eq_true rfl)]
  show AW l yy_X12_init _ _ 8 3749 72 [some (.ref b)] [] (b + 9) (blk h b [.inr (10, [.ref (b + 1), .int 0, .int 0, .ref (b + 2), .ref (b + 3), .ref (b + 4), .ref (b + 5), .ref (b + 6), .int 0, .int 0, .int 0, .int 0, .int 0, .int 0, .int 0, .ref (b + 7), .int 0, .int 0, .ref (b + 8), .int 0, .null, .null, .int 0, .int 0, .null, .int 0, .null, .null, .null, .long 0, .null, .null, .null, .null]), .inl (.byte, 400, .inl (fun _ => 0)), .inl (.int, 2400, .inl (fun _ => 0)), .inl (.int, 7, .inl (fun _ => 0)), .inl (.int, 360, .inl (fun _ => 0)), .inl (.int, 6, .inl (fun _ => 0)), .inl (.int, 112, .inl (fun _ => 0)), .inl (.int, 400, .inl (fun _ => 0)), .inl (.long, 64, .inr (.inl (fun _ => 0)))])
  refine AW.run [(.aload_n 0, 0), (.bipush 8, 8)] (pc' := 75) (ls' := [some (.ref b)]) (st' := [.int 8, .ref b]) (by decide +kernel) rfl ?_
  refine AW.newa (atype := .long) (ty := .long) (N' := 8) (c0 := .inr (.inl (fun _ => 0))) 1 (fun _ => rfl) (fun _ e => by cases e) (tb_in 260 (by decide +kernel) (by decide +kernel)) rfl (fun _ => rfl) (fun _ => rfl) (by decide +kernel) (by decide +kernel) (Nat.le_of_ble_eq_true rfl) (by decide +kernel) (by show _ < 1000000; omega) (blk_wf wh rfl (List.forall_mem_cons.mpr ⟨(wfo (wfs_r (by omega) (wfs_i (wfs_i (wfs_r (by omega) (wfs_r (by omega) (wfs_r (by omega) (wfs_r (by omega) (wfs_r (by omega) (wfs_i (wfs_i (wfs_i (wfs_i (wfs_i (wfs_i (wfs_i (wfs_r (by omega) (wfs_i (wfs_i (wfs_r (by omega) (wfs_i (wfs_n (wfs_n (wfs_i (wfs_i (wfs_n (wfs_i (wfs_n (wfs_n (wfs_n (wfs_j (wfs_n (wfs_n (wfs_n (wfs_n wfs_nil))))))))))))))))))))))))))))))))))), (List.forall_mem_cons.mpr ⟨wfi, (List.forall_mem_cons.mpr ⟨wfi, (List.forall_mem_cons.mpr ⟨wfi, (List.forall_mem_cons.mpr ⟨wfi, (List.forall_mem_cons.mpr ⟨wfi, (List.forall_mem_cons.mpr ⟨wfi, (List.forall_mem_cons.mpr ⟨wfi, (List.forall_mem_cons.mpr ⟨wfj, (fun _ h => absurd h List.not_mem_nil)⟩)⟩)⟩)⟩)⟩)⟩)⟩)⟩)⟩)) (wfl_r (by omega) wfl_nil) (wfs_r (by omega) wfs_nil) (Nat.le_of_ble_eq_true rfl) (Nat.le_of_ble_eq_true rfl) ?_
  rw [blk_push (by rfl)]
  show AW l yy_X12_init _ _ 9 3757 77 [some (.ref b)] [.ref (b + 9), .ref b] (b + 10) (blk h b [.inr (10, [.ref (b + 1), .int 0, .int 0, .ref (b + 2), .ref (b + 3), .ref (b + 4), .ref (b + 5), .ref (b + 6), .int 0, .int 0, .int 0, .int 0, .int 0, .int 0, .int 0, .ref (b + 7), .int 0, .int 0, .ref (b + 8), .int 0, .null, .null, .int 0, .int 0, .null, .int 0, .null, .null, .null, .long 0, .null, .null, .null, .null]), .inl (.byte, 400, .inl (fun _ => 0)), .inl (.int, 2400, .inl (fun _ => 0)), .inl (.int, 7, .inl (fun _ => 0)), .inl (.int, 360, .inl (fun _ => 0)), .inl (.int, 6, .inl (fun _ => 0)), .inl (.int, 112, .inl (fun _ => 0)), .inl (.int, 400, .inl (fun _ => 0)), .inl (.long, 64, .inr (.inl (fun _ => 0))), .inl (.long, 8, .inr (.inl (fun _ => 0)))])
  refine AW.putF ff_RX12_36 rfl (by decide +kernel) (by omega) (blk_get (j := 0) rfl) (Nat.le_of_ble_eq_true rfl) (fun _ => rfl) (fun _ => rfl) ?_
  rw [blk_set (j := 0) (by rfl) (Nat.le_of_ble_eq_true rfl)]
  show AW l yy_X12_init _ _ 9 3757 80 [some (.ref b)] [] (b + 10) (blk h b [.inr (10, [.ref (b + 1), .int 0, .int 0, .ref (b + 2), .ref (b + 3), .ref (b + 4), .ref (b + 5), .ref (b + 6), .int 0, .int 0, .int 0, .int 0, .int 0, .int 0, .int 0, .ref (b + 7), .int 0, .int 0, .ref (b + 8), .int 0, .ref (b + 9), .null, .int 0, .int 0, .null, .int 0, .null, .null, .null, .long 0, .null, .null, .null, .null]), .inl (.byte, 400, .inl (fun _ => 0)), .inl (.int, 2400, .inl (fun _ => 0)), .inl (.int, 7, .inl (fun _ => 0)), .inl (.int, 360, .inl (fun _ => 0)), .inl (.int, 6, .inl (fun _ => 0)), .inl (.int, 112, .inl (fun _ => 0)), .inl (.int, 400, .inl (fun _ => 0)), .inl (.long, 64, .inr (.inl (fun _ => 0))), .inl (.long, 8, .inr (.inl (fun _ => 0)))])
  refine AW.run [(.aload_n 0, 0), (.sipush 410, 410)] (pc' := 84) (ls' := [some (.ref b)]) (st' := [.int 410, .ref b]) (by decide +kernel) rfl ?_
  refine AW.newa (atype := .int) (ty := .int) (N' := 410) (c0 := .inl (fun _ => 0)) 0 (fun _ => rfl) (fun _ e => by cases e) (tb_in 73 (by decide +kernel) (by decide +kernel)) rfl (fun _ => rfl) (fun _ => rfl) (by decide +kernel) (by decide +kernel) (Nat.le_of_ble_eq_true rfl) (by decide +kernel) (by show _ < 1000000; omega) (blk_wf wh rfl (List.forall_mem_cons.mpr ⟨(wfo (wfs_r (by omega) (wfs_i (wfs_i (wfs_r (by omega) (wfs_r (by omega) (wfs_r (by omega) (wfs_r (by omega) (wfs_r (by omega) (wfs_i (wfs_i (wfs_i (wfs_i (wfs_i (wfs_i (wfs_i (wfs_r (by omega) (wfs_i (wfs_i (wfs_r (by omega) (wfs_i (wfs_r (by omega) (wfs_n (wfs_i (wfs_i (wfs_n (wfs_i (wfs_n (wfs_n (wfs_n (wfs_j (wfs_n (wfs_n (wfs_n (wfs_n wfs_nil))))))))))))))))))))))))))))))))))), (List.forall_mem_cons.mpr ⟨wfi, (List.forall_mem_cons.mpr ⟨wfi, (List.forall_mem_cons.mpr ⟨wfi, (List.forall_mem_cons.mpr ⟨wfi, (List.forall_mem_cons.mpr ⟨wfi, (List.forall_mem_cons.mpr ⟨wfi, (List.forall_mem_cons.mpr ⟨wfi, (List.forall_mem_cons.mpr ⟨wfj, (List.forall_mem_cons.mpr ⟨wfj, (fun _ h => absurd h List.not_mem_nil)⟩)⟩)⟩)⟩)⟩)⟩)⟩)⟩)⟩)⟩)) (wfl_r (by omega) wfl_nil) (wfs_r (by omega) wfs_nil) (Nat.le_of_ble_eq_true rfl) (Nat.le_of_ble_eq_true rfl) ?_
  rw [blk_push (by rfl)]
  show AW l yy_X12_init _ _ 10 4167 86 [some (.ref b)] [.ref (b + 10), .ref b] (b + 11) (blk h b [.inr (10, [.ref (b + 1), .int 0, .int 0, .ref (b + 2), .ref (b + 3), .ref (b + 4), .ref (b + 5), .ref (b + 6), .int 0, .int 0, .int 0, .int 0, .int 0, .int 0, .int 0, .ref (b + 7), .int 0, .int 0, .ref (b + 8), .int 0, .ref (b + 9), .null, .int 0, .int 0, .null, .int 0, .null, .null, .null, .long 0, .null, .null, .null, .null]), .inl (.byte, 400, .inl (fun _ => 0)), .inl (.int, 2400, .inl (fun _ => 0)), .inl (.int, 7, .inl (fun _ => 0)), .inl (.int, 360, .inl (fun _ => 0)), .inl (.int, 6, .inl (fun _ => 0)), .inl (.int, 112, .inl (fun _ => 0)), .inl (.int, 400, .inl (fun _ => 0)), .inl (.long, 64, .inr (.inl (fun _ => 0))), .inl (.long, 8, .inr (.inl (fun _ => 0))), .inl (.int, 410, .inl (fun _ => 0))])
  refine AW.putF ff_RX12_39 rfl (by decide +kernel) (by omega) (blk_get (j := 0) rfl) (Nat.le_of_ble_eq_true rfl) (fun _ => rfl) (fun _ => rfl) ?_
  rw [blk_set (j := 0) (by rfl) (Nat.le_of_ble_eq_true rfl)]
  show AW l yy_X12_init _ _ 10 4167 89 [some (.ref b)] [] (b + 11) (blk h b [.inr (10, [.ref (b + 1), .int 0, .int 0, .ref (b + 2), .ref (b + 3), .ref (b + 4), .ref (b + 5), .ref (b + 6), .int 0, .int 0, .int 0, .int 0, .int 0, .int 0, .int 0, .ref (b + 7), .int 0, .int 0, .ref (b + 8), .int 0, .ref (b + 9), .ref (b + 10), .int 0, .int 0, .null, .int 0, .null, .null, .null, .long 0, .null, .null, .null, .null]), .inl (.byte, 400, .inl (fun _ => 0)), .inl (.int, 2400, .inl (fun _ => 0)), .inl (.int, 7, .inl (fun _ => 0)), .inl (.int, 360, .inl (fun _ => 0)), .inl (.int, 6, .inl (fun _ => 0)), .inl (.int, 112, .inl (fun _ => 0)), .inl (.int, 400, .inl (fun _ => 0)), .inl (.long, 64, .inr (.inl (fun _ => 0))), .inl (.long, 8, .inr (.inl (fun _ => 0))), .inl (.int, 410, .inl (fun _ => 0))])
  refine AW.run [(.aload_n 0, 0), (.iconst (-1), (-1))] (pc' := 91) (ls' := [some (.ref b)]) (st' := [.int (-1), .ref b]) (by decide +kernel) rfl ?_
  refine AW.putf fp_RX12_42 (by decide +kernel) (by omega) (blk_get (j := 0) rfl) (Nat.le_of_ble_eq_true rfl) (fun _ => rfl) (fun _ => rfl) ?_
  rw [blk_set (j := 0) (by rfl) (Nat.le_of_ble_eq_true rfl)]
  show AW l yy_X12_init _ _ 10 4167 94 [some (.ref b)] [] (b + 11) (blk h b [.inr (10, [.ref (b + 1), .int 0, .int 0, .ref (b + 2), .ref (b + 3), .ref (b + 4), .ref (b + 5), .ref (b + 6), .int 0, .int 0, .int 0, .int 0, .int 0, .int 0, .int 0, .ref (b + 7), .int 0, .int 0, .ref (b + 8), .int 0, .ref (b + 9), .ref (b + 10), .int (-1), .int 0, .null, .int 0, .null, .null, .null, .long 0, .null, .null, .null, .null]), .inl (.byte, 400, .inl (fun _ => 0)), .inl (.int, 2400, .inl (fun _ => 0)), .inl (.int, 7, .inl (fun _ => 0)), .inl (.int, 360, .inl (fun _ => 0)), .inl (.int, 6, .inl (fun _ => 0)), .inl (.int, 112, .inl (fun _ => 0)), .inl (.int, 400, .inl (fun _ => 0)), .inl (.long, 64, .inr (.inl (fun _ => 0))), .inl (.long, 8, .inr (.inl (fun _ => 0))), .inl (.int, 410, .inl (fun _ => 0))])
  refine AW.run [(.aload_n 0, 0), (.sipush 7040, 7040)] (pc' := 98) (ls' := [some (.ref b)]) (st' := [.int 7040, .ref b]) (by decide +kernel) rfl ?_
  refine AW.newa (atype := .int) (ty := .int) (N' := 7040) (c0 := .inl (fun _ => 0)) 0 (fun _ => rfl) (fun _ e => by cases e) (tb_in 73 (by decide +kernel) (by decide +kernel)) rfl (fun _ => rfl) (fun _ => rfl) (by decide +kernel) (by decide +kernel) (Nat.le_of_ble_eq_true rfl) (by decide +kernel) (by show _ < 1000000; omega) (blk_wf wh rfl (List.forall_mem_cons.mpr ⟨(wfo (wfs_r (by omega) (wfs_i (wfs_i (wfs_r (by omega) (wfs_r (by omega) (wfs_r (by omega) (wfs_r (by omega) (wfs_r (by omega) (wfs_i (wfs_i (wfs_i (wfs_i (wfs_i (wfs_i (wfs_i (wfs_r (by omega) (wfs_i (wfs_i (wfs_r (by omega) (wfs_i (wfs_r (by omega) (wfs_r (by omega) (wfs_i (wfs_i (wfs_n (wfs_i (wfs_n (wfs_n (wfs_n (wfs_j (wfs_n (wfs_n (wfs_n (wfs_n wfs_nil))))))))))))))))))))))))))))))))))), (List.forall_mem_cons.mpr ⟨wfi, (List.forall_mem_cons.mpr ⟨wfi, (List.forall_mem_cons.mpr ⟨wfi, (List.forall_mem_cons.mpr ⟨wfi, (List.forall_mem_cons.mpr ⟨wfi, (List.forall_mem_cons.mpr ⟨wfi, (List.forall_mem_cons.mpr ⟨wfi, (List.forall_mem_cons.mpr ⟨wfj, (List.forall_mem_cons.mpr ⟨wfj, (List.forall_mem_cons.mpr ⟨wfi, (fun _ h => absurd h List.not_mem_nil)⟩)⟩)⟩)⟩)⟩)⟩)⟩)⟩)⟩)⟩)⟩)) (wfl_r (by omega) wfl_nil) (wfs_r (by omega) wfs_nil) (Nat.le_of_ble_eq_true rfl) (Nat.le_of_ble_eq_true rfl) ?_
  rw [blk_push (by rfl)]
  show AW l yy_X12_init _ _ 11 11207 100 [some (.ref b)] [.ref (b + 11), .ref b] (b + 12) (blk h b [.inr (10, [.ref (b + 1), .int 0, .int 0, .ref (b + 2), .ref (b + 3), .ref (b + 4), .ref (b + 5), .ref (b + 6), .int 0, .int 0, .int 0, .int 0, .int 0, .int 0, .int 0, .ref (b + 7), .int 0, .int 0, .ref (b + 8), .int 0, .ref (b + 9), .ref (b + 10), .int (-1), .int 0, .null, .int 0, .null, .null, .null, .long 0, .null, .null, .null, .null]), .inl (.byte, 400, .inl (fun _ => 0)), .inl (.int, 2400, .inl (fun _ => 0)), .inl (.int, 7, .inl (fun _ => 0)), .inl (.int, 360, .inl (fun _ => 0)), .inl (.int, 6, .inl (fun _ => 0)), .inl (.int, 112, .inl (fun _ => 0)), .inl (.int, 400, .inl (fun _ => 0)), .inl (.long, 64, .inr (.inl (fun _ => 0))), .inl (.long, 8, .inr (.inl (fun _ => 0))), .inl (.int, 410, .inl (fun _ => 0)), .inl (.int, 7040, .inl (fun _ => 0))])
  refine AW.putF ff_RX12_46 rfl (by decide +kernel) (by omega) (blk_get (j := 0) rfl) (Nat.le_of_ble_eq_true rfl) (fun _ => rfl) (fun _ => rfl) ?_
  rw [blk_set (j := 0) (by rfl) (Nat.le_of_ble_eq_true rfl)]
  show AW l yy_X12_init _ _ 11 11207 103 [some (.ref b)] [] (b + 12) (blk h b [.inr (10, [.ref (b + 1), .int 0, .int 0, .ref (b + 2), .ref (b + 3), .ref (b + 4), .ref (b + 5), .ref (b + 6), .int 0, .int 0, .int 0, .int 0, .int 0, .int 0, .int 0, .ref (b + 7), .int 0, .int 0, .ref (b + 8), .int 0, .ref (b + 9), .ref (b + 10), .int (-1), .int 0, .ref (b + 11), .int 0, .null, .null, .null, .long 0, .null, .null, .null, .null]), .inl (.byte, 400, .inl (fun _ => 0)), .inl (.int, 2400, .inl (fun _ => 0)), .inl (.int, 7, .inl (fun _ => 0)), .inl (.int, 360, .inl (fun _ => 0)), .inl (.int, 6, .inl (fun _ => 0)), .inl (.int, 112, .inl (fun _ => 0)), .inl (.int, 400, .inl (fun _ => 0)), .inl (.long, 64, .inr (.inl (fun _ => 0))), .inl (.long, 8, .inr (.inl (fun _ => 0))), .inl (.int, 410, .inl (fun _ => 0)), .inl (.int, 7040, .inl (fun _ => 0))])
  refine AW.run [(.aload_n 0, 0)] (pc' := 104) (ls' := [some (.ref b)]) (st' := [.ref b]) (by decide +kernel) rfl ?_
  refine AW.ldc (idx := 49) (v := 131072) (tb_in 1052 (by decide +kernel) (by decide +kernel)) (by decide +kernel) ?_
  refine AW.newa (atype := .int) (ty := .int) (N' := 131072) (c0 := .inl (fun _ => 0)) 0 (fun _ => rfl) (fun _ e => by cases e) (tb_in 73 (by decide +kernel) (by decide +kernel)) rfl (fun _ => rfl) (fun _ => rfl) (by decide +kernel) (by decide +kernel) (Nat.le_of_ble_eq_true rfl) (by decide +kernel) (by show _ < 1000000; omega) (blk_wf wh rfl (List.forall_mem_cons.mpr ⟨(wfo (wfs_r (by omega) (wfs_i (wfs_i (wfs_r (by omega) (wfs_r (by omega) (wfs_r (by omega) (wfs_r (by omega) (wfs_r (by omega) (wfs_i (wfs_i (wfs_i (wfs_i (wfs_i (wfs_i (wfs_i (wfs_r (by omega) (wfs_i (wfs_i (wfs_r (by omega) (wfs_i (wfs_r (by omega) (wfs_r (by omega) (wfs_i (wfs_i (wfs_r (by omega) (wfs_i (wfs_n (wfs_n (wfs_n (wfs_j (wfs_n (wfs_n (wfs_n (wfs_n wfs_nil))))))))))))))))))))))))))))))))))), (List.forall_mem_cons.mpr ⟨wfi, (List.forall_mem_cons.mpr ⟨wfi, (List.forall_mem_cons.mpr ⟨wfi, (List.forall_mem_cons.mpr ⟨wfi, (List.forall_mem_cons.mpr ⟨wfi, (List.forall_mem_cons.mpr ⟨wfi, (List.forall_mem_cons.mpr ⟨wfi, (List.forall_mem_cons.mpr ⟨wfj, (List.forall_mem_cons.mpr ⟨wfj, (List.forall_mem_cons.mpr ⟨wfi, (List.forall_mem_cons.mpr ⟨wfi, (fun _ h => absurd h List.not_mem_nil)⟩)⟩)⟩)⟩)⟩)⟩)⟩)⟩)⟩)⟩)⟩)⟩)) (wfl_r (by omega) wfl_nil) (wfs_r (by omega) wfs_nil) (Nat.le_of_ble_eq_true rfl) (Nat.le_of_ble_eq_true rfl) ?_
  rw [blk_push (by rfl)]
  show AW l yy_X12_init _ _ 12 142279 108 [some (.ref b)] [.ref (b + 12), .ref b] (b + 13) (blk h b [.inr (10, [.ref (b + 1), .int 0, .int 0, .ref (b + 2), .ref (b + 3), .ref (b + 4), .ref (b + 5), .ref (b + 6), .int 0, .int 0, .int 0, .int 0, .int 0, .int 0, .int 0, .ref (b + 7), .int 0, .int 0, .ref (b + 8), .int 0, .ref (b + 9), .ref (b + 10), .int (-1), .int 0, .ref (b + 11), .int 0, .null, .null, .null, .long 0, .null, .null, .null, .null]), .inl (.byte, 400, .inl (fun _ => 0)), .inl (.int, 2400, .inl (fun _ => 0)), .inl (.int, 7, .inl (fun _ => 0)), .inl (.int, 360, .inl (fun _ => 0)), .inl (.int, 6, .inl (fun _ => 0)), .inl (.int, 112, .inl (fun _ => 0)), .inl (.int, 400, .inl (fun _ => 0)), .inl (.long, 64, .inr (.inl (fun _ => 0))), .inl (.long, 8, .inr (.inl (fun _ => 0))), .inl (.int, 410, .inl (fun _ => 0)), .inl (.int, 7040, .inl (fun _ => 0)), .inl (.int, 131072, .inl (fun _ => 0))])
  refine AW.putF ff_RX12_50 rfl (by decide +kernel) (by omega) (blk_get (j := 0) rfl) (Nat.le_of_ble_eq_true rfl) (fun _ => rfl) (fun _ => rfl) ?_
  rw [blk_set (j := 0) (by rfl) (Nat.le_of_ble_eq_true rfl)]
  show AW l yy_X12_init _ _ 12 142279 111 [some (.ref b)] [] (b + 13) (blk h b [.inr (10, [.ref (b + 1), .int 0, .int 0, .ref (b + 2), .ref (b + 3), .ref (b + 4), .ref (b + 5), .ref (b + 6), .int 0, .int 0, .int 0, .int 0, .int 0, .int 0, .int 0, .ref (b + 7), .int 0, .int 0, .ref (b + 8), .int 0, .ref (b + 9), .ref (b + 10), .int (-1), .int 0, .ref (b + 11), .int 0, .ref (b + 12), .null, .null, .long 0, .null, .null, .null, .null]), .inl (.byte, 400, .inl (fun _ => 0)), .inl (.int, 2400, .inl (fun _ => 0)), .inl (.int, 7, .inl (fun _ => 0)), .inl (.int, 360, .inl (fun _ => 0)), .inl (.int, 6, .inl (fun _ => 0)), .inl (.int, 112, .inl (fun _ => 0)), .inl (.int, 400, .inl (fun _ => 0)), .inl (.long, 64, .inr (.inl (fun _ => 0))), .inl (.long, 8, .inr (.inl (fun _ => 0))), .inl (.int, 410, .inl (fun _ => 0)), .inl (.int, 7040, .inl (fun _ => 0)), .inl (.int, 131072, .inl (fun _ => 0))])
  refine AW.run [(.aload_n 0, 0), (.sipush 256, 256)] (pc' := 115) (ls' := [some (.ref b)]) (st' := [.int 256, .ref b]) (by decide +kernel) rfl ?_
  refine AW.newa (atype := .int) (ty := .int) (N' := 256) (c0 := .inl (fun _ => 0)) 0 (fun _ => rfl) (fun _ e => by cases e) (tb_in 73 (by decide +kernel) (by decide +kernel)) rfl (fun _ => rfl) (fun _ => rfl) (by decide +kernel) (by decide +kernel) (Nat.le_of_ble_eq_true rfl) (by decide +kernel) (by show _ < 1000000; omega) (blk_wf wh rfl (List.forall_mem_cons.mpr ⟨(wfo (wfs_r (by omega) (wfs_i (wfs_i (wfs_r (by omega) (wfs_r (by omega) (wfs_r (by omega) (wfs_r (by omega) (wfs_r (by omega) (wfs_i (wfs_i (wfs_i (wfs_i (wfs_i (wfs_i (wfs_i (wfs_r (by omega) (wfs_i (wfs_i (wfs_r (by omega) (wfs_i (wfs_r (by omega) (wfs_r (by omega) (wfs_i (wfs_i (wfs_r (by omega) (wfs_i (wfs_r (by omega) (wfs_n (wfs_n (wfs_j (wfs_n (wfs_n (wfs_n (wfs_n wfs_nil))))))))))))))))))))))))))))))))))), (List.forall_mem_cons.mpr ⟨wfi, (List.forall_mem_cons.mpr ⟨wfi, (List.forall_mem_cons.mpr ⟨wfi, (List.forall_mem_cons.mpr ⟨wfi, (List.forall_mem_cons.mpr ⟨wfi, (List.forall_mem_cons.mpr ⟨wfi, (List.forall_mem_cons.mpr ⟨wfi, (List.forall_mem_cons.mpr ⟨wfj, (List.forall_mem_cons.mpr ⟨wfj, (List.forall_mem_cons.mpr ⟨wfi, (List.forall_mem_cons.mpr ⟨wfi, (List.forall_mem_cons.mpr ⟨wfi, (fun _ h => absurd h List.not_mem_nil)⟩)⟩)⟩)⟩)⟩)⟩)⟩)⟩)⟩)⟩)⟩)⟩)⟩)) (wfl_r (by omega) wfl_nil) (wfs_r (by omega) wfs_nil) (Nat.le_of_ble_eq_true rfl) (Nat.le_of_ble_eq_true rfl) ?_
  rw [blk_push (by rfl)]
  show AW l yy_X12_init _ _ 13 142535 117 [some (.ref b)] [.ref (b + 13), .ref b] (b + 14) (blk h b [.inr (10, [.ref (b + 1), .int 0, .int 0, .ref (b + 2), .ref (b + 3), .ref (b + 4), .ref (b + 5), .ref (b + 6), .int 0, .int 0, .int 0, .int 0, .int 0, .int 0, .int 0, .ref (b + 7), .int 0, .int 0, .ref (b + 8), .int 0, .ref (b + 9), .ref (b + 10), .int (-1), .int 0, .ref (b + 11), .int 0, .ref (b + 12), .null, .null, .long 0, .null, .null, .null, .null]), .inl (.byte, 400, .inl (fun _ => 0)), .inl (.int, 2400, .inl (fun _ => 0)), .inl (.int, 7, .inl (fun _ => 0)), .inl (.int, 360, .inl (fun _ => 0)), .inl (.int, 6, .inl (fun _ => 0)), .inl (.int, 112, .inl (fun _ => 0)), .inl (.int, 400, .inl (fun _ => 0)), .inl (.long, 64, .inr (.inl (fun _ => 0))), .inl (.long, 8, .inr (.inl (fun _ => 0))), .inl (.int, 410, .inl (fun _ => 0)), .inl (.int, 7040, .inl (fun _ => 0)), .inl (.int, 131072, .inl (fun _ => 0)), .inl (.int, 256, .inl (fun _ => 0))])
  refine AW.putF ff_RX12_53 rfl (by decide +kernel) (by omega) (blk_get (j := 0) rfl) (Nat.le_of_ble_eq_true rfl) (fun _ => rfl) (fun _ => rfl) ?_
  rw [blk_set (j := 0) (by rfl) (Nat.le_of_ble_eq_true rfl)]
  show AW l yy_X12_init _ _ 13 142535 120 [some (.ref b)] [] (b + 14) (blk h b [.inr (10, [.ref (b + 1), .int 0, .int 0, .ref (b + 2), .ref (b + 3), .ref (b + 4), .ref (b + 5), .ref (b + 6), .int 0, .int 0, .int 0, .int 0, .int 0, .int 0, .int 0, .ref (b + 7), .int 0, .int 0, .ref (b + 8), .int 0, .ref (b + 9), .ref (b + 10), .int (-1), .int 0, .ref (b + 11), .int 0, .ref (b + 12), .ref (b + 13), .null, .long 0, .null, .null, .null, .null]), .inl (.byte, 400, .inl (fun _ => 0)), .inl (.int, 2400, .inl (fun _ => 0)), .inl (.int, 7, .inl (fun _ => 0)), .inl (.int, 360, .inl (fun _ => 0)), .inl (.int, 6, .inl (fun _ => 0)), .inl (.int, 112, .inl (fun _ => 0)), .inl (.int, 400, .inl (fun _ => 0)), .inl (.long, 64, .inr (.inl (fun _ => 0))), .inl (.long, 8, .inr (.inl (fun _ => 0))), .inl (.int, 410, .inl (fun _ => 0)), .inl (.int, 7040, .inl (fun _ => 0)), .inl (.int, 131072, .inl (fun _ => 0)), .inl (.int, 256, .inl (fun _ => 0))])
  refine AW.run [(.aload_n 0, 0), (.sipush 352, 352)] (pc' := 124) (ls' := [some (.ref b)]) (st' := [.int 352, .ref b]) (by decide +kernel) rfl ?_
  refine AW.newa (atype := .int) (ty := .int) (N' := 352) (c0 := .inl (fun _ => 0)) 0 (fun _ => rfl) (fun _ e => by cases e) (tb_in 73 (by decide +kernel) (by decide +kernel)) rfl (fun _ => rfl) (fun _ => rfl) (by decide +kernel) (by decide +kernel) (Nat.le_of_ble_eq_true rfl) (by decide +kernel) (by show _ < 1000000; omega) (blk_wf wh rfl (List.forall_mem_cons.mpr ⟨(wfo (wfs_r (by omega) (wfs_i (wfs_i (wfs_r (by omega) (wfs_r (by omega) (wfs_r (by omega) (wfs_r (by omega) (wfs_r (by omega) (wfs_i (wfs_i (wfs_i (wfs_i (wfs_i (wfs_i (wfs_i (wfs_r (by omega) (wfs_i (wfs_i (wfs_r (by omega) (wfs_i (wfs_r (by omega) (wfs_r (by omega) (wfs_i (wfs_i (wfs_r (by omega) (wfs_i (wfs_r (by omega) (wfs_r (by omega) (wfs_n (wfs_j (wfs_n (wfs_n (wfs_n (wfs_n wfs_nil))))))))))))))))))))))))))))))))))), (List.forall_mem_cons.mpr ⟨wfi, (List.forall_mem_cons.mpr ⟨wfi, (List.forall_mem_cons.mpr ⟨wfi, (List.forall_mem_cons.mpr ⟨wfi, (List.forall_mem_cons.mpr ⟨wfi, (List.forall_mem_cons.mpr ⟨wfi, (List.forall_mem_cons.mpr ⟨wfi, (List.forall_mem_cons.mpr ⟨wfj, (List.forall_mem_cons.mpr ⟨wfj, (List.forall_mem_cons.mpr ⟨wfi, (List.forall_mem_cons.mpr ⟨wfi, (List.forall_mem_cons.mpr ⟨wfi, (List.forall_mem_cons.mpr ⟨wfi, (fun _ h => absurd h List.not_mem_nil)⟩)⟩)⟩)⟩)⟩)⟩)⟩)⟩)⟩)⟩)⟩)⟩)⟩)⟩)) (wfl_r (by omega) wfl_nil) (wfs_r (by omega) wfs_nil) (Nat.le_of_ble_eq_true rfl) (Nat.le_of_ble_eq_true rfl) ?_
  rw [blk_push (by rfl)]
  show AW l yy_X12_init _ _ 14 142887 126 [some (.ref b)] [.ref (b + 14), .ref b] (b + 15) (blk h b [.inr (10, [.ref (b + 1), .int 0, .int 0, .ref (b + 2), .ref (b + 3), .ref (b + 4), .ref (b + 5), .ref (b + 6), .int 0, .int 0, .int 0, .int 0, .int 0, .int 0, .int 0, .ref (b + 7), .int 0, .int 0, .ref (b + 8), .int 0, .ref (b + 9), .ref (b + 10), .int (-1), .int 0, .ref (b + 11), .int 0, .ref (b + 12), .ref (b + 13), .null, .long 0, .null, .null, .null, .null]), .inl (.byte, 400, .inl (fun _ => 0)), .inl (.int, 2400, .inl (fun _ => 0)), .inl (.int, 7, .inl (fun _ => 0)), .inl (.int, 360, .inl (fun _ => 0)), .inl (.int, 6, .inl (fun _ => 0)), .inl (.int, 112, .inl (fun _ => 0)), .inl (.int, 400, .inl (fun _ => 0)), .inl (.long, 64, .inr (.inl (fun _ => 0))), .inl (.long, 8, .inr (.inl (fun _ => 0))), .inl (.int, 410, .inl (fun _ => 0)), .inl (.int, 7040, .inl (fun _ => 0)), .inl (.int, 131072, .inl (fun _ => 0)), .inl (.int, 256, .inl (fun _ => 0)), .inl (.int, 352, .inl (fun _ => 0))])
  refine AW.putF ff_RX12_56 rfl (by decide +kernel) (by omega) (blk_get (j := 0) rfl) (Nat.le_of_ble_eq_true rfl) (fun _ => rfl) (fun _ => rfl) ?_
  rw [blk_set (j := 0) (by rfl) (Nat.le_of_ble_eq_true rfl)]
  show AW l yy_X12_init _ _ 14 142887 129 [some (.ref b)] [] (b + 15) (blk h b [.inr (10, [.ref (b + 1), .int 0, .int 0, .ref (b + 2), .ref (b + 3), .ref (b + 4), .ref (b + 5), .ref (b + 6), .int 0, .int 0, .int 0, .int 0, .int 0, .int 0, .int 0, .ref (b + 7), .int 0, .int 0, .ref (b + 8), .int 0, .ref (b + 9), .ref (b + 10), .int (-1), .int 0, .ref (b + 11), .int 0, .ref (b + 12), .ref (b + 13), .ref (b + 14), .long 0, .null, .null, .null, .null]), .inl (.byte, 400, .inl (fun _ => 0)), .inl (.int, 2400, .inl (fun _ => 0)), .inl (.int, 7, .inl (fun _ => 0)), .inl (.int, 360, .inl (fun _ => 0)), .inl (.int, 6, .inl (fun _ => 0)), .inl (.int, 112, .inl (fun _ => 0)), .inl (.int, 400, .inl (fun _ => 0)), .inl (.long, 64, .inr (.inl (fun _ => 0))), .inl (.long, 8, .inr (.inl (fun _ => 0))), .inl (.int, 410, .inl (fun _ => 0)), .inl (.int, 7040, .inl (fun _ => 0)), .inl (.int, 131072, .inl (fun _ => 0)), .inl (.int, 256, .inl (fun _ => 0)), .inl (.int, 352, .inl (fun _ => 0))])
  refine AW.run [(.aload_n 0, 0), (.sipush 1640, 1640)] (pc' := 133) (ls' := [some (.ref b)]) (st' := [.int 1640, .ref b]) (by decide +kernel) rfl ?_
  refine AW.newa (atype := .int) (ty := .int) (N' := 1640) (c0 := .inl (fun _ => 0)) 0 (fun _ => rfl) (fun _ e => by cases e) (tb_in 73 (by decide +kernel) (by decide +kernel)) rfl (fun _ => rfl) (fun _ => rfl) (by decide +kernel) (by decide +kernel) (Nat.le_of_ble_eq_true rfl) (by decide +kernel) (by show _ < 1000000; omega) (blk_wf wh rfl (List.forall_mem_cons.mpr ⟨(wfo (wfs_r (by omega) (wfs_i (wfs_i (wfs_r (by omega) (wfs_r (by omega) (wfs_r (by omega) (wfs_r (by omega) (wfs_r (by omega) (wfs_i (wfs_i (wfs_i (wfs_i (wfs_i (wfs_i (wfs_i (wfs_r (by omega) (wfs_i (wfs_i (wfs_r (by omega) (wfs_i (wfs_r (by omega) (wfs_r (by omega) (wfs_i (wfs_i (wfs_r (by omega) (wfs_i (wfs_r (by omega) (wfs_r (by omega) (wfs_r (by omega) (wfs_j (wfs_n (wfs_n (wfs_n (wfs_n wfs_nil))))))))))))))))))))))))))))))))))), (List.forall_mem_cons.mpr ⟨wfi, (List.forall_mem_cons.mpr ⟨wfi, (List.forall_mem_cons.mpr ⟨wfi, (List.forall_mem_cons.mpr ⟨wfi, (List.forall_mem_cons.mpr ⟨wfi, (List.forall_mem_cons.mpr ⟨wfi, (List.forall_mem_cons.mpr ⟨wfi, (List.forall_mem_cons.mpr ⟨wfj, (List.forall_mem_cons.mpr ⟨wfj, (List.forall_mem_cons.mpr ⟨wfi, (List.forall_mem_cons.mpr ⟨wfi, (List.forall_mem_cons.mpr ⟨wfi, (List.forall_mem_cons.mpr ⟨wfi, (List.forall_mem_cons.mpr ⟨wfi, (fun _ h => absurd h List.not_mem_nil)⟩)⟩)⟩)⟩)⟩)⟩)⟩)⟩)⟩)⟩)⟩)⟩)⟩)⟩)⟩)) (wfl_r (by omega) wfl_nil) (wfs_r (by omega) wfs_nil) (Nat.le_of_ble_eq_true rfl) (Nat.le_of_ble_eq_true rfl) ?_
  rw [blk_push (by rfl)]
  show AW l yy_X12_init _ _ 15 144527 135 [some (.ref b)] [.ref (b + 15), .ref b] (b + 16) (blk h b [.inr (10, [.ref (b + 1), .int 0, .int 0, .ref (b + 2), .ref (b + 3), .ref (b + 4), .ref (b + 5), .ref (b + 6), .int 0, .int 0, .int 0, .int 0, .int 0, .int 0, .int 0, .ref (b + 7), .int 0, .int 0, .ref (b + 8), .int 0, .ref (b + 9), .ref (b + 10), .int (-1), .int 0, .ref (b + 11), .int 0, .ref (b + 12), .ref (b + 13), .ref (b + 14), .long 0, .null, .null, .null, .null]), .inl (.byte, 400, .inl (fun _ => 0)), .inl (.int, 2400, .inl (fun _ => 0)), .inl (.int, 7, .inl (fun _ => 0)), .inl (.int, 360, .inl (fun _ => 0)), .inl (.int, 6, .inl (fun _ => 0)), .inl (.int, 112, .inl (fun _ => 0)), .inl (.int, 400, .inl (fun _ => 0)), .inl (.long, 64, .inr (.inl (fun _ => 0))), .inl (.long, 8, .inr (.inl (fun _ => 0))), .inl (.int, 410, .inl (fun _ => 0)), .inl (.int, 7040, .inl (fun _ => 0)), .inl (.int, 131072, .inl (fun _ => 0)), .inl (.int, 256, .inl (fun _ => 0)), .inl (.int, 352, .inl (fun _ => 0)), .inl (.int, 1640, .inl (fun _ => 0))])
  refine AW.putF ff_RX12_59 rfl (by decide +kernel) (by omega) (blk_get (j := 0) rfl) (Nat.le_of_ble_eq_true rfl) (fun _ => rfl) (fun _ => rfl) ?_
  rw [blk_set (j := 0) (by rfl) (Nat.le_of_ble_eq_true rfl)]
  show AW l yy_X12_init _ _ 15 144527 138 [some (.ref b)] [] (b + 16) (blk h b [.inr (10, [.ref (b + 1), .int 0, .int 0, .ref (b + 2), .ref (b + 3), .ref (b + 4), .ref (b + 5), .ref (b + 6), .int 0, .int 0, .int 0, .int 0, .int 0, .int 0, .int 0, .ref (b + 7), .int 0, .int 0, .ref (b + 8), .int 0, .ref (b + 9), .ref (b + 10), .int (-1), .int 0, .ref (b + 11), .int 0, .ref (b + 12), .ref (b + 13), .ref (b + 14), .long 0, .ref (b + 15), .null, .null, .null]), .inl (.byte, 400, .inl (fun _ => 0)), .inl (.int, 2400, .inl (fun _ => 0)), .inl (.int, 7, .inl (fun _ => 0)), .inl (.int, 360, .inl (fun _ => 0)), .inl (.int, 6, .inl (fun _ => 0)), .inl (.int, 112, .inl (fun _ => 0)), .inl (.int, 400, .inl (fun _ => 0)), .inl (.long, 64, .inr (.inl (fun _ => 0))), .inl (.long, 8, .inr (.inl (fun _ => 0))), .inl (.int, 410, .inl (fun _ => 0)), .inl (.int, 7040, .inl (fun _ => 0)), .inl (.int, 131072, .inl (fun _ => 0)), .inl (.int, 256, .inl (fun _ => 0)), .inl (.int, 352, .inl (fun _ => 0)), .inl (.int, 1640, .inl (fun _ => 0))])
  refine AW.run [(.aload_n 0, 0), (.iconst 4, 4)] (pc' := 140) (ls' := [some (.ref b)]) (st' := [.int 4, .ref b]) (by decide +kernel) rfl ?_
  refine AW.newa (atype := .int) (ty := .int) (N' := 4) (c0 := .inl (fun _ => 0)) 0 (fun _ => rfl) (fun _ e => by cases e) (tb_in 73 (by decide +kernel) (by decide +kernel)) rfl (fun _ => rfl) (fun _ => rfl) (by decide +kernel) (by decide +kernel) (Nat.le_of_ble_eq_true rfl) (by decide +kernel) (by show _ < 1000000; omega) (blk_wf wh rfl (List.forall_mem_cons.mpr ⟨(wfo (wfs_r (by omega) (wfs_i (wfs_i (wfs_r (by omega) (wfs_r (by omega) (wfs_r (by omega) (wfs_r (by omega) (wfs_r (by omega) (wfs_i (wfs_i (wfs_i (wfs_i (wfs_i (wfs_i (wfs_i (wfs_r (by omega) (wfs_i (wfs_i (wfs_r (by omega) (wfs_i (wfs_r (by omega) (wfs_r (by omega) (wfs_i (wfs_i (wfs_r (by omega) (wfs_i (wfs_r (by omega) (wfs_r (by omega) (wfs_r (by omega) (wfs_j (wfs_r (by omega) (wfs_n (wfs_n (wfs_n wfs_nil))))))))))))))))))))))))))))))))))), (List.forall_mem_cons.mpr ⟨wfi, (List.forall_mem_cons.mpr ⟨wfi, (List.forall_mem_cons.mpr ⟨wfi, (List.forall_mem_cons.mpr ⟨wfi, (List.forall_mem_cons.mpr ⟨wfi, (List.forall_mem_cons.mpr ⟨wfi, (List.forall_mem_cons.mpr ⟨wfi, (List.forall_mem_cons.mpr ⟨wfj, (List.forall_mem_cons.mpr ⟨wfj, (List.forall_mem_cons.mpr ⟨wfi, (List.forall_mem_cons.mpr ⟨wfi, (List.forall_mem_cons.mpr ⟨wfi, (List.forall_mem_cons.mpr ⟨wfi, (List.forall_mem_cons.mpr ⟨wfi, (List.forall_mem_cons.mpr ⟨wfi, (fun _ h => absurd h List.not_mem_nil)⟩)⟩)⟩)⟩)⟩)⟩)⟩)⟩)⟩)⟩)⟩)⟩)⟩)⟩)⟩)⟩)) (wfl_r (by omega) wfl_nil) (wfs_r (by omega) wfs_nil) (Nat.le_of_ble_eq_true rfl) (Nat.le_of_ble_eq_true rfl) ?_
  rw [blk_push (by rfl)]
  show AW l yy_X12_init _ _ 16 144531 142 [some (.ref b)] [.ref (b + 16), .ref b] (b + 17) (blk h b [.inr (10, [.ref (b + 1), .int 0, .int 0, .ref (b + 2), .ref (b + 3), .ref (b + 4), .ref (b + 5), .ref (b + 6), .int 0, .int 0, .int 0, .int 0, .int 0, .int 0, .int 0, .ref (b + 7), .int 0, .int 0, .ref (b + 8), .int 0, .ref (b + 9), .ref (b + 10), .int (-1), .int 0, .ref (b + 11), .int 0, .ref (b + 12), .ref (b + 13), .ref (b + 14), .long 0, .ref (b + 15), .null, .null, .null]), .inl (.byte, 400, .inl (fun _ => 0)), .inl (.int, 2400, .inl (fun _ => 0)), .inl (.int, 7, .inl (fun _ => 0)), .inl (.int, 360, .inl (fun _ => 0)), .inl (.int, 6, .inl (fun _ => 0)), .inl (.int, 112, .inl (fun _ => 0)), .inl (.int, 400, .inl (fun _ => 0)), .inl (.long, 64, .inr (.inl (fun _ => 0))), .inl (.long, 8, .inr (.inl (fun _ => 0))), .inl (.int, 410, .inl (fun _ => 0)), .inl (.int, 7040, .inl (fun _ => 0)), .inl (.int, 131072, .inl (fun _ => 0)), .inl (.int, 256, .inl (fun _ => 0)), .inl (.int, 352, .inl (fun _ => 0)), .inl (.int, 1640, .inl (fun _ => 0)), .inl (.int, 4, .inl (fun _ => 0))])
  refine AW.putF ff_RX12_62 rfl (by decide +kernel) (by omega) (blk_get (j := 0) rfl) (Nat.le_of_ble_eq_true rfl) (fun _ => rfl) (fun _ => rfl) ?_
  rw [blk_set (j := 0) (by rfl) (Nat.le_of_ble_eq_true rfl)]
  show AW l yy_X12_init _ _ 16 144531 145 [some (.ref b)] [] (b + 17) (blk h b [.inr (10, [.ref (b + 1), .int 0, .int 0, .ref (b + 2), .ref (b + 3), .ref (b + 4), .ref (b + 5), .ref (b + 6), .int 0, .int 0, .int 0, .int 0, .int 0, .int 0, .int 0, .ref (b + 7), .int 0, .int 0, .ref (b + 8), .int 0, .ref (b + 9), .ref (b + 10), .int (-1), .int 0, .ref (b + 11), .int 0, .ref (b + 12), .ref (b + 13), .ref (b + 14), .long 0, .ref (b + 15), .ref (b + 16), .null, .null]), .inl (.byte, 400, .inl (fun _ => 0)), .inl (.int, 2400, .inl (fun _ => 0)), .inl (.int, 7, .inl (fun _ => 0)), .inl (.int, 360, .inl (fun _ => 0)), .inl (.int, 6, .inl (fun _ => 0)), .inl (.int, 112, .inl (fun _ => 0)), .inl (.int, 400, .inl (fun _ => 0)), .inl (.long, 64, .inr (.inl (fun _ => 0))), .inl (.long, 8, .inr (.inl (fun _ => 0))), .inl (.int, 410, .inl (fun _ => 0)), .inl (.int, 7040, .inl (fun _ => 0)), .inl (.int, 131072, .inl (fun _ => 0)), .inl (.int, 256, .inl (fun _ => 0)), .inl (.int, 352, .inl (fun _ => 0)), .inl (.int, 1640, .inl (fun _ => 0)), .inl (.int, 4, .inl (fun _ => 0))])
  refine AW.run [(.aload_n 0, 0), (.iconst 4, 4)] (pc' := 147) (ls' := [some (.ref b)]) (st' := [.int 4, .ref b]) (by decide +kernel) rfl ?_
  refine AW.newa (atype := .int) (ty := .int) (N' := 4) (c0 := .inl (fun _ => 0)) 0 (fun _ => rfl) (fun _ e => by cases e) (tb_in 73 (by decide +kernel) (by decide +kernel)) rfl (fun _ => rfl) (fun _ => rfl) (by decide +kernel) (by decide +kernel) (Nat.le_of_ble_eq_true rfl) (by decide +kernel) (by show _ < 1000000; omega) (blk_wf wh rfl (List.forall_mem_cons.mpr ⟨(wfo (wfs_r (by omega) (wfs_i (wfs_i (wfs_r (by omega) (wfs_r (by omega) (wfs_r (by omega) (wfs_r (by omega) (wfs_r (by omega) (wfs_i (wfs_i (wfs_i (wfs_i (wfs_i (wfs_i (wfs_i (wfs_r (by omega) (wfs_i (wfs_i (wfs_r (by omega) (wfs_i (wfs_r (by omega) (wfs_r (by omega) (wfs_i (wfs_i (wfs_r (by omega) (wfs_i (wfs_r (by omega) (wfs_r (by omega) (wfs_r (by omega) (wfs_j (wfs_r (by omega) (wfs_r (by omega) (wfs_n (wfs_n wfs_nil))))))))))))))))))))))))))))))))))), (List.forall_mem_cons.mpr ⟨wfi, (List.forall_mem_cons.mpr ⟨wfi, (List.forall_mem_cons.mpr ⟨wfi, (List.forall_mem_cons.mpr ⟨wfi, (List.forall_mem_cons.mpr ⟨wfi, (List.forall_mem_cons.mpr ⟨wfi, (List.forall_mem_cons.mpr ⟨wfi, (List.forall_mem_cons.mpr ⟨wfj, (List.forall_mem_cons.mpr ⟨wfj, (List.forall_mem_cons.mpr ⟨wfi, (List.forall_mem_cons.mpr ⟨wfi, (List.forall_mem_cons.mpr ⟨wfi, (List.forall_mem_cons.mpr ⟨wfi, (List.forall_mem_cons.mpr ⟨wfi, (List.forall_mem_cons.mpr ⟨wfi, (List.forall_mem_cons.mpr ⟨wfi, (fun _ h => absurd h List.not_mem_nil)⟩)⟩)⟩)⟩)⟩)⟩)⟩)⟩)⟩)⟩)⟩)⟩)⟩)⟩)⟩)⟩)⟩)) (wfl_r (by omega) wfl_nil) (wfs_r (by omega) wfs_nil) (Nat.le_of_ble_eq_true rfl) (Nat.le_of_ble_eq_true rfl) ?_
  rw [blk_push (by rfl)]
  show AW l yy_X12_init _ _ 17 144535 149 [some (.ref b)] [.ref (b + 17), .ref b] (b + 18) (blk h b [.inr (10, [.ref (b + 1), .int 0, .int 0, .ref (b + 2), .ref (b + 3), .ref (b + 4), .ref (b + 5), .ref (b + 6), .int 0, .int 0, .int 0, .int 0, .int 0, .int 0, .int 0, .ref (b + 7), .int 0, .int 0, .ref (b + 8), .int 0, .ref (b + 9), .ref (b + 10), .int (-1), .int 0, .ref (b + 11), .int 0, .ref (b + 12), .ref (b + 13), .ref (b + 14), .long 0, .ref (b + 15), .ref (b + 16), .null, .null]), .inl (.byte, 400, .inl (fun _ => 0)), .inl (.int, 2400, .inl (fun _ => 0)), .inl (.int, 7, .inl (fun _ => 0)), .inl (.int, 360, .inl (fun _ => 0)), .inl (.int, 6, .inl (fun _ => 0)), .inl (.int, 112, .inl (fun _ => 0)), .inl (.int, 400, .inl (fun _ => 0)), .inl (.long, 64, .inr (.inl (fun _ => 0))), .inl (.long, 8, .inr (.inl (fun _ => 0))), .inl (.int, 410, .inl (fun _ => 0)), .inl (.int, 7040, .inl (fun _ => 0)), .inl (.int, 131072, .inl (fun _ => 0)), .inl (.int, 256, .inl (fun _ => 0)), .inl (.int, 352, .inl (fun _ => 0)), .inl (.int, 1640, .inl (fun _ => 0)), .inl (.int, 4, .inl (fun _ => 0)), .inl (.int, 4, .inl (fun _ => 0))])
  refine AW.putF ff_RX12_65 rfl (by decide +kernel) (by omega) (blk_get (j := 0) rfl) (Nat.le_of_ble_eq_true rfl) (fun _ => rfl) (fun _ => rfl) ?_
  rw [blk_set (j := 0) (by rfl) (Nat.le_of_ble_eq_true rfl)]
  show AW l yy_X12_init _ _ 17 144535 152 [some (.ref b)] [] (b + 18) (blk h b [.inr (10, [.ref (b + 1), .int 0, .int 0, .ref (b + 2), .ref (b + 3), .ref (b + 4), .ref (b + 5), .ref (b + 6), .int 0, .int 0, .int 0, .int 0, .int 0, .int 0, .int 0, .ref (b + 7), .int 0, .int 0, .ref (b + 8), .int 0, .ref (b + 9), .ref (b + 10), .int (-1), .int 0, .ref (b + 11), .int 0, .ref (b + 12), .ref (b + 13), .ref (b + 14), .long 0, .ref (b + 15), .ref (b + 16), .ref (b + 17), .null]), .inl (.byte, 400, .inl (fun _ => 0)), .inl (.int, 2400, .inl (fun _ => 0)), .inl (.int, 7, .inl (fun _ => 0)), .inl (.int, 360, .inl (fun _ => 0)), .inl (.int, 6, .inl (fun _ => 0)), .inl (.int, 112, .inl (fun _ => 0)), .inl (.int, 400, .inl (fun _ => 0)), .inl (.long, 64, .inr (.inl (fun _ => 0))), .inl (.long, 8, .inr (.inl (fun _ => 0))), .inl (.int, 410, .inl (fun _ => 0)), .inl (.int, 7040, .inl (fun _ => 0)), .inl (.int, 131072, .inl (fun _ => 0)), .inl (.int, 256, .inl (fun _ => 0)), .inl (.int, 352, .inl (fun _ => 0)), .inl (.int, 1640, .inl (fun _ => 0)), .inl (.int, 4, .inl (fun _ => 0)), .inl (.int, 4, .inl (fun _ => 0))])
  refine AW.run [(.aload_n 0, 0), (.iconst 4, 4)] (pc' := 154) (ls' := [some (.ref b)]) (st' := [.int 4, .ref b]) (by decide +kernel) rfl ?_
  refine AW.newa (atype := .boolean) (ty := .boolean) (N' := 4) (c0 := .inl (fun _ => 0)) 3 (fun _ => rfl) (fun _ e => by cases e) (tb_in 238 (by decide +kernel) (by decide +kernel)) rfl (fun _ => rfl) (fun _ => rfl) (by decide +kernel) (by decide +kernel) (Nat.le_of_ble_eq_true rfl) (by decide +kernel) (by show _ < 1000000; omega) (blk_wf wh rfl (List.forall_mem_cons.mpr ⟨(wfo (wfs_r (by omega) (wfs_i (wfs_i (wfs_r (by omega) (wfs_r (by omega) (wfs_r (by omega) (wfs_r (by omega) (wfs_r (by omega) (wfs_i (wfs_i (wfs_i (wfs_i (wfs_i (wfs_i (wfs_i (wfs_r (by omega) (wfs_i (wfs_i (wfs_r (by omega) (wfs_i (wfs_r (by omega) (wfs_r (by omega) (wfs_i (wfs_i (wfs_r (by omega) (wfs_i (wfs_r (by omega) (wfs_r (by omega) (wfs_r (by omega) (wfs_j (wfs_r (by omega) (wfs_r (by omega) (wfs_r (by omega) (wfs_n wfs_nil))))))))))))))))))))))))))))))))))), (List.forall_mem_cons.mpr ⟨wfi, (List.forall_mem_cons.mpr ⟨wfi, (List.forall_mem_cons.mpr ⟨wfi, (List.forall_mem_cons.mpr ⟨wfi, (List.forall_mem_cons.mpr ⟨wfi, (List.forall_mem_cons.mpr ⟨wfi, (List.forall_mem_cons.mpr ⟨wfi, (List.forall_mem_cons.mpr ⟨wfj, (List.forall_mem_cons.mpr ⟨wfj, (List.forall_mem_cons.mpr ⟨wfi, (List.forall_mem_cons.mpr ⟨wfi, (List.forall_mem_cons.mpr ⟨wfi, (List.forall_mem_cons.mpr ⟨wfi, (List.forall_mem_cons.mpr ⟨wfi, (List.forall_mem_cons.mpr ⟨wfi, (List.forall_mem_cons.mpr ⟨wfi, (List.forall_mem_cons.mpr ⟨wfi, (fun _ h => absurd h List.not_mem_nil)⟩)⟩)⟩)⟩)⟩)⟩)⟩)⟩)⟩)⟩)⟩)⟩)⟩)⟩)⟩)⟩)⟩)⟩)) (wfl_r (by omega) wfl_nil) (wfs_r (by omega) wfs_nil) (Nat.le_of_ble_eq_true rfl) (Nat.le_of_ble_eq_true rfl) ?_
  rw [blk_push (by rfl)]
  show AW l yy_X12_init _ _ 18 144539 156 [some (.ref b)] [.ref (b + 18), .ref b] (b + 19) (blk h b [.inr (10, [.ref (b + 1), .int 0, .int 0, .ref (b + 2), .ref (b + 3), .ref (b + 4), .ref (b + 5), .ref (b + 6), .int 0, .int 0, .int 0, .int 0, .int 0, .int 0, .int 0, .ref (b + 7), .int 0, .int 0, .ref (b + 8), .int 0, .ref (b + 9), .ref (b + 10), .int (-1), .int 0, .ref (b + 11), .int 0, .ref (b + 12), .ref (b + 13), .ref (b + 14), .long 0, .ref (b + 15), .ref (b + 16), .ref (b + 17), .null]), .inl (.byte, 400, .inl (fun _ => 0)), .inl (.int, 2400, .inl (fun _ => 0)), .inl (.int, 7, .inl (fun _ => 0)), .inl (.int, 360, .inl (fun _ => 0)), .inl (.int, 6, .inl (fun _ => 0)), .inl (.int, 112, .inl (fun _ => 0)), .inl (.int, 400, .inl (fun _ => 0)), .inl (.long, 64, .inr (.inl (fun _ => 0))), .inl (.long, 8, .inr (.inl (fun _ => 0))), .inl (.int, 410, .inl (fun _ => 0)), .inl (.int, 7040, .inl (fun _ => 0)), .inl (.int, 131072, .inl (fun _ => 0)), .inl (.int, 256, .inl (fun _ => 0)), .inl (.int, 352, .inl (fun _ => 0)), .inl (.int, 1640, .inl (fun _ => 0)), .inl (.int, 4, .inl (fun _ => 0)), .inl (.int, 4, .inl (fun _ => 0)), .inl (.boolean, 4, .inl (fun _ => 0))])
  refine AW.putF ff_RX12_68 rfl (by decide +kernel) (by omega) (blk_get (j := 0) rfl) (Nat.le_of_ble_eq_true rfl) (fun _ => rfl) (fun _ => rfl) ?_
  rw [blk_set (j := 0) (by rfl) (Nat.le_of_ble_eq_true rfl)]
  show AW l yy_X12_init _ _ 18 144539 159 [some (.ref b)] [] (b + 19) (blk h b [.inr (10, [.ref (b + 1), .int 0, .int 0, .ref (b + 2), .ref (b + 3), .ref (b + 4), .ref (b + 5), .ref (b + 6), .int 0, .int 0, .int 0, .int 0, .int 0, .int 0, .int 0, .ref (b + 7), .int 0, .int 0, .ref (b + 8), .int 0, .ref (b + 9), .ref (b + 10), .int (-1), .int 0, .ref (b + 11), .int 0, .ref (b + 12), .ref (b + 13), .ref (b + 14), .long 0, .ref (b + 15), .ref (b + 16), .ref (b + 17), .ref (b + 18)]), .inl (.byte, 400, .inl (fun _ => 0)), .inl (.int, 2400, .inl (fun _ => 0)), .inl (.int, 7, .inl (fun _ => 0)), .inl (.int, 360, .inl (fun _ => 0)), .inl (.int, 6, .inl (fun _ => 0)), .inl (.int, 112, .inl (fun _ => 0)), .inl (.int, 400, .inl (fun _ => 0)), .inl (.long, 64, .inr (.inl (fun _ => 0))), .inl (.long, 8, .inr (.inl (fun _ => 0))), .inl (.int, 410, .inl (fun _ => 0)), .inl (.int, 7040, .inl (fun _ => 0)), .inl (.int, 131072, .inl (fun _ => 0)), .inl (.int, 256, .inl (fun _ => 0)), .inl (.int, 352, .inl (fun _ => 0)), .inl (.int, 1640, .inl (fun _ => 0)), .inl (.int, 4, .inl (fun _ => 0)), .inl (.int, 4, .inl (fun _ => 0)), .inl (.boolean, 4, .inl (fun _ => 0))])
  exact AW.vret rfl (by decide +kernel) (Nat.le_refl _) (Nat.le_refl _) ⟨rfl, rfl, rfl⟩
end
section
/-! ===== the constructor of the class itself ===== -/
theorem blk_one {h : aH} {b : Nat} {e : aE} : blk h b [e] = va_up h b e := by
  funext q
  unfold blk va_up
  by_cases a : q = b
  · subst a
    simp
  · rw [if_neg a, if_neg (by simp; omega)]
theorem wf_up {n m : Nat} {e : aE} (hm : n ≤ m) (h : wfE n e) : wfE m e := by
  have up : ∀ q, wfK n q → wfK m q := fun q hq => hq.elim (fun z => Or.inl (by omega)) Or.inr
  exact ⟨fun ty len f e j q hj => up q (h.1 ty len f e j q hj), fun ci fs e v hv q hq => up q (h.2 ci fs e v hv q hq)⟩
theorem wf_push {n : Nat} {H : aH} {e : aE} (hw : wfH n H) (he : wfE (n + 1) e) : wfH (n + 1) (va_up H n e) := by
  intro k hk
  by_cases a : k = n
  · subst a
    rw [va_up_self]
    exact he
  · rw [va_up_ne _ _ a]
    exact wf_up (Nat.le_succ n) (hw k (by omega))
theorem wf_set {n k : Nat} {H : aH} {e : aE} (hw : wfH n H) (he : wfE n e) : wfH n (va_up H k e) := by
  intro j hj
  by_cases a : j = k
  · subst a
    rw [va_up_self]
    exact he
  · rw [va_up_ne _ _ a]
    exact hw j hj
theorem wfq0 {n len : Nat} {ty : FieldType} : wfE n (.inl (ty, len, .inr (.inr (.inr (.inr (fun _ => none)))))) := ⟨fun _ _ _ e => (by cases e; intro j k h; cases h), fun _ _ e => (by cases e)⟩
theorem wfqu {n len i k : Nat} {ty : FieldType} {f : Nat → Option Nat} (h : wfE n (.inl (ty, len, .inr (.inr (.inr (.inr f)))))) (hk : k < n) : wfE n (.inl (ty, len, .inr (.inr (.inr (.inr (va_up f i (some k))))))) := by
  refine ⟨fun _ _ g e => ?_, fun _ _ e => (by cases e)⟩
  cases e
  intro j q hj
  by_cases a : j = i
  · subst a
    rw [va_up_self] at hj
    cases hj
    exact Or.inl hk
  · rw [va_up_ne _ _ a] at hj
    exact h.1 _ _ _ rfl j q hj
theorem kJ_X10_init {l : Launch} (h : aH) (b : Nat) (hb : b + 5 ≤ 1000000) (wh : wfH b h) : AOk l yy_X10_init (rmA 1 4 1603) (fun r n' h' => r = none ∧ n' = b + 5 ∧ h' = blk h b [.inr (8, [.ref (b + 1), .ref (b + 2), .ref (b + 3), .ref (b + 4), .int 0, .int 0, .int 0, .int 0, .int 0, .int 0]), .inl (.int, 400, .inl (fun _ => 0)), .inl (.int, 401, .inl (fun _ => 0)), .inl (.int, 401, .inl (fun _ => 0)), .inl (.int, 401, .inl (fun _ => 0))]) [.ref b] (b + 1) (va_up h b (.inr (8, [.null, .null, .null, .null, .int 0, .int 0, .int 0, .int 0, .int 0, .int 0]))) := by
  rw [← blk_one]
  exact kI_X10_init h b hb wh
theorem kJ_X7_init {l : Launch} (h : aH) (b : Nat) (hb : b + 6 ≤ 1000000) (wh : wfH b h) : AOk l yy_X7_init (rmA 1 5 448) (fun r n' h' => r = none ∧ n' = b + 6 ∧ h' = blk h b [.inr (6, [.ref (b + 1), .ref (b + 2), .ref (b + 3), .ref (b + 4), .ref (b + 5), .int 0, .int 0, .int 0]), .inl (.int, 400, .inl (fun _ => 0)), .inl (.int, 12, .inl (fun _ => 0)), .inl (.int, 12, .inl (fun _ => 0)), .inl (.int, 12, .inl (fun _ => 0)), .inl (.int, 12, .inl (fun _ => 0))]) [.ref b] (b + 1) (va_up h b (.inr (6, [.null, .null, .null, .null, .null, .int 0, .int 0, .int 0]))) := by
  rw [← blk_one]
  exact kI_X7_init h b hb wh
theorem kJ_X2_init {l : Launch} (h : aH) (b : Nat) (hb : b + 12 ≤ 1000000) (wh : wfH b h) : AOk l yy_X2_init (rmA 2 11 444) (fun r n' h' => r = none ∧ n' = b + 12 ∧ h' = blk h b [.inr (2, [.ref (b + 1), .ref (b + 2), .ref (b + 3), .ref (b + 4), .ref (b + 5), .ref (b + 6), .ref (b + 8), .ref (b + 10), .int 0, .int 0, .int 0, .int 0, .int 0, .int (-1), .int 0]), .inl (.int, 8, .inl (fun _ => 0)), .inl (.int, 8, .inl (fun _ => 0)), .inl (.int, 8, .inl (fun _ => 0)), .inl (.int, 8, .inl (fun _ => 0)), .inl (.int, 64, .inl (fun _ => 0)), .inr (5, [.ref (b + 7), .int 7, .int 40, .int 0]), .inl (.int, 280, .inl (fun _ => 0)), .inr (5, [.ref (b + 9), .int 4, .int 10, .int 0]), .inl (.int, 40, .inl (fun _ => 0)), .inr (5, [.ref (b + 11), .int 2, .int 8, .int 0]), .inl (.int, 16, .inl (fun _ => 0))]) [.ref b] (b + 1) (va_up h b (.inr (2, [.null, .null, .null, .null, .null, .null, .null, .null, .int 0, .int 0, .int 0, .int 0, .int 0, .int 0, .int 0]))) := by
  rw [← blk_one]
  exact kI_X2_init h b hb wh
theorem kJ_X1_init {l : Launch} (h : aH) (b : Nat) (hb : b + 2 ≤ 1000000) (wh : wfH b h) : AOk l yy_X1_init (rmA 1 1 400) (fun r n' h' => r = none ∧ n' = b + 2 ∧ h' = blk h b [.inr (1, [.ref (b + 1), .int 0, .int 0]), .inl (.int, 400, .inl (fun _ => 0))]) [.ref b] (b + 1) (va_up h b (.inr (1, [.null, .int 0, .int 0]))) := by
  rw [← blk_one]
  exact kI_X1_init h b hb wh
theorem kJ_X4_init {l : Launch} (h : aH) (b : Nat) (hb : b + 5 ≤ 1000000) (wh : wfH b h) : AOk l yy_X4_init (rmA 2 4 80) (fun r n' h' => r = none ∧ n' = b + 5 ∧ h' = blk h b [.inr (3, [.ref (b + 1), .ref (b + 4)]), .inr (7, [.ref (b + 2), .ref (b + 3)]), .inl (.long, 8, .inr (.inl (fun _ => 0))), .inl (.long, 64, .inr (.inl (fun _ => 0))), .inl (.int, 6, .inl (fun _ => 0))]) [.ref b] (b + 1) (va_up h b (.inr (3, [.null, .null]))) := by
  rw [← blk_one]
  exact kI_X4_init h b hb wh
theorem kJ_X5_init {l : Launch} (h : aH) (b : Nat) (hb : b + 4 ≤ 1000000) (wh : wfH b h) : AOk l yy_X5_init (rmA 1 3 3088) (fun r n' h' => r = none ∧ n' = b + 4 ∧ h' = blk h b [.inr (4, [.ref (b + 1), .ref (b + 2), .ref (b + 3), .int 0, .int 0]), .inl (.long, 2048, .inr (.inl (fun _ => 0))), .inl (.int, 1024, .inl (fun _ => 0)), .inl (.int, 16, .inl (fun _ => 0))]) [.ref b] (b + 1) (va_up h b (.inr (4, [.null, .null, .null, .int 0, .int 0]))) := by
  rw [← blk_one]
  exact kI_X5_init h b hb wh
theorem kJ_X0_init {l : Launch} (h : aH) (b : Nat) (hb : b + 3 ≤ 1000000) (wh : wfH b h) : AOk l yy_X0_init (rmA 1 2 320) (fun r n' h' => r = none ∧ n' = b + 3 ∧ h' = blk h b [.inr (0, [.ref (b + 1), .ref (b + 2)]), .inl (.int, 64, .inl (fun _ => 0)), .inl (.int, 256, .inl (fun _ => 0))]) [.ref b] (b + 1) (va_up h b (.inr (0, [.null, .null]))) := by
  rw [← blk_one]
  exact kI_X0_init h b hb wh
/-- the pool behind the constructor -/
def mir0 : List aE := [.inr (9, [.ref 1, .ref 6, .ref 43, .ref 49, .ref 98, .ref 99, .ref 101, .ref 106, .ref 110, .ref 113, .ref 125, .int 0]), .inr (8, [.ref 2, .ref 3, .ref 4, .ref 5, .int 0, .int 0, .int 0, .int 0, .int 0, .int 0]), .inl (.int, 400, .inl (fun _ => 0)), .inl (.int, 401, .inl (fun _ => 0)), .inl (.int, 401, .inl (fun _ => 0)), .inl (.int, 401, .inl (fun _ => 0)), .inl (.object RX7, 6, .inr (.inr (.inr (.inr (va_up (va_up (va_up (va_up (va_up (va_up (fun _ => none) 0 (some 7)) 1 (some 13)) 2 (some 19)) 3 (some 25)) 4 (some 31)) 5 (some 37)))))), .inr (6, [.ref 8, .ref 9, .ref 10, .ref 11, .ref 12, .int 0, .int 0, .int 0]), .inl (.int, 400, .inl (fun _ => 0)), .inl (.int, 12, .inl (fun _ => 0)), .inl (.int, 12, .inl (fun _ => 0)), .inl (.int, 12, .inl (fun _ => 0)), .inl (.int, 12, .inl (fun _ => 0)), .inr (6, [.ref 14, .ref 15, .ref 16, .ref 17, .ref 18, .int 0, .int 0, .int 0]), .inl (.int, 400, .inl (fun _ => 0)), .inl (.int, 12, .inl (fun _ => 0)), .inl (.int, 12, .inl (fun _ => 0)), .inl (.int, 12, .inl (fun _ => 0)), .inl (.int, 12, .inl (fun _ => 0)), .inr (6, [.ref 20, .ref 21, .ref 22, .ref 23, .ref 24, .int 0, .int 0, .int 0]), .inl (.int, 400, .inl (fun _ => 0)), .inl (.int, 12, .inl (fun _ => 0)), .inl (.int, 12, .inl (fun _ => 0)), .inl (.int, 12, .inl (fun _ => 0)), .inl (.int, 12, .inl (fun _ => 0)), .inr (6, [.ref 26, .ref 27, .ref 28, .ref 29, .ref 30, .int 0, .int 0, .int 0]), .inl (.int, 400, .inl (fun _ => 0)), .inl (.int, 12, .inl (fun _ => 0)), .inl (.int, 12, .inl (fun _ => 0)), .inl (.int, 12, .inl (fun _ => 0)), .inl (.int, 12, .inl (fun _ => 0)), .inr (6, [.ref 32, .ref 33, .ref 34, .ref 35, .ref 36, .int 0, .int 0, .int 0]), .inl (.int, 400, .inl (fun _ => 0)), .inl (.int, 12, .inl (fun _ => 0)), .inl (.int, 12, .inl (fun _ => 0)), .inl (.int, 12, .inl (fun _ => 0)), .inl (.int, 12, .inl (fun _ => 0)), .inr (6, [.ref 38, .ref 39, .ref 40, .ref 41, .ref 42, .int 0, .int 0, .int 0]), .inl (.int, 400, .inl (fun _ => 0)), .inl (.int, 12, .inl (fun _ => 0)), .inl (.int, 12, .inl (fun _ => 0)), .inl (.int, 12, .inl (fun _ => 0)), .inl (.int, 12, .inl (fun _ => 0)), .inr (6, [.ref 44, .ref 45, .ref 46, .ref 47, .ref 48, .int 0, .int 0, .int 0]), .inl (.int, 400, .inl (fun _ => 0)), .inl (.int, 12, .inl (fun _ => 0)), .inl (.int, 12, .inl (fun _ => 0)), .inl (.int, 12, .inl (fun _ => 0)), .inl (.int, 12, .inl (fun _ => 0)), .inl (.object RX2, 4, .inr (.inr (.inr (.inr (va_up (va_up (va_up (va_up (fun _ => none) 0 (some 50)) 1 (some 62)) 2 (some 74)) 3 (some 86)))))), .inr (2, [.ref 51, .ref 52, .ref 53, .ref 54, .ref 55, .ref 56, .ref 58, .ref 60, .int 0, .int 0, .int 0, .int 0, .int 0, .int (-1), .int 0]), .inl (.int, 8, .inl (fun _ => 0)), .inl (.int, 8, .inl (fun _ => 0)), .inl (.int, 8, .inl (fun _ => 0)), .inl (.int, 8, .inl (fun _ => 0)), .inl (.int, 64, .inl (fun _ => 0)), .inr (5, [.ref 57, .int 7, .int 40, .int 0]), .inl (.int, 280, .inl (fun _ => 0)), .inr (5, [.ref 59, .int 4, .int 10, .int 0]), .inl (.int, 40, .inl (fun _ => 0)), .inr (5, [.ref 61, .int 2, .int 8, .int 0]), .inl (.int, 16, .inl (fun _ => 0)), .inr (2, [.ref 63, .ref 64, .ref 65, .ref 66, .ref 67, .ref 68, .ref 70, .ref 72, .int 0, .int 0, .int 0, .int 0, .int 0, .int (-1), .int 0]), .inl (.int, 8, .inl (fun _ => 0)), .inl (.int, 8, .inl (fun _ => 0)), .inl (.int, 8, .inl (fun _ => 0)), .inl (.int, 8, .inl (fun _ => 0)), .inl (.int, 64, .inl (fun _ => 0)), .inr (5, [.ref 69, .int 7, .int 40, .int 0]), .inl (.int, 280, .inl (fun _ => 0)), .inr (5, [.ref 71, .int 4, .int 10, .int 0]), .inl (.int, 40, .inl (fun _ => 0)), .inr (5, [.ref 73, .int 2, .int 8, .int 0]), .inl (.int, 16, .inl (fun _ => 0)), .inr (2, [.ref 75, .ref 76, .ref 77, .ref 78, .ref 79, .ref 80, .ref 82, .ref 84, .int 0, .int 0, .int 0, .int 0, .int 0, .int (-1), .int 0]), .inl (.int, 8, .inl (fun _ => 0)), .inl (.int, 8, .inl (fun _ => 0)), .inl (.int, 8, .inl (fun _ => 0)), .inl (.int, 8, .inl (fun _ => 0)), .inl (.int, 64, .inl (fun _ => 0)), .inr (5, [.ref 81, .int 7, .int 40, .int 0]), .inl (.int, 280, .inl (fun _ => 0)), .inr (5, [.ref 83, .int 4, .int 10, .int 0]), .inl (.int, 40, .inl (fun _ => 0)), .inr (5, [.ref 85, .int 2, .int 8, .int 0]), .inl (.int, 16, .inl (fun _ => 0)), .inr (2, [.ref 87, .ref 88, .ref 89, .ref 90, .ref 91, .ref 92, .ref 94, .ref 96, .int 0, .int 0, .int 0, .int 0, .int 0, .int (-1), .int 0]), .inl (.int, 8, .inl (fun _ => 0)), .inl (.int, 8, .inl (fun _ => 0)), .inl (.int, 8, .inl (fun _ => 0)), .inl (.int, 8, .inl (fun _ => 0)), .inl (.int, 64, .inl (fun _ => 0)), .inr (5, [.ref 93, .int 7, .int 40, .int 0]), .inl (.int, 280, .inl (fun _ => 0)), .inr (5, [.ref 95, .int 4, .int 10, .int 0]), .inl (.int, 40, .inl (fun _ => 0)), .inr (5, [.ref 97, .int 2, .int 8, .int 0]), .inl (.int, 16, .inl (fun _ => 0)), .inl (.boolean, 4, .inl (fun _ => 0)), .inr (1, [.ref 100, .int 0, .int 0]), .inl (.int, 400, .inl (fun _ => 0)), .inr (3, [.ref 102, .ref 105]), .inr (7, [.ref 103, .ref 104]), .inl (.long, 8, .inr (.inl (fun _ => 0))), .inl (.long, 64, .inr (.inl (fun _ => 0))), .inl (.int, 6, .inl (fun _ => 0)), .inr (4, [.ref 107, .ref 108, .ref 109, .int 0, .int 0]), .inl (.long, 2048, .inr (.inl (fun _ => 0))), .inl (.int, 1024, .inl (fun _ => 0)), .inl (.int, 16, .inl (fun _ => 0)), .inr (0, [.ref 111, .ref 112]), .inl (.int, 64, .inl (fun _ => 0)), .inl (.int, 256, .inl (fun _ => 0)), .inr (2, [.ref 114, .ref 115, .ref 116, .ref 117, .ref 118, .ref 119, .ref 121, .ref 123, .int 0, .int 0, .int 0, .int 0, .int 0, .int (-1), .int 0]), .inl (.int, 8, .inl (fun _ => 0)), .inl (.int, 8, .inl (fun _ => 0)), .inl (.int, 8, .inl (fun _ => 0)), .inl (.int, 8, .inl (fun _ => 0)), .inl (.int, 64, .inl (fun _ => 0)), .inr (5, [.ref 120, .int 7, .int 40, .int 0]), .inl (.int, 280, .inl (fun _ => 0)), .inr (5, [.ref 122, .int 4, .int 10, .int 0]), .inl (.int, 40, .inl (fun _ => 0)), .inr (5, [.ref 124, .int 2, .int 8, .int 0]), .inl (.int, 16, .inl (fun _ => 0)), .inr (2, [.ref 126, .ref 127, .ref 128, .ref 129, .ref 130, .ref 131, .ref 133, .ref 135, .int 0, .int 0, .int 0, .int 0, .int 0, .int (-1), .int 0]), .inl (.int, 8, .inl (fun _ => 0)), .inl (.int, 8, .inl (fun _ => 0)), .inl (.int, 8, .inl (fun _ => 0)), .inl (.int, 8, .inl (fun _ => 0)), .inl (.int, 64, .inl (fun _ => 0)), .inr (5, [.ref 132, .int 7, .int 40, .int 0]), .inl (.int, 280, .inl (fun _ => 0)), .inr (5, [.ref 134, .int 4, .int 10, .int 0]), .inl (.int, 40, .inl (fun _ => 0)), .inr (5, [.ref 136, .int 2, .int 8, .int 0]), .inl (.int, 16, .inl (fun _ => 0))]
set_option maxRecDepth 100000 in
set_option maxHeartbeats 8000000 in
theorem kJ_X11_init {l : Launch} (h : aH) : AOk l yy_X11_init (rmA 3 136 11473) (fun r n' h' => r = none ∧ n' = 137 ∧ wfH 137 h' ∧ ∀ q, q < 137 → h' q = mir0.getD q (.inl (.int, 0, .inl (fun _ => 0)))) [.ref 0] 1 (va_up h 0 (.inr (9, [.null, .null, .null, .null, .null, .null, .null, .null, .null, .null, .null, .int 0]))) := by
  have hw : wfH 1 (va_up h 0 (.inr (9, [.null, .null, .null, .null, .null, .null, .null, .null, .null, .null, .null, .int 0]))) := wf_push (n := 0) (fun k hk => absurd hk (Nat.not_lt_zero k)) (wfo (wfs_n (wfs_n (wfs_n (wfs_n (wfs_n (wfs_n (wfs_n (wfs_n (wfs_n (wfs_n (wfs_n (wfs_i wfs_nil)))))))))))))
  refine AOk.of (ls := [some (.ref 0), none]) (by decide +kernel) (Nat.le_of_ble_eq_true rfl) rfl ?_
  refine AW.run [(.aload_n 0, 0)] (pc' := 1) (ls' := [some (.ref 0), none]) (st' := [.ref 0]) (by decide +kernel) rfl ?_
  refine AW.objInit (idx := 1) (tb_in 26 (by decide +kernel) (by decide +kernel)) (by decide +kernel) (Nat.le_of_ble_eq_true rfl) (Nat.le_of_ble_eq_true rfl) ?_
  refine AW.run [(.aload_n 0, 0)] (pc' := 5) (ls' := [some (.ref 0), none]) (st' := [.ref 0]) (by decide +kernel) rfl ?_
  have hp := hw
  refine AW.new (idx := 7) (C := RX10) (T := TX10) (ty := tyX10) (N := 10) (ci := 8) (fs := [.null, .null, .null, .null, .int 0, .int 0, .int 0, .int 0, .int 0, .int 0]) (tb_in 29 (by decide +kernel) (by decide +kernel)) (tb_in 30 (by decide +kernel) (by decide +kernel)) (tb_in 2 (by decide +kernel) (by decide +kernel)) ck_8 tyX10_ok rfl (lt_s (lt_s (lt_s (lt_s (lt_s (lt_s (lt_s (lt_s (lt_s (lt_s lt_0 rfl) rfl) rfl) rfl) rfl) rfl) rfl) rfl) rfl) rfl) (fun _ => rfl) (by decide +kernel) (by decide) hw (wfl_r (by decide) (wfl_0 wfl_nil)) (wfs_r (by decide) wfs_nil) (Nat.le_of_ble_eq_true rfl) (Nat.le_of_ble_eq_true rfl) ?_
  show AW l yy_X11_init _ _ 1 10 8 [some (.ref 0), none] [.ref 1, .ref 0] 2 _
  refine AW.run [(.dup, 0)] (pc' := 9) (ls' := [some (.ref 0), none]) (st' := [.ref 1, .ref 1, .ref 0]) (by decide +kernel) rfl ?_
  refine AW.callI (As := []) (st := [.ref 1, .ref 0]) li_RX11_9 (by decide +kernel) (kJ_X10_init _ 1 (by decide) hp) (Nat.le_of_ble_eq_true rfl) (Nat.le_of_ble_eq_true rfl) rfl (Nat.le_of_ble_eq_true rfl) rfl (Nat.le_of_ble_eq_true rfl) (Nat.le_of_ble_eq_true rfl) (wfl_r (by decide) (wfl_0 wfl_nil)) (wfs_r (by decide) (wfs_r (by decide) wfs_nil)) (fun r n' h' q => q.1) (fun n' h' _ _ q => ?_)
  obtain ⟨-, q2, q3⟩ := q
  subst q2
  subst q3
  have hw := blk_wf (m := 6) (cs := [.inr (8, [.ref (1 + 1), .ref (1 + 2), .ref (1 + 3), .ref (1 + 4), .int 0, .int 0, .int 0, .int 0, .int 0, .int 0]), .inl (.int, 400, .inl (fun _ => 0)), .inl (.int, 401, .inl (fun _ => 0)), .inl (.int, 401, .inl (fun _ => 0)), .inl (.int, 401, .inl (fun _ => 0))]) hp rfl (List.forall_mem_cons.mpr ⟨(wfo (wfs_r (by decide) (wfs_r (by decide) (wfs_r (by decide) (wfs_r (by decide) (wfs_i (wfs_i (wfs_i (wfs_i (wfs_i (wfs_i wfs_nil))))))))))), (List.forall_mem_cons.mpr ⟨wfi, (List.forall_mem_cons.mpr ⟨wfi, (List.forall_mem_cons.mpr ⟨wfi, (List.forall_mem_cons.mpr ⟨wfi, (fun _ h => absurd h List.not_mem_nil)⟩)⟩)⟩)⟩)⟩)
  show AW l yy_X11_init _ _ 5 1613 12 [some (.ref 0), none] [.ref 1, .ref 0] 6 _
  refine AW.putF (fs := [.null, .null, .null, .null, .null, .null, .null, .null, .null, .null, .null, .int 0]) ff_RX11_10 rfl (by decide +kernel) (by decide) rfl (Nat.le_of_ble_eq_true rfl) (fun _ => rfl) (fun _ => rfl) ?_
  have hw := wf_set (k := 0) hw (e := .inr (9, ([.null, .null, .null, .null, .null, .null, .null, .null, .null, .null, .null, .int 0] : List Value).set 0 (.ref 1))) (wfo (wfs_r (by decide) (wfs_n (wfs_n (wfs_n (wfs_n (wfs_n (wfs_n (wfs_n (wfs_n (wfs_n (wfs_n (wfs_i wfs_nil)))))))))))))
  refine AW.run [(.aload_n 0, 0), (.bipush 6, 6)] (pc' := 18) (ls' := [some (.ref 0), none]) (st' := [.int 6, .ref 0]) (by decide +kernel) rfl ?_
  refine AW.newq (idx := 16) (t0 := 4) (C := RX7) (N' := 6) (fun _ => rfl) (tb_in 74 (by decide +kernel) (by decide +kernel)) (nb_in 75 (by decide +kernel) rfl) (by decide +kernel) (by decide +kernel) (Nat.le_of_ble_eq_true rfl) (by decide +kernel) (by decide) hw (wfl_r (by decide) (wfl_0 wfl_nil)) (wfs_r (by decide) wfs_nil) (Nat.le_of_ble_eq_true rfl) (Nat.le_of_ble_eq_true rfl) ?_
  have hw := wf_push hw (e := .inl (.object RX7, 6, .inr (.inr (.inr (.inr (fun _ => none)))))) wfq0
  show AW l yy_X11_init _ _ 6 1619 21 [some (.ref 0), none] [.ref 6, .ref 0] 7 _
  refine AW.putF (fs := [.ref 1, .null, .null, .null, .null, .null, .null, .null, .null, .null, .null, .int 0]) ff_RX11_18 rfl (by decide +kernel) (by decide) rfl (Nat.le_of_ble_eq_true rfl) (fun _ => rfl) (fun _ => rfl) ?_
  have hw := wf_set (k := 0) hw (e := .inr (9, ([.ref 1, .null, .null, .null, .null, .null, .null, .null, .null, .null, .null, .int 0] : List Value).set 1 (.ref 6))) (wfo (wfs_r (by decide) (wfs_r (by decide) (wfs_n (wfs_n (wfs_n (wfs_n (wfs_n (wfs_n (wfs_n (wfs_n (wfs_n (wfs_i wfs_nil)))))))))))))
  refine AW.run [(.iconst 0, 0), (.istore_n 1, 0), (.iload_n 1, 0), (.bipush 6, 6)] (pc' := 29) (ls' := [some (.ref 0), some (.int 0)]) (st' := [.int 6, .int 0]) (by decide +kernel) rfl ?_
  refine AW.icmp_ge (off := 22) (tgt := 51) (by decide +kernel) (by decide) (fun c => absurd c (by decide)) (fun _ => ?_)
  refine AW.run [(.aload_n 0, 0)] (pc' := 33) (ls' := [some (.ref 0), some (.int 0)]) (st' := [.ref 0]) (by decide +kernel) rfl ?_
  refine AW.getf (fs := [.ref 1, .ref 6, .null, .null, .null, .null, .null, .null, .null, .null, .null, .int 0]) (v := .ref 6) fl_RX11_18 (by decide +kernel) (by decide) rfl rfl ?_
  refine AW.run [(.iload_n 1, 0)] (pc' := 37) (ls' := [some (.ref 0), some (.int 0)]) (st' := [.int 0, .ref 6]) (by decide +kernel) rfl ?_
  have hp := hw
  refine AW.new (idx := 16) (C := RX7) (T := TX7) (ty := tyX7) (N := 8) (ci := 6) (fs := [.null, .null, .null, .null, .null, .int 0, .int 0, .int 0]) (tb_in 74 (by decide +kernel) (by decide +kernel)) (tb_in 76 (by decide +kernel) (by decide +kernel)) (tb_in 3 (by decide +kernel) (by decide +kernel)) ck_6 tyX7_ok rfl (lt_s (lt_s (lt_s (lt_s (lt_s (lt_s (lt_s (lt_s lt_0 rfl) rfl) rfl) rfl) rfl) rfl) rfl) rfl) (fun _ => rfl) (by decide +kernel) (by decide) hw (wfl_r (by decide) (wfl_i wfl_nil)) (wfs_i (wfs_r (by decide) wfs_nil)) (Nat.le_of_ble_eq_true rfl) (Nat.le_of_ble_eq_true rfl) ?_
  show AW l yy_X11_init _ _ 7 1627 40 [some (.ref 0), some (.int 0)] [.ref 7, .int 0, .ref 6] 8 _
  refine AW.run [(.dup, 0)] (pc' := 41) (ls' := [some (.ref 0), some (.int 0)]) (st' := [.ref 7, .ref 7, .int 0, .ref 6]) (by decide +kernel) rfl ?_
  refine AW.callI (As := []) (st := [.ref 7, .int 0, .ref 6]) li_RX11_22 (by decide +kernel) (kJ_X7_init _ 7 (by decide) hp) (Nat.le_of_ble_eq_true rfl) (Nat.le_of_ble_eq_true rfl) rfl (Nat.le_of_ble_eq_true rfl) rfl (Nat.le_of_ble_eq_true rfl) (Nat.le_of_ble_eq_true rfl) (wfl_r (by decide) (wfl_i wfl_nil)) (wfs_r (by decide) (wfs_i (wfs_r (by decide) wfs_nil))) (fun r n' h' q => q.1) (fun n' h' _ _ q => ?_)
  obtain ⟨-, q2, q3⟩ := q
  subst q2
  subst q3
  have hw := blk_wf (m := 13) (cs := [.inr (6, [.ref (7 + 1), .ref (7 + 2), .ref (7 + 3), .ref (7 + 4), .ref (7 + 5), .int 0, .int 0, .int 0]), .inl (.int, 400, .inl (fun _ => 0)), .inl (.int, 12, .inl (fun _ => 0)), .inl (.int, 12, .inl (fun _ => 0)), .inl (.int, 12, .inl (fun _ => 0)), .inl (.int, 12, .inl (fun _ => 0))]) hp rfl (List.forall_mem_cons.mpr ⟨(wfo (wfs_r (by decide) (wfs_r (by decide) (wfs_r (by decide) (wfs_r (by decide) (wfs_r (by decide) (wfs_i (wfs_i (wfs_i wfs_nil))))))))), (List.forall_mem_cons.mpr ⟨wfi, (List.forall_mem_cons.mpr ⟨wfi, (List.forall_mem_cons.mpr ⟨wfi, (List.forall_mem_cons.mpr ⟨wfi, (List.forall_mem_cons.mpr ⟨wfi, (fun _ h => absurd h List.not_mem_nil)⟩)⟩)⟩)⟩)⟩)⟩)
  show AW l yy_X11_init _ _ 12 2075 44 [some (.ref 0), some (.int 0)] [.ref 7, .int 0, .ref 6] 13 _
  refine AW.aast (t0 := 4) (r := (RX7, TX7, 8)) (ci := 6) (len := 6) (f := (fun _ => none)) (vs := [.ref 8, .ref 9, .ref 10, .ref 11, .ref 12, .int 0, .int 0, .int 0]) (fun _ => rfl) (by decide +kernel) (by decide) rfl (by decide) rfl rfl (inb_in (by decide +kernel)) ?_
  have hw := wf_set (k := 6) hw (e := .inl (.object RX7, 6, .inr (.inr (.inr (.inr (va_up (fun _ => none) (0 : Int32).toNatClampNeg (some 7))))))) (wfqu wfq0 (by decide))
  refine AW.run [(.iinc 1 1, 1)] (pc' := 48) (ls' := [some (.ref 0), some (.int (0 + 1))]) (st' := []) (by decide +kernel) rfl ?_
  rw [show (0 : Int32) + 1 = 1 by decide +kernel]
  refine AW.run [(.goto (-22), 0)] (pc' := 26) (ls' := [some (.ref 0), some (.int 1)]) (st' := []) (by decide +kernel) rfl ?_
  refine AW.run [(.iload_n 1, 0), (.bipush 6, 6)] (pc' := 29) (ls' := [some (.ref 0), some (.int 1)]) (st' := [.int 6, .int 1]) (by decide +kernel) rfl ?_
  refine AW.icmp_ge (off := 22) (tgt := 51) (by decide +kernel) (by decide) (fun c => absurd c (by decide)) (fun _ => ?_)
  refine AW.run [(.aload_n 0, 0)] (pc' := 33) (ls' := [some (.ref 0), some (.int 1)]) (st' := [.ref 0]) (by decide +kernel) rfl ?_
  refine AW.getf (fs := [.ref 1, .ref 6, .null, .null, .null, .null, .null, .null, .null, .null, .null, .int 0]) (v := .ref 6) fl_RX11_18 (by decide +kernel) (by decide) rfl rfl ?_
  refine AW.run [(.iload_n 1, 0)] (pc' := 37) (ls' := [some (.ref 0), some (.int 1)]) (st' := [.int 1, .ref 6]) (by decide +kernel) rfl ?_
  have hp := hw
  refine AW.new (idx := 16) (C := RX7) (T := TX7) (ty := tyX7) (N := 8) (ci := 6) (fs := [.null, .null, .null, .null, .null, .int 0, .int 0, .int 0]) (tb_in 74 (by decide +kernel) (by decide +kernel)) (tb_in 76 (by decide +kernel) (by decide +kernel)) (tb_in 3 (by decide +kernel) (by decide +kernel)) ck_6 tyX7_ok rfl (lt_s (lt_s (lt_s (lt_s (lt_s (lt_s (lt_s (lt_s lt_0 rfl) rfl) rfl) rfl) rfl) rfl) rfl) rfl) (fun _ => rfl) (by decide +kernel) (by decide) hw (wfl_r (by decide) (wfl_i wfl_nil)) (wfs_i (wfs_r (by decide) wfs_nil)) (Nat.le_of_ble_eq_true rfl) (Nat.le_of_ble_eq_true rfl) ?_
  show AW l yy_X11_init _ _ 13 2083 40 [some (.ref 0), some (.int 1)] [.ref 13, .int 1, .ref 6] 14 _
  refine AW.run [(.dup, 0)] (pc' := 41) (ls' := [some (.ref 0), some (.int 1)]) (st' := [.ref 13, .ref 13, .int 1, .ref 6]) (by decide +kernel) rfl ?_
  refine AW.callI (As := []) (st := [.ref 13, .int 1, .ref 6]) li_RX11_22 (by decide +kernel) (kJ_X7_init _ 13 (by decide) hp) (Nat.le_of_ble_eq_true rfl) (Nat.le_of_ble_eq_true rfl) rfl (Nat.le_of_ble_eq_true rfl) rfl (Nat.le_of_ble_eq_true rfl) (Nat.le_of_ble_eq_true rfl) (wfl_r (by decide) (wfl_i wfl_nil)) (wfs_r (by decide) (wfs_i (wfs_r (by decide) wfs_nil))) (fun r n' h' q => q.1) (fun n' h' _ _ q => ?_)
  obtain ⟨-, q2, q3⟩ := q
  subst q2
  subst q3
  have hw := blk_wf (m := 19) (cs := [.inr (6, [.ref (13 + 1), .ref (13 + 2), .ref (13 + 3), .ref (13 + 4), .ref (13 + 5), .int 0, .int 0, .int 0]), .inl (.int, 400, .inl (fun _ => 0)), .inl (.int, 12, .inl (fun _ => 0)), .inl (.int, 12, .inl (fun _ => 0)), .inl (.int, 12, .inl (fun _ => 0)), .inl (.int, 12, .inl (fun _ => 0))]) hp rfl (List.forall_mem_cons.mpr ⟨(wfo (wfs_r (by decide) (wfs_r (by decide) (wfs_r (by decide) (wfs_r (by decide) (wfs_r (by decide) (wfs_i (wfs_i (wfs_i wfs_nil))))))))), (List.forall_mem_cons.mpr ⟨wfi, (List.forall_mem_cons.mpr ⟨wfi, (List.forall_mem_cons.mpr ⟨wfi, (List.forall_mem_cons.mpr ⟨wfi, (List.forall_mem_cons.mpr ⟨wfi, (fun _ h => absurd h List.not_mem_nil)⟩)⟩)⟩)⟩)⟩)⟩)
  show AW l yy_X11_init _ _ 18 2531 44 [some (.ref 0), some (.int 1)] [.ref 13, .int 1, .ref 6] 19 _
  refine AW.aast (t0 := 4) (r := (RX7, TX7, 8)) (ci := 6) (len := 6) (f := (va_up (fun _ => none) 0 (some 7))) (vs := [.ref 14, .ref 15, .ref 16, .ref 17, .ref 18, .int 0, .int 0, .int 0]) (fun _ => rfl) (by decide +kernel) (by decide) rfl (by decide) rfl rfl (inb_in (by decide +kernel)) ?_
  have hw := wf_set (k := 6) hw (e := .inl (.object RX7, 6, .inr (.inr (.inr (.inr (va_up (va_up (fun _ => none) 0 (some 7)) (1 : Int32).toNatClampNeg (some 13))))))) (wfqu (wfqu wfq0 (by decide)) (by decide))
  refine AW.run [(.iinc 1 1, 1)] (pc' := 48) (ls' := [some (.ref 0), some (.int (1 + 1))]) (st' := []) (by decide +kernel) rfl ?_
  rw [show (1 : Int32) + 1 = 2 by decide +kernel]
  refine AW.run [(.goto (-22), 0)] (pc' := 26) (ls' := [some (.ref 0), some (.int 2)]) (st' := []) (by decide +kernel) rfl ?_
  refine AW.run [(.iload_n 1, 0), (.bipush 6, 6)] (pc' := 29) (ls' := [some (.ref 0), some (.int 2)]) (st' := [.int 6, .int 2]) (by decide +kernel) rfl ?_
  refine AW.icmp_ge (off := 22) (tgt := 51) (by decide +kernel) (by decide) (fun c => absurd c (by decide)) (fun _ => ?_)
  refine AW.run [(.aload_n 0, 0)] (pc' := 33) (ls' := [some (.ref 0), some (.int 2)]) (st' := [.ref 0]) (by decide +kernel) rfl ?_
  refine AW.getf (fs := [.ref 1, .ref 6, .null, .null, .null, .null, .null, .null, .null, .null, .null, .int 0]) (v := .ref 6) fl_RX11_18 (by decide +kernel) (by decide) rfl rfl ?_
  refine AW.run [(.iload_n 1, 0)] (pc' := 37) (ls' := [some (.ref 0), some (.int 2)]) (st' := [.int 2, .ref 6]) (by decide +kernel) rfl ?_
  have hp := hw
  refine AW.new (idx := 16) (C := RX7) (T := TX7) (ty := tyX7) (N := 8) (ci := 6) (fs := [.null, .null, .null, .null, .null, .int 0, .int 0, .int 0]) (tb_in 74 (by decide +kernel) (by decide +kernel)) (tb_in 76 (by decide +kernel) (by decide +kernel)) (tb_in 3 (by decide +kernel) (by decide +kernel)) ck_6 tyX7_ok rfl (lt_s (lt_s (lt_s (lt_s (lt_s (lt_s (lt_s (lt_s lt_0 rfl) rfl) rfl) rfl) rfl) rfl) rfl) rfl) (fun _ => rfl) (by decide +kernel) (by decide) hw (wfl_r (by decide) (wfl_i wfl_nil)) (wfs_i (wfs_r (by decide) wfs_nil)) (Nat.le_of_ble_eq_true rfl) (Nat.le_of_ble_eq_true rfl) ?_
  show AW l yy_X11_init _ _ 19 2539 40 [some (.ref 0), some (.int 2)] [.ref 19, .int 2, .ref 6] 20 _
  refine AW.run [(.dup, 0)] (pc' := 41) (ls' := [some (.ref 0), some (.int 2)]) (st' := [.ref 19, .ref 19, .int 2, .ref 6]) (by decide +kernel) rfl ?_
  refine AW.callI (As := []) (st := [.ref 19, .int 2, .ref 6]) li_RX11_22 (by decide +kernel) (kJ_X7_init _ 19 (by decide) hp) (Nat.le_of_ble_eq_true rfl) (Nat.le_of_ble_eq_true rfl) rfl (Nat.le_of_ble_eq_true rfl) rfl (Nat.le_of_ble_eq_true rfl) (Nat.le_of_ble_eq_true rfl) (wfl_r (by decide) (wfl_i wfl_nil)) (wfs_r (by decide) (wfs_i (wfs_r (by decide) wfs_nil))) (fun r n' h' q => q.1) (fun n' h' _ _ q => ?_)
  obtain ⟨-, q2, q3⟩ := q
  subst q2
  subst q3
  have hw := blk_wf (m := 25) (cs := [.inr (6, [.ref (19 + 1), .ref (19 + 2), .ref (19 + 3), .ref (19 + 4), .ref (19 + 5), .int 0, .int 0, .int 0]), .inl (.int, 400, .inl (fun _ => 0)), .inl (.int, 12, .inl (fun _ => 0)), .inl (.int, 12, .inl (fun _ => 0)), .inl (.int, 12, .inl (fun _ => 0)), .inl (.int, 12, .inl (fun _ => 0))]) hp rfl (List.forall_mem_cons.mpr ⟨(wfo (wfs_r (by decide) (wfs_r (by decide) (wfs_r (by decide) (wfs_r (by decide) (wfs_r (by decide) (wfs_i (wfs_i (wfs_i wfs_nil))))))))), (List.forall_mem_cons.mpr ⟨wfi, (List.forall_mem_cons.mpr ⟨wfi, (List.forall_mem_cons.mpr ⟨wfi, (List.forall_mem_cons.mpr ⟨wfi, (List.forall_mem_cons.mpr ⟨wfi, (fun _ h => absurd h List.not_mem_nil)⟩)⟩)⟩)⟩)⟩)⟩)
  show AW l yy_X11_init _ _ 24 2987 44 [some (.ref 0), some (.int 2)] [.ref 19, .int 2, .ref 6] 25 _
  refine AW.aast (t0 := 4) (r := (RX7, TX7, 8)) (ci := 6) (len := 6) (f := (va_up (va_up (fun _ => none) 0 (some 7)) 1 (some 13))) (vs := [.ref 20, .ref 21, .ref 22, .ref 23, .ref 24, .int 0, .int 0, .int 0]) (fun _ => rfl) (by decide +kernel) (by decide) rfl (by decide) rfl rfl (inb_in (by decide +kernel)) ?_
  have hw := wf_set (k := 6) hw (e := .inl (.object RX7, 6, .inr (.inr (.inr (.inr (va_up (va_up (va_up (fun _ => none) 0 (some 7)) 1 (some 13)) (2 : Int32).toNatClampNeg (some 19))))))) (wfqu (wfqu (wfqu wfq0 (by decide)) (by decide)) (by decide))
  refine AW.run [(.iinc 1 1, 1)] (pc' := 48) (ls' := [some (.ref 0), some (.int (2 + 1))]) (st' := []) (by decide +kernel) rfl ?_
  rw [show (2 : Int32) + 1 = 3 by decide +kernel]
  refine AW.run [(.goto (-22), 0)] (pc' := 26) (ls' := [some (.ref 0), some (.int 3)]) (st' := []) (by decide +kernel) rfl ?_
  refine AW.run [(.iload_n 1, 0), (.bipush 6, 6)] (pc' := 29) (ls' := [some (.ref 0), some (.int 3)]) (st' := [.int 6, .int 3]) (by decide +kernel) rfl ?_
  refine AW.icmp_ge (off := 22) (tgt := 51) (by decide +kernel) (by decide) (fun c => absurd c (by decide)) (fun _ => ?_)
  refine AW.run [(.aload_n 0, 0)] (pc' := 33) (ls' := [some (.ref 0), some (.int 3)]) (st' := [.ref 0]) (by decide +kernel) rfl ?_
  refine AW.getf (fs := [.ref 1, .ref 6, .null, .null, .null, .null, .null, .null, .null, .null, .null, .int 0]) (v := .ref 6) fl_RX11_18 (by decide +kernel) (by decide) rfl rfl ?_
  refine AW.run [(.iload_n 1, 0)] (pc' := 37) (ls' := [some (.ref 0), some (.int 3)]) (st' := [.int 3, .ref 6]) (by decide +kernel) rfl ?_
  have hp := hw
  refine AW.new (idx := 16) (C := RX7) (T := TX7) (ty := tyX7) (N := 8) (ci := 6) (fs := [.null, .null, .null, .null, .null, .int 0, .int 0, .int 0]) (tb_in 74 (by decide +kernel) (by decide +kernel)) (tb_in 76 (by decide +kernel) (by decide +kernel)) (tb_in 3 (by decide +kernel) (by decide +kernel)) ck_6 tyX7_ok rfl (lt_s (lt_s (lt_s (lt_s (lt_s (lt_s (lt_s (lt_s lt_0 rfl) rfl) rfl) rfl) rfl) rfl) rfl) rfl) (fun _ => rfl) (by decide +kernel) (by decide) hw (wfl_r (by decide) (wfl_i wfl_nil)) (wfs_i (wfs_r (by decide) wfs_nil)) (Nat.le_of_ble_eq_true rfl) (Nat.le_of_ble_eq_true rfl) ?_
  show AW l yy_X11_init _ _ 25 2995 40 [some (.ref 0), some (.int 3)] [.ref 25, .int 3, .ref 6] 26 _
  refine AW.run [(.dup, 0)] (pc' := 41) (ls' := [some (.ref 0), some (.int 3)]) (st' := [.ref 25, .ref 25, .int 3, .ref 6]) (by decide +kernel) rfl ?_
  refine AW.callI (As := []) (st := [.ref 25, .int 3, .ref 6]) li_RX11_22 (by decide +kernel) (kJ_X7_init _ 25 (by decide) hp) (Nat.le_of_ble_eq_true rfl) (Nat.le_of_ble_eq_true rfl) rfl (Nat.le_of_ble_eq_true rfl) rfl (Nat.le_of_ble_eq_true rfl) (Nat.le_of_ble_eq_true rfl) (wfl_r (by decide) (wfl_i wfl_nil)) (wfs_r (by decide) (wfs_i (wfs_r (by decide) wfs_nil))) (fun r n' h' q => q.1) (fun n' h' _ _ q => ?_)
  obtain ⟨-, q2, q3⟩ := q
  subst q2
  subst q3
  have hw := blk_wf (m := 31) (cs := [.inr (6, [.ref (25 + 1), .ref (25 + 2), .ref (25 + 3), .ref (25 + 4), .ref (25 + 5), .int 0, .int 0, .int 0]), .inl (.int, 400, .inl (fun _ => 0)), .inl (.int, 12, .inl (fun _ => 0)), .inl (.int, 12, .inl (fun _ => 0)), .inl (.int, 12, .inl (fun _ => 0)), .inl (.int, 12, .inl (fun _ => 0))]) hp rfl (List.forall_mem_cons.mpr ⟨(wfo (wfs_r (by decide) (wfs_r (by decide) (wfs_r (by decide) (wfs_r (by decide) (wfs_r (by decide) (wfs_i (wfs_i (wfs_i wfs_nil))))))))), (List.forall_mem_cons.mpr ⟨wfi, (List.forall_mem_cons.mpr ⟨wfi, (List.forall_mem_cons.mpr ⟨wfi, (List.forall_mem_cons.mpr ⟨wfi, (List.forall_mem_cons.mpr ⟨wfi, (fun _ h => absurd h List.not_mem_nil)⟩)⟩)⟩)⟩)⟩)⟩)
  show AW l yy_X11_init _ _ 30 3443 44 [some (.ref 0), some (.int 3)] [.ref 25, .int 3, .ref 6] 31 _
  refine AW.aast (t0 := 4) (r := (RX7, TX7, 8)) (ci := 6) (len := 6) (f := (va_up (va_up (va_up (fun _ => none) 0 (some 7)) 1 (some 13)) 2 (some 19))) (vs := [.ref 26, .ref 27, .ref 28, .ref 29, .ref 30, .int 0, .int 0, .int 0]) (fun _ => rfl) (by decide +kernel) (by decide) rfl (by decide) rfl rfl (inb_in (by decide +kernel)) ?_
  have hw := wf_set (k := 6) hw (e := .inl (.object RX7, 6, .inr (.inr (.inr (.inr (va_up (va_up (va_up (va_up (fun _ => none) 0 (some 7)) 1 (some 13)) 2 (some 19)) (3 : Int32).toNatClampNeg (some 25))))))) (wfqu (wfqu (wfqu (wfqu wfq0 (by decide)) (by decide)) (by decide)) (by decide))
  refine AW.run [(.iinc 1 1, 1)] (pc' := 48) (ls' := [some (.ref 0), some (.int (3 + 1))]) (st' := []) (by decide +kernel) rfl ?_
  rw [show (3 : Int32) + 1 = 4 by decide +kernel]
  refine AW.run [(.goto (-22), 0)] (pc' := 26) (ls' := [some (.ref 0), some (.int 4)]) (st' := []) (by decide +kernel) rfl ?_
  refine AW.run [(.iload_n 1, 0), (.bipush 6, 6)] (pc' := 29) (ls' := [some (.ref 0), some (.int 4)]) (st' := [.int 6, .int 4]) (by decide +kernel) rfl ?_
  refine AW.icmp_ge (off := 22) (tgt := 51) (by decide +kernel) (by decide) (fun c => absurd c (by decide)) (fun _ => ?_)
  refine AW.run [(.aload_n 0, 0)] (pc' := 33) (ls' := [some (.ref 0), some (.int 4)]) (st' := [.ref 0]) (by decide +kernel) rfl ?_
  refine AW.getf (fs := [.ref 1, .ref 6, .null, .null, .null, .null, .null, .null, .null, .null, .null, .int 0]) (v := .ref 6) fl_RX11_18 (by decide +kernel) (by decide) rfl rfl ?_
  refine AW.run [(.iload_n 1, 0)] (pc' := 37) (ls' := [some (.ref 0), some (.int 4)]) (st' := [.int 4, .ref 6]) (by decide +kernel) rfl ?_
  have hp := hw
  refine AW.new (idx := 16) (C := RX7) (T := TX7) (ty := tyX7) (N := 8) (ci := 6) (fs := [.null, .null, .null, .null, .null, .int 0, .int 0, .int 0]) (tb_in 74 (by decide +kernel) (by decide +kernel)) (tb_in 76 (by decide +kernel) (by decide +kernel)) (tb_in 3 (by decide +kernel) (by decide +kernel)) ck_6 tyX7_ok rfl (lt_s (lt_s (lt_s (lt_s (lt_s (lt_s (lt_s (lt_s lt_0 rfl) rfl) rfl) rfl) rfl) rfl) rfl) rfl) (fun _ => rfl) (by decide +kernel) (by decide) hw (wfl_r (by decide) (wfl_i wfl_nil)) (wfs_i (wfs_r (by decide) wfs_nil)) (Nat.le_of_ble_eq_true rfl) (Nat.le_of_ble_eq_true rfl) ?_
  show AW l yy_X11_init _ _ 31 3451 40 [some (.ref 0), some (.int 4)] [.ref 31, .int 4, .ref 6] 32 _
  refine AW.run [(.dup, 0)] (pc' := 41) (ls' := [some (.ref 0), some (.int 4)]) (st' := [.ref 31, .ref 31, .int 4, .ref 6]) (by decide +kernel) rfl ?_
  refine AW.callI (As := []) (st := [.ref 31, .int 4, .ref 6]) li_RX11_22 (by decide +kernel) (kJ_X7_init _ 31 (by decide) hp) (Nat.le_of_ble_eq_true rfl) (Nat.le_of_ble_eq_true rfl) rfl (Nat.le_of_ble_eq_true rfl) rfl (Nat.le_of_ble_eq_true rfl) (Nat.le_of_ble_eq_true rfl) (wfl_r (by decide) (wfl_i wfl_nil)) (wfs_r (by decide) (wfs_i (wfs_r (by decide) wfs_nil))) (fun r n' h' q => q.1) (fun n' h' _ _ q => ?_)
  obtain ⟨-, q2, q3⟩ := q
  subst q2
  subst q3
  have hw := blk_wf (m := 37) (cs := [.inr (6, [.ref (31 + 1), .ref (31 + 2), .ref (31 + 3), .ref (31 + 4), .ref (31 + 5), .int 0, .int 0, .int 0]), .inl (.int, 400, .inl (fun _ => 0)), .inl (.int, 12, .inl (fun _ => 0)), .inl (.int, 12, .inl (fun _ => 0)), .inl (.int, 12, .inl (fun _ => 0)), .inl (.int, 12, .inl (fun _ => 0))]) hp rfl (List.forall_mem_cons.mpr ⟨(wfo (wfs_r (by decide) (wfs_r (by decide) (wfs_r (by decide) (wfs_r (by decide) (wfs_r (by decide) (wfs_i (wfs_i (wfs_i wfs_nil))))))))), (List.forall_mem_cons.mpr ⟨wfi, (List.forall_mem_cons.mpr ⟨wfi, (List.forall_mem_cons.mpr ⟨wfi, (List.forall_mem_cons.mpr ⟨wfi, (List.forall_mem_cons.mpr ⟨wfi, (fun _ h => absurd h List.not_mem_nil)⟩)⟩)⟩)⟩)⟩)⟩)
  show AW l yy_X11_init _ _ 36 3899 44 [some (.ref 0), some (.int 4)] [.ref 31, .int 4, .ref 6] 37 _
  refine AW.aast (t0 := 4) (r := (RX7, TX7, 8)) (ci := 6) (len := 6) (f := (va_up (va_up (va_up (va_up (fun _ => none) 0 (some 7)) 1 (some 13)) 2 (some 19)) 3 (some 25))) (vs := [.ref 32, .ref 33, .ref 34, .ref 35, .ref 36, .int 0, .int 0, .int 0]) (fun _ => rfl) (by decide +kernel) (by decide) rfl (by decide) rfl rfl (inb_in (by decide +kernel)) ?_
  have hw := wf_set (k := 6) hw (e := .inl (.object RX7, 6, .inr (.inr (.inr (.inr (va_up (va_up (va_up (va_up (va_up (fun _ => none) 0 (some 7)) 1 (some 13)) 2 (some 19)) 3 (some 25)) (4 : Int32).toNatClampNeg (some 31))))))) (wfqu (wfqu (wfqu (wfqu (wfqu wfq0 (by decide)) (by decide)) (by decide)) (by decide)) (by decide))
  refine AW.run [(.iinc 1 1, 1)] (pc' := 48) (ls' := [some (.ref 0), some (.int (4 + 1))]) (st' := []) (by decide +kernel) rfl ?_
  rw [show (4 : Int32) + 1 = 5 by decide +kernel]
  refine AW.run [(.goto (-22), 0)] (pc' := 26) (ls' := [some (.ref 0), some (.int 5)]) (st' := []) (by decide +kernel) rfl ?_
  refine AW.run [(.iload_n 1, 0), (.bipush 6, 6)] (pc' := 29) (ls' := [some (.ref 0), some (.int 5)]) (st' := [.int 6, .int 5]) (by decide +kernel) rfl ?_
  refine AW.icmp_ge (off := 22) (tgt := 51) (by decide +kernel) (by decide) (fun c => absurd c (by decide)) (fun _ => ?_)
  refine AW.run [(.aload_n 0, 0)] (pc' := 33) (ls' := [some (.ref 0), some (.int 5)]) (st' := [.ref 0]) (by decide +kernel) rfl ?_
  refine AW.getf (fs := [.ref 1, .ref 6, .null, .null, .null, .null, .null, .null, .null, .null, .null, .int 0]) (v := .ref 6) fl_RX11_18 (by decide +kernel) (by decide) rfl rfl ?_
  refine AW.run [(.iload_n 1, 0)] (pc' := 37) (ls' := [some (.ref 0), some (.int 5)]) (st' := [.int 5, .ref 6]) (by decide +kernel) rfl ?_
  have hp := hw
  refine AW.new (idx := 16) (C := RX7) (T := TX7) (ty := tyX7) (N := 8) (ci := 6) (fs := [.null, .null, .null, .null, .null, .int 0, .int 0, .int 0]) (tb_in 74 (by decide +kernel) (by decide +kernel)) (tb_in 76 (by decide +kernel) (by decide +kernel)) (tb_in 3 (by decide +kernel) (by decide +kernel)) ck_6 tyX7_ok rfl (lt_s (lt_s (lt_s (lt_s (lt_s (lt_s (lt_s (lt_s lt_0 rfl) rfl) rfl) rfl) rfl) rfl) rfl) rfl) (fun _ => rfl) (by decide +kernel) (by decide) hw (wfl_r (by decide) (wfl_i wfl_nil)) (wfs_i (wfs_r (by decide) wfs_nil)) (Nat.le_of_ble_eq_true rfl) (Nat.le_of_ble_eq_true rfl) ?_
  show AW l yy_X11_init _ _ 37 3907 40 [some (.ref 0), some (.int 5)] [.ref 37, .int 5, .ref 6] 38 _
  refine AW.run [(.dup, 0)] (pc' := 41) (ls' := [some (.ref 0), some (.int 5)]) (st' := [.ref 37, .ref 37, .int 5, .ref 6]) (by decide +kernel) rfl ?_
  refine AW.callI (As := []) (st := [.ref 37, .int 5, .ref 6]) li_RX11_22 (by decide +kernel) (kJ_X7_init _ 37 (by decide) hp) (Nat.le_of_ble_eq_true rfl) (Nat.le_of_ble_eq_true rfl) rfl (Nat.le_of_ble_eq_true rfl) rfl (Nat.le_of_ble_eq_true rfl) (Nat.le_of_ble_eq_true rfl) (wfl_r (by decide) (wfl_i wfl_nil)) (wfs_r (by decide) (wfs_i (wfs_r (by decide) wfs_nil))) (fun r n' h' q => q.1) (fun n' h' _ _ q => ?_)
  obtain ⟨-, q2, q3⟩ := q
  subst q2
  subst q3
  have hw := blk_wf (m := 43) (cs := [.inr (6, [.ref (37 + 1), .ref (37 + 2), .ref (37 + 3), .ref (37 + 4), .ref (37 + 5), .int 0, .int 0, .int 0]), .inl (.int, 400, .inl (fun _ => 0)), .inl (.int, 12, .inl (fun _ => 0)), .inl (.int, 12, .inl (fun _ => 0)), .inl (.int, 12, .inl (fun _ => 0)), .inl (.int, 12, .inl (fun _ => 0))]) hp rfl (List.forall_mem_cons.mpr ⟨(wfo (wfs_r (by decide) (wfs_r (by decide) (wfs_r (by decide) (wfs_r (by decide) (wfs_r (by decide) (wfs_i (wfs_i (wfs_i wfs_nil))))))))), (List.forall_mem_cons.mpr ⟨wfi, (List.forall_mem_cons.mpr ⟨wfi, (List.forall_mem_cons.mpr ⟨wfi, (List.forall_mem_cons.mpr ⟨wfi, (List.forall_mem_cons.mpr ⟨wfi, (fun _ h => absurd h List.not_mem_nil)⟩)⟩)⟩)⟩)⟩)⟩)
  show AW l yy_X11_init _ _ 42 4355 44 [some (.ref 0), some (.int 5)] [.ref 37, .int 5, .ref 6] 43 _
  refine AW.aast (t0 := 4) (r := (RX7, TX7, 8)) (ci := 6) (len := 6) (f := (va_up (va_up (va_up (va_up (va_up (fun _ => none) 0 (some 7)) 1 (some 13)) 2 (some 19)) 3 (some 25)) 4 (some 31))) (vs := [.ref 38, .ref 39, .ref 40, .ref 41, .ref 42, .int 0, .int 0, .int 0]) (fun _ => rfl) (by decide +kernel) (by decide) rfl (by decide) rfl rfl (inb_in (by decide +kernel)) ?_
  have hw := wf_set (k := 6) hw (e := .inl (.object RX7, 6, .inr (.inr (.inr (.inr (va_up (va_up (va_up (va_up (va_up (va_up (fun _ => none) 0 (some 7)) 1 (some 13)) 2 (some 19)) 3 (some 25)) 4 (some 31)) (5 : Int32).toNatClampNeg (some 37))))))) (wfqu (wfqu (wfqu (wfqu (wfqu (wfqu wfq0 (by decide)) (by decide)) (by decide)) (by decide)) (by decide)) (by decide))
  refine AW.run [(.iinc 1 1, 1)] (pc' := 48) (ls' := [some (.ref 0), some (.int (5 + 1))]) (st' := []) (by decide +kernel) rfl ?_
  rw [show (5 : Int32) + 1 = 6 by decide +kernel]
  refine AW.run [(.goto (-22), 0)] (pc' := 26) (ls' := [some (.ref 0), some (.int 6)]) (st' := []) (by decide +kernel) rfl ?_
  refine AW.run [(.iload_n 1, 0), (.bipush 6, 6)] (pc' := 29) (ls' := [some (.ref 0), some (.int 6)]) (st' := [.int 6, .int 6]) (by decide +kernel) rfl ?_
  refine AW.icmp_ge (off := 22) (tgt := 51) (by decide +kernel) (by decide) (fun _ => ?_) (fun c => absurd (by decide) c)
  refine AW.run [(.aload_n 0, 0)] (pc' := 52) (ls' := [some (.ref 0), some (.int 6)]) (st' := [.ref 0]) (by decide +kernel) rfl ?_
  have hp := hw
  refine AW.new (idx := 16) (C := RX7) (T := TX7) (ty := tyX7) (N := 8) (ci := 6) (fs := [.null, .null, .null, .null, .null, .int 0, .int 0, .int 0]) (tb_in 74 (by decide +kernel) (by decide +kernel)) (tb_in 76 (by decide +kernel) (by decide +kernel)) (tb_in 3 (by decide +kernel) (by decide +kernel)) ck_6 tyX7_ok rfl (lt_s (lt_s (lt_s (lt_s (lt_s (lt_s (lt_s (lt_s lt_0 rfl) rfl) rfl) rfl) rfl) rfl) rfl) rfl) (fun _ => rfl) (by decide +kernel) (by decide) hw (wfl_r (by decide) (wfl_i wfl_nil)) (wfs_r (by decide) wfs_nil) (Nat.le_of_ble_eq_true rfl) (Nat.le_of_ble_eq_true rfl) ?_
  show AW l yy_X11_init _ _ 43 4363 55 [some (.ref 0), some (.int 6)] [.ref 43, .ref 0] 44 _
  refine AW.run [(.dup, 0)] (pc' := 56) (ls' := [some (.ref 0), some (.int 6)]) (st' := [.ref 43, .ref 43, .ref 0]) (by decide +kernel) rfl ?_
  refine AW.callI (As := []) (st := [.ref 43, .ref 0]) li_RX11_22 (by decide +kernel) (kJ_X7_init _ 43 (by decide) hp) (Nat.le_of_ble_eq_true rfl) (Nat.le_of_ble_eq_true rfl) rfl (Nat.le_of_ble_eq_true rfl) rfl (Nat.le_of_ble_eq_true rfl) (Nat.le_of_ble_eq_true rfl) (wfl_r (by decide) (wfl_i wfl_nil)) (wfs_r (by decide) (wfs_r (by decide) wfs_nil)) (fun r n' h' q => q.1) (fun n' h' _ _ q => ?_)
  obtain ⟨-, q2, q3⟩ := q
  subst q2
  subst q3
  have hw := blk_wf (m := 49) (cs := [.inr (6, [.ref (43 + 1), .ref (43 + 2), .ref (43 + 3), .ref (43 + 4), .ref (43 + 5), .int 0, .int 0, .int 0]), .inl (.int, 400, .inl (fun _ => 0)), .inl (.int, 12, .inl (fun _ => 0)), .inl (.int, 12, .inl (fun _ => 0)), .inl (.int, 12, .inl (fun _ => 0)), .inl (.int, 12, .inl (fun _ => 0))]) hp rfl (List.forall_mem_cons.mpr ⟨(wfo (wfs_r (by decide) (wfs_r (by decide) (wfs_r (by decide) (wfs_r (by decide) (wfs_r (by decide) (wfs_i (wfs_i (wfs_i wfs_nil))))))))), (List.forall_mem_cons.mpr ⟨wfi, (List.forall_mem_cons.mpr ⟨wfi, (List.forall_mem_cons.mpr ⟨wfi, (List.forall_mem_cons.mpr ⟨wfi, (List.forall_mem_cons.mpr ⟨wfi, (fun _ h => absurd h List.not_mem_nil)⟩)⟩)⟩)⟩)⟩)⟩)
  show AW l yy_X11_init _ _ 48 4811 59 [some (.ref 0), some (.int 6)] [.ref 43, .ref 0] 49 _
  refine AW.putF (fs := [.ref 1, .ref 6, .null, .null, .null, .null, .null, .null, .null, .null, .null, .int 0]) ff_RX11_23 rfl (by decide +kernel) (by decide) rfl (Nat.le_of_ble_eq_true rfl) (fun _ => rfl) (fun _ => rfl) ?_
  have hw := wf_set (k := 0) hw (e := .inr (9, ([.ref 1, .ref 6, .null, .null, .null, .null, .null, .null, .null, .null, .null, .int 0] : List Value).set 2 (.ref 43))) (wfo (wfs_r (by decide) (wfs_r (by decide) (wfs_r (by decide) (wfs_n (wfs_n (wfs_n (wfs_n (wfs_n (wfs_n (wfs_n (wfs_n (wfs_i wfs_nil)))))))))))))
  refine AW.run [(.aload_n 0, 0), (.iconst 4, 4)] (pc' := 64) (ls' := [some (.ref 0), some (.int 6)]) (st' := [.int 4, .ref 0]) (by decide +kernel) rfl ?_
  refine AW.newq (idx := 27) (t0 := 5) (C := RX2) (N' := 4) (fun _ => rfl) (tb_in 108 (by decide +kernel) (by decide +kernel)) (nb_in 109 (by decide +kernel) rfl) (by decide +kernel) (by decide +kernel) (Nat.le_of_ble_eq_true rfl) (by decide +kernel) (by decide) hw (wfl_r (by decide) (wfl_i wfl_nil)) (wfs_r (by decide) wfs_nil) (Nat.le_of_ble_eq_true rfl) (Nat.le_of_ble_eq_true rfl) ?_
  have hw := wf_push hw (e := .inl (.object RX2, 4, .inr (.inr (.inr (.inr (fun _ => none)))))) wfq0
  show AW l yy_X11_init _ _ 49 4815 67 [some (.ref 0), some (.int 6)] [.ref 49, .ref 0] 50 _
  refine AW.putF (fs := [.ref 1, .ref 6, .ref 43, .null, .null, .null, .null, .null, .null, .null, .null, .int 0]) ff_RX11_29 rfl (by decide +kernel) (by decide) rfl (Nat.le_of_ble_eq_true rfl) (fun _ => rfl) (fun _ => rfl) ?_
  have hw := wf_set (k := 0) hw (e := .inr (9, ([.ref 1, .ref 6, .ref 43, .null, .null, .null, .null, .null, .null, .null, .null, .int 0] : List Value).set 3 (.ref 49))) (wfo (wfs_r (by decide) (wfs_r (by decide) (wfs_r (by decide) (wfs_r (by decide) (wfs_n (wfs_n (wfs_n (wfs_n (wfs_n (wfs_n (wfs_n (wfs_i wfs_nil)))))))))))))
  refine AW.run [(.iconst 0, 0), (.istore_n 1, 0), (.iload_n 1, 0), (.iconst 4, 4)] (pc' := 74) (ls' := [some (.ref 0), some (.int 0)]) (st' := [.int 4, .int 0]) (by decide +kernel) rfl ?_
  refine AW.icmp_ge (off := 22) (tgt := 96) (by decide +kernel) (by decide) (fun c => absurd c (by decide)) (fun _ => ?_)
  refine AW.run [(.aload_n 0, 0)] (pc' := 78) (ls' := [some (.ref 0), some (.int 0)]) (st' := [.ref 0]) (by decide +kernel) rfl ?_
  refine AW.getf (fs := [.ref 1, .ref 6, .ref 43, .ref 49, .null, .null, .null, .null, .null, .null, .null, .int 0]) (v := .ref 49) fl_RX11_29 (by decide +kernel) (by decide) rfl rfl ?_
  refine AW.run [(.iload_n 1, 0)] (pc' := 82) (ls' := [some (.ref 0), some (.int 0)]) (st' := [.int 0, .ref 49]) (by decide +kernel) rfl ?_
  have hp := hw
  refine AW.new (idx := 27) (C := RX2) (T := TX2) (ty := tyX2) (N := 15) (ci := 2) (fs := [.null, .null, .null, .null, .null, .null, .null, .null, .int 0, .int 0, .int 0, .int 0, .int 0, .int 0, .int 0]) (tb_in 108 (by decide +kernel) (by decide +kernel)) (tb_in 110 (by decide +kernel) (by decide +kernel)) (tb_in 4 (by decide +kernel) (by decide +kernel)) ck_2 tyX2_ok rfl (lt_s (lt_s (lt_s (lt_s (lt_s (lt_s (lt_s (lt_s (lt_s (lt_s (lt_s (lt_s (lt_s (lt_s (lt_s lt_0 rfl) rfl) rfl) rfl) rfl) rfl) rfl) rfl) rfl) rfl) rfl) rfl) rfl) rfl) rfl) (fun _ => rfl) (by decide +kernel) (by decide) hw (wfl_r (by decide) (wfl_i wfl_nil)) (wfs_i (wfs_r (by decide) wfs_nil)) (Nat.le_of_ble_eq_true rfl) (Nat.le_of_ble_eq_true rfl) ?_
  show AW l yy_X11_init _ _ 50 4830 85 [some (.ref 0), some (.int 0)] [.ref 50, .int 0, .ref 49] 51 _
  refine AW.run [(.dup, 0)] (pc' := 86) (ls' := [some (.ref 0), some (.int 0)]) (st' := [.ref 50, .ref 50, .int 0, .ref 49]) (by decide +kernel) rfl ?_
  refine AW.callI (As := []) (st := [.ref 50, .int 0, .ref 49]) li_RX11_33 (by decide +kernel) (kJ_X2_init _ 50 (by decide) hp) (Nat.le_of_ble_eq_true rfl) (Nat.le_of_ble_eq_true rfl) rfl (Nat.le_of_ble_eq_true rfl) rfl (Nat.le_of_ble_eq_true rfl) (Nat.le_of_ble_eq_true rfl) (wfl_r (by decide) (wfl_i wfl_nil)) (wfs_r (by decide) (wfs_i (wfs_r (by decide) wfs_nil))) (fun r n' h' q => q.1) (fun n' h' _ _ q => ?_)
  obtain ⟨-, q2, q3⟩ := q
  subst q2
  subst q3
  have hw := blk_wf (m := 62) (cs := [.inr (2, [.ref (50 + 1), .ref (50 + 2), .ref (50 + 3), .ref (50 + 4), .ref (50 + 5), .ref (50 + 6), .ref (50 + 8), .ref (50 + 10), .int 0, .int 0, .int 0, .int 0, .int 0, .int (-1), .int 0]), .inl (.int, 8, .inl (fun _ => 0)), .inl (.int, 8, .inl (fun _ => 0)), .inl (.int, 8, .inl (fun _ => 0)), .inl (.int, 8, .inl (fun _ => 0)), .inl (.int, 64, .inl (fun _ => 0)), .inr (5, [.ref (50 + 7), .int 7, .int 40, .int 0]), .inl (.int, 280, .inl (fun _ => 0)), .inr (5, [.ref (50 + 9), .int 4, .int 10, .int 0]), .inl (.int, 40, .inl (fun _ => 0)), .inr (5, [.ref (50 + 11), .int 2, .int 8, .int 0]), .inl (.int, 16, .inl (fun _ => 0))]) hp rfl (List.forall_mem_cons.mpr ⟨(wfo (wfs_r (by decide) (wfs_r (by decide) (wfs_r (by decide) (wfs_r (by decide) (wfs_r (by decide) (wfs_r (by decide) (wfs_r (by decide) (wfs_r (by decide) (wfs_i (wfs_i (wfs_i (wfs_i (wfs_i (wfs_i (wfs_i wfs_nil)))))))))))))))), (List.forall_mem_cons.mpr ⟨wfi, (List.forall_mem_cons.mpr ⟨wfi, (List.forall_mem_cons.mpr ⟨wfi, (List.forall_mem_cons.mpr ⟨wfi, (List.forall_mem_cons.mpr ⟨wfi, (List.forall_mem_cons.mpr ⟨(wfo (wfs_r (by decide) (wfs_i (wfs_i (wfs_i wfs_nil))))), (List.forall_mem_cons.mpr ⟨wfi, (List.forall_mem_cons.mpr ⟨(wfo (wfs_r (by decide) (wfs_i (wfs_i (wfs_i wfs_nil))))), (List.forall_mem_cons.mpr ⟨wfi, (List.forall_mem_cons.mpr ⟨(wfo (wfs_r (by decide) (wfs_i (wfs_i (wfs_i wfs_nil))))), (List.forall_mem_cons.mpr ⟨wfi, (fun _ h => absurd h List.not_mem_nil)⟩)⟩)⟩)⟩)⟩)⟩)⟩)⟩)⟩)⟩)⟩)⟩)
  show AW l yy_X11_init _ _ 61 5274 89 [some (.ref 0), some (.int 0)] [.ref 50, .int 0, .ref 49] 62 _
  refine AW.aast (t0 := 5) (r := (RX2, TX2, 15)) (ci := 2) (len := 4) (f := (fun _ => none)) (vs := [.ref 51, .ref 52, .ref 53, .ref 54, .ref 55, .ref 56, .ref 58, .ref 60, .int 0, .int 0, .int 0, .int 0, .int 0, .int (-1), .int 0]) (fun _ => rfl) (by decide +kernel) (by decide) rfl (by decide) rfl rfl (inb_in (by decide +kernel)) ?_
  have hw := wf_set (k := 49) hw (e := .inl (.object RX2, 4, .inr (.inr (.inr (.inr (va_up (fun _ => none) (0 : Int32).toNatClampNeg (some 50))))))) (wfqu wfq0 (by decide))
  refine AW.run [(.iinc 1 1, 1)] (pc' := 93) (ls' := [some (.ref 0), some (.int (0 + 1))]) (st' := []) (by decide +kernel) rfl ?_
  rw [show (0 : Int32) + 1 = 1 by decide +kernel]
  refine AW.run [(.goto (-21), 0)] (pc' := 72) (ls' := [some (.ref 0), some (.int 1)]) (st' := []) (by decide +kernel) rfl ?_
  refine AW.run [(.iload_n 1, 0), (.iconst 4, 4)] (pc' := 74) (ls' := [some (.ref 0), some (.int 1)]) (st' := [.int 4, .int 1]) (by decide +kernel) rfl ?_
  refine AW.icmp_ge (off := 22) (tgt := 96) (by decide +kernel) (by decide) (fun c => absurd c (by decide)) (fun _ => ?_)
  refine AW.run [(.aload_n 0, 0)] (pc' := 78) (ls' := [some (.ref 0), some (.int 1)]) (st' := [.ref 0]) (by decide +kernel) rfl ?_
  refine AW.getf (fs := [.ref 1, .ref 6, .ref 43, .ref 49, .null, .null, .null, .null, .null, .null, .null, .int 0]) (v := .ref 49) fl_RX11_29 (by decide +kernel) (by decide) rfl rfl ?_
  refine AW.run [(.iload_n 1, 0)] (pc' := 82) (ls' := [some (.ref 0), some (.int 1)]) (st' := [.int 1, .ref 49]) (by decide +kernel) rfl ?_
  have hp := hw
  refine AW.new (idx := 27) (C := RX2) (T := TX2) (ty := tyX2) (N := 15) (ci := 2) (fs := [.null, .null, .null, .null, .null, .null, .null, .null, .int 0, .int 0, .int 0, .int 0, .int 0, .int 0, .int 0]) (tb_in 108 (by decide +kernel) (by decide +kernel)) (tb_in 110 (by decide +kernel) (by decide +kernel)) (tb_in 4 (by decide +kernel) (by decide +kernel)) ck_2 tyX2_ok rfl (lt_s (lt_s (lt_s (lt_s (lt_s (lt_s (lt_s (lt_s (lt_s (lt_s (lt_s (lt_s (lt_s (lt_s (lt_s lt_0 rfl) rfl) rfl) rfl) rfl) rfl) rfl) rfl) rfl) rfl) rfl) rfl) rfl) rfl) rfl) (fun _ => rfl) (by decide +kernel) (by decide) hw (wfl_r (by decide) (wfl_i wfl_nil)) (wfs_i (wfs_r (by decide) wfs_nil)) (Nat.le_of_ble_eq_true rfl) (Nat.le_of_ble_eq_true rfl) ?_
  show AW l yy_X11_init _ _ 62 5289 85 [some (.ref 0), some (.int 1)] [.ref 62, .int 1, .ref 49] 63 _
  refine AW.run [(.dup, 0)] (pc' := 86) (ls' := [some (.ref 0), some (.int 1)]) (st' := [.ref 62, .ref 62, .int 1, .ref 49]) (by decide +kernel) rfl ?_
  refine AW.callI (As := []) (st := [.ref 62, .int 1, .ref 49]) li_RX11_33 (by decide +kernel) (kJ_X2_init _ 62 (by decide) hp) (Nat.le_of_ble_eq_true rfl) (Nat.le_of_ble_eq_true rfl) rfl (Nat.le_of_ble_eq_true rfl) rfl (Nat.le_of_ble_eq_true rfl) (Nat.le_of_ble_eq_true rfl) (wfl_r (by decide) (wfl_i wfl_nil)) (wfs_r (by decide) (wfs_i (wfs_r (by decide) wfs_nil))) (fun r n' h' q => q.1) (fun n' h' _ _ q => ?_)
  obtain ⟨-, q2, q3⟩ := q
  subst q2
  subst q3
  have hw := blk_wf (m := 74) (cs := [.inr (2, [.ref (62 + 1), .ref (62 + 2), .ref (62 + 3), .ref (62 + 4), .ref (62 + 5), .ref (62 + 6), .ref (62 + 8), .ref (62 + 10), .int 0, .int 0, .int 0, .int 0, .int 0, .int (-1), .int 0]), .inl (.int, 8, .inl (fun _ => 0)), .inl (.int, 8, .inl (fun _ => 0)), .inl (.int, 8, .inl (fun _ => 0)), .inl (.int, 8, .inl (fun _ => 0)), .inl (.int, 64, .inl (fun _ => 0)), .inr (5, [.ref (62 + 7), .int 7, .int 40, .int 0]), .inl (.int, 280, .inl (fun _ => 0)), .inr (5, [.ref (62 + 9), .int 4, .int 10, .int 0]), .inl (.int, 40, .inl (fun _ => 0)), .inr (5, [.ref (62 + 11), .int 2, .int 8, .int 0]), .inl (.int, 16, .inl (fun _ => 0))]) hp rfl (List.forall_mem_cons.mpr ⟨(wfo (wfs_r (by decide) (wfs_r (by decide) (wfs_r (by decide) (wfs_r (by decide) (wfs_r (by decide) (wfs_r (by decide) (wfs_r (by decide) (wfs_r (by decide) (wfs_i (wfs_i (wfs_i (wfs_i (wfs_i (wfs_i (wfs_i wfs_nil)))))))))))))))), (List.forall_mem_cons.mpr ⟨wfi, (List.forall_mem_cons.mpr ⟨wfi, (List.forall_mem_cons.mpr ⟨wfi, (List.forall_mem_cons.mpr ⟨wfi, (List.forall_mem_cons.mpr ⟨wfi, (List.forall_mem_cons.mpr ⟨(wfo (wfs_r (by decide) (wfs_i (wfs_i (wfs_i wfs_nil))))), (List.forall_mem_cons.mpr ⟨wfi, (List.forall_mem_cons.mpr ⟨(wfo (wfs_r (by decide) (wfs_i (wfs_i (wfs_i wfs_nil))))), (List.forall_mem_cons.mpr ⟨wfi, (List.forall_mem_cons.mpr ⟨(wfo (wfs_r (by decide) (wfs_i (wfs_i (wfs_i wfs_nil))))), (List.forall_mem_cons.mpr ⟨wfi, (fun _ h => absurd h List.not_mem_nil)⟩)⟩)⟩)⟩)⟩)⟩)⟩)⟩)⟩)⟩)⟩)⟩)
  show AW l yy_X11_init _ _ 73 5733 89 [some (.ref 0), some (.int 1)] [.ref 62, .int 1, .ref 49] 74 _
  refine AW.aast (t0 := 5) (r := (RX2, TX2, 15)) (ci := 2) (len := 4) (f := (va_up (fun _ => none) 0 (some 50))) (vs := [.ref 63, .ref 64, .ref 65, .ref 66, .ref 67, .ref 68, .ref 70, .ref 72, .int 0, .int 0, .int 0, .int 0, .int 0, .int (-1), .int 0]) (fun _ => rfl) (by decide +kernel) (by decide) rfl (by decide) rfl rfl (inb_in (by decide +kernel)) ?_
  have hw := wf_set (k := 49) hw (e := .inl (.object RX2, 4, .inr (.inr (.inr (.inr (va_up (va_up (fun _ => none) 0 (some 50)) (1 : Int32).toNatClampNeg (some 62))))))) (wfqu (wfqu wfq0 (by decide)) (by decide))
  refine AW.run [(.iinc 1 1, 1)] (pc' := 93) (ls' := [some (.ref 0), some (.int (1 + 1))]) (st' := []) (by decide +kernel) rfl ?_
  rw [show (1 : Int32) + 1 = 2 by decide +kernel]
  refine AW.run [(.goto (-21), 0)] (pc' := 72) (ls' := [some (.ref 0), some (.int 2)]) (st' := []) (by decide +kernel) rfl ?_
  refine AW.run [(.iload_n 1, 0), (.iconst 4, 4)] (pc' := 74) (ls' := [some (.ref 0), some (.int 2)]) (st' := [.int 4, .int 2]) (by decide +kernel) rfl ?_
  refine AW.icmp_ge (off := 22) (tgt := 96) (by decide +kernel) (by decide) (fun c => absurd c (by decide)) (fun _ => ?_)
  refine AW.run [(.aload_n 0, 0)] (pc' := 78) (ls' := [some (.ref 0), some (.int 2)]) (st' := [.ref 0]) (by decide +kernel) rfl ?_
  refine AW.getf (fs := [.ref 1, .ref 6, .ref 43, .ref 49, .null, .null, .null, .null, .null, .null, .null, .int 0]) (v := .ref 49) fl_RX11_29 (by decide +kernel) (by decide) rfl rfl ?_
  refine AW.run [(.iload_n 1, 0)] (pc' := 82) (ls' := [some (.ref 0), some (.int 2)]) (st' := [.int 2, .ref 49]) (by decide +kernel) rfl ?_
  have hp := hw
  refine AW.new (idx := 27) (C := RX2) (T := TX2) (ty := tyX2) (N := 15) (ci := 2) (fs := [.null, .null, .null, .null, .null, .null, .null, .null, .int 0, .int 0, .int 0, .int 0, .int 0, .int 0, .int 0]) (tb_in 108 (by decide +kernel) (by decide +kernel)) (tb_in 110 (by decide +kernel) (by decide +kernel)) (tb_in 4 (by decide +kernel) (by decide +kernel)) ck_2 tyX2_ok rfl (lt_s (lt_s (lt_s (lt_s (lt_s (lt_s (lt_s (lt_s (lt_s (lt_s (lt_s (lt_s (lt_s (lt_s (lt_s lt_0 rfl) rfl) rfl) rfl) rfl) rfl) rfl) rfl) rfl) rfl) rfl) rfl) rfl) rfl) rfl) (fun _ => rfl) (by decide +kernel) (by decide) hw (wfl_r (by decide) (wfl_i wfl_nil)) (wfs_i (wfs_r (by decide) wfs_nil)) (Nat.le_of_ble_eq_true rfl) (Nat.le_of_ble_eq_true rfl) ?_
  show AW l yy_X11_init _ _ 74 5748 85 [some (.ref 0), some (.int 2)] [.ref 74, .int 2, .ref 49] 75 _
  refine AW.run [(.dup, 0)] (pc' := 86) (ls' := [some (.ref 0), some (.int 2)]) (st' := [.ref 74, .ref 74, .int 2, .ref 49]) (by decide +kernel) rfl ?_
  refine AW.callI (As := []) (st := [.ref 74, .int 2, .ref 49]) li_RX11_33 (by decide +kernel) (kJ_X2_init _ 74 (by decide) hp) (Nat.le_of_ble_eq_true rfl) (Nat.le_of_ble_eq_true rfl) rfl (Nat.le_of_ble_eq_true rfl) rfl (Nat.le_of_ble_eq_true rfl) (Nat.le_of_ble_eq_true rfl) (wfl_r (by decide) (wfl_i wfl_nil)) (wfs_r (by decide) (wfs_i (wfs_r (by decide) wfs_nil))) (fun r n' h' q => q.1) (fun n' h' _ _ q => ?_)
  obtain ⟨-, q2, q3⟩ := q
  subst q2
  subst q3
  have hw := blk_wf (m := 86) (cs := [.inr (2, [.ref (74 + 1), .ref (74 + 2), .ref (74 + 3), .ref (74 + 4), .ref (74 + 5), .ref (74 + 6), .ref (74 + 8), .ref (74 + 10), .int 0, .int 0, .int 0, .int 0, .int 0, .int (-1), .int 0]), .inl (.int, 8, .inl (fun _ => 0)), .inl (.int, 8, .inl (fun _ => 0)), .inl (.int, 8, .inl (fun _ => 0)), .inl (.int, 8, .inl (fun _ => 0)), .inl (.int, 64, .inl (fun _ => 0)), .inr (5, [.ref (74 + 7), .int 7, .int 40, .int 0]), .inl (.int, 280, .inl (fun _ => 0)), .inr (5, [.ref (74 + 9), .int 4, .int 10, .int 0]), .inl (.int, 40, .inl (fun _ => 0)), .inr (5, [.ref (74 + 11), .int 2, .int 8, .int 0]), .inl (.int, 16, .inl (fun _ => 0))]) hp rfl (List.forall_mem_cons.mpr ⟨(wfo (wfs_r (by decide) (wfs_r (by decide) (wfs_r (by decide) (wfs_r (by decide) (wfs_r (by decide) (wfs_r (by decide) (wfs_r (by decide) (wfs_r (by decide) (wfs_i (wfs_i (wfs_i (wfs_i (wfs_i (wfs_i (wfs_i wfs_nil)))))))))))))))), (List.forall_mem_cons.mpr ⟨wfi, (List.forall_mem_cons.mpr ⟨wfi, (List.forall_mem_cons.mpr ⟨wfi, (List.forall_mem_cons.mpr ⟨wfi, (List.forall_mem_cons.mpr ⟨wfi, (List.forall_mem_cons.mpr ⟨(wfo (wfs_r (by decide) (wfs_i (wfs_i (wfs_i wfs_nil))))), (List.forall_mem_cons.mpr ⟨wfi, (List.forall_mem_cons.mpr ⟨(wfo (wfs_r (by decide) (wfs_i (wfs_i (wfs_i wfs_nil))))), (List.forall_mem_cons.mpr ⟨wfi, (List.forall_mem_cons.mpr ⟨(wfo (wfs_r (by decide) (wfs_i (wfs_i (wfs_i wfs_nil))))), (List.forall_mem_cons.mpr ⟨wfi, (fun _ h => absurd h List.not_mem_nil)⟩)⟩)⟩)⟩)⟩)⟩)⟩)⟩)⟩)⟩)⟩)⟩)
  show AW l yy_X11_init _ _ 85 6192 89 [some (.ref 0), some (.int 2)] [.ref 74, .int 2, .ref 49] 86 _
  refine AW.aast (t0 := 5) (r := (RX2, TX2, 15)) (ci := 2) (len := 4) (f := (va_up (va_up (fun _ => none) 0 (some 50)) 1 (some 62))) (vs := [.ref 75, .ref 76, .ref 77, .ref 78, .ref 79, .ref 80, .ref 82, .ref 84, .int 0, .int 0, .int 0, .int 0, .int 0, .int (-1), .int 0]) (fun _ => rfl) (by decide +kernel) (by decide) rfl (by decide) rfl rfl (inb_in (by decide +kernel)) ?_
  have hw := wf_set (k := 49) hw (e := .inl (.object RX2, 4, .inr (.inr (.inr (.inr (va_up (va_up (va_up (fun _ => none) 0 (some 50)) 1 (some 62)) (2 : Int32).toNatClampNeg (some 74))))))) (wfqu (wfqu (wfqu wfq0 (by decide)) (by decide)) (by decide))
  refine AW.run [(.iinc 1 1, 1)] (pc' := 93) (ls' := [some (.ref 0), some (.int (2 + 1))]) (st' := []) (by decide +kernel) rfl ?_
  rw [show (2 : Int32) + 1 = 3 by decide +kernel]
  refine AW.run [(.goto (-21), 0)] (pc' := 72) (ls' := [some (.ref 0), some (.int 3)]) (st' := []) (by decide +kernel) rfl ?_
  refine AW.run [(.iload_n 1, 0), (.iconst 4, 4)] (pc' := 74) (ls' := [some (.ref 0), some (.int 3)]) (st' := [.int 4, .int 3]) (by decide +kernel) rfl ?_
  refine AW.icmp_ge (off := 22) (tgt := 96) (by decide +kernel) (by decide) (fun c => absurd c (by decide)) (fun _ => ?_)
  refine AW.run [(.aload_n 0, 0)] (pc' := 78) (ls' := [some (.ref 0), some (.int 3)]) (st' := [.ref 0]) (by decide +kernel) rfl ?_
  refine AW.getf (fs := [.ref 1, .ref 6, .ref 43, .ref 49, .null, .null, .null, .null, .null, .null, .null, .int 0]) (v := .ref 49) fl_RX11_29 (by decide +kernel) (by decide) rfl rfl ?_
  refine AW.run [(.iload_n 1, 0)] (pc' := 82) (ls' := [some (.ref 0), some (.int 3)]) (st' := [.int 3, .ref 49]) (by decide +kernel) rfl ?_
  have hp := hw
  refine AW.new (idx := 27) (C := RX2) (T := TX2) (ty := tyX2) (N := 15) (ci := 2) (fs := [.null, .null, .null, .null, .null, .null, .null, .null, .int 0, .int 0, .int 0, .int 0, .int 0, .int 0, .int 0]) (tb_in 108 (by decide +kernel) (by decide +kernel)) (tb_in 110 (by decide +kernel) (by decide +kernel)) (tb_in 4 (by decide +kernel) (by decide +kernel)) ck_2 tyX2_ok rfl (lt_s (lt_s (lt_s (lt_s (lt_s (lt_s (lt_s (lt_s (lt_s (lt_s (lt_s (lt_s (lt_s (lt_s (lt_s lt_0 rfl) rfl) rfl) rfl) rfl) rfl) rfl) rfl) rfl) rfl) rfl) rfl) rfl) rfl) rfl) (fun _ => rfl) (by decide +kernel) (by decide) hw (wfl_r (by decide) (wfl_i wfl_nil)) (wfs_i (wfs_r (by decide) wfs_nil)) (Nat.le_of_ble_eq_true rfl) (Nat.le_of_ble_eq_true rfl) ?_
  show AW l yy_X11_init _ _ 86 6207 85 [some (.ref 0), some (.int 3)] [.ref 86, .int 3, .ref 49] 87 _
  refine AW.run [(.dup, 0)] (pc' := 86) (ls' := [some (.ref 0), some (.int 3)]) (st' := [.ref 86, .ref 86, .int 3, .ref 49]) (by decide +kernel) rfl ?_
  refine AW.callI (As := []) (st := [.ref 86, .int 3, .ref 49]) li_RX11_33 (by decide +kernel) (kJ_X2_init _ 86 (by decide) hp) (Nat.le_of_ble_eq_true rfl) (Nat.le_of_ble_eq_true rfl) rfl (Nat.le_of_ble_eq_true rfl) rfl (Nat.le_of_ble_eq_true rfl) (Nat.le_of_ble_eq_true rfl) (wfl_r (by decide) (wfl_i wfl_nil)) (wfs_r (by decide) (wfs_i (wfs_r (by decide) wfs_nil))) (fun r n' h' q => q.1) (fun n' h' _ _ q => ?_)
  obtain ⟨-, q2, q3⟩ := q
  subst q2
  subst q3
  have hw := blk_wf (m := 98) (cs := [.inr (2, [.ref (86 + 1), .ref (86 + 2), .ref (86 + 3), .ref (86 + 4), .ref (86 + 5), .ref (86 + 6), .ref (86 + 8), .ref (86 + 10), .int 0, .int 0, .int 0, .int 0, .int 0, .int (-1), .int 0]), .inl (.int, 8, .inl (fun _ => 0)), .inl (.int, 8, .inl (fun _ => 0)), .inl (.int, 8, .inl (fun _ => 0)), .inl (.int, 8, .inl (fun _ => 0)), .inl (.int, 64, .inl (fun _ => 0)), .inr (5, [.ref (86 + 7), .int 7, .int 40, .int 0]), .inl (.int, 280, .inl (fun _ => 0)), .inr (5, [.ref (86 + 9), .int 4, .int 10, .int 0]), .inl (.int, 40, .inl (fun _ => 0)), .inr (5, [.ref (86 + 11), .int 2, .int 8, .int 0]), .inl (.int, 16, .inl (fun _ => 0))]) hp rfl (List.forall_mem_cons.mpr ⟨(wfo (wfs_r (by decide) (wfs_r (by decide) (wfs_r (by decide) (wfs_r (by decide) (wfs_r (by decide) (wfs_r (by decide) (wfs_r (by decide) (wfs_r (by decide) (wfs_i (wfs_i (wfs_i (wfs_i (wfs_i (wfs_i (wfs_i wfs_nil)))))))))))))))), (List.forall_mem_cons.mpr ⟨wfi, (List.forall_mem_cons.mpr ⟨wfi, (List.forall_mem_cons.mpr ⟨wfi, (List.forall_mem_cons.mpr ⟨wfi, (List.forall_mem_cons.mpr ⟨wfi, (List.forall_mem_cons.mpr ⟨(wfo (wfs_r (by decide) (wfs_i (wfs_i (wfs_i wfs_nil))))), (List.forall_mem_cons.mpr ⟨wfi, (List.forall_mem_cons.mpr ⟨(wfo (wfs_r (by decide) (wfs_i (wfs_i (wfs_i wfs_nil))))), (List.forall_mem_cons.mpr ⟨wfi, (List.forall_mem_cons.mpr ⟨(wfo (wfs_r (by decide) (wfs_i (wfs_i (wfs_i wfs_nil))))), (List.forall_mem_cons.mpr ⟨wfi, (fun _ h => absurd h List.not_mem_nil)⟩)⟩)⟩)⟩)⟩)⟩)⟩)⟩)⟩)⟩)⟩)⟩)
  show AW l yy_X11_init _ _ 97 6651 89 [some (.ref 0), some (.int 3)] [.ref 86, .int 3, .ref 49] 98 _
  refine AW.aast (t0 := 5) (r := (RX2, TX2, 15)) (ci := 2) (len := 4) (f := (va_up (va_up (va_up (fun _ => none) 0 (some 50)) 1 (some 62)) 2 (some 74))) (vs := [.ref 87, .ref 88, .ref 89, .ref 90, .ref 91, .ref 92, .ref 94, .ref 96, .int 0, .int 0, .int 0, .int 0, .int 0, .int (-1), .int 0]) (fun _ => rfl) (by decide +kernel) (by decide) rfl (by decide) rfl rfl (inb_in (by decide +kernel)) ?_
  have hw := wf_set (k := 49) hw (e := .inl (.object RX2, 4, .inr (.inr (.inr (.inr (va_up (va_up (va_up (va_up (fun _ => none) 0 (some 50)) 1 (some 62)) 2 (some 74)) (3 : Int32).toNatClampNeg (some 86))))))) (wfqu (wfqu (wfqu (wfqu wfq0 (by decide)) (by decide)) (by decide)) (by decide))
  refine AW.run [(.iinc 1 1, 1)] (pc' := 93) (ls' := [some (.ref 0), some (.int (3 + 1))]) (st' := []) (by decide +kernel) rfl ?_
  rw [show (3 : Int32) + 1 = 4 by decide +kernel]
  refine AW.run [(.goto (-21), 0)] (pc' := 72) (ls' := [some (.ref 0), some (.int 4)]) (st' := []) (by decide +kernel) rfl ?_
  refine AW.run [(.iload_n 1, 0), (.iconst 4, 4)] (pc' := 74) (ls' := [some (.ref 0), some (.int 4)]) (st' := [.int 4, .int 4]) (by decide +kernel) rfl ?_
  refine AW.icmp_ge (off := 22) (tgt := 96) (by decide +kernel) (by decide) (fun _ => ?_) (fun c => absurd (by decide) c)
  refine AW.run [(.aload_n 0, 0), (.iconst 4, 4)] (pc' := 98) (ls' := [some (.ref 0), some (.int 4)]) (st' := [.int 4, .ref 0]) (by decide +kernel) rfl ?_
  refine AW.newa (atype := .boolean) (ty := .boolean) (N' := 4) (c0 := .inl (fun _ => 0)) 3 (fun _ => rfl) (fun _ e => by cases e) (tb_in 238 (by decide +kernel) (by decide +kernel)) rfl (fun _ => rfl) (fun _ => rfl) (by decide +kernel) (by decide +kernel) (Nat.le_of_ble_eq_true rfl) (by decide +kernel) (by decide) hw (wfl_r (by decide) (wfl_i wfl_nil)) (wfs_r (by decide) wfs_nil) (Nat.le_of_ble_eq_true rfl) (Nat.le_of_ble_eq_true rfl) ?_
  have hw := wf_push hw (e := .inl (.boolean, 4, .inl (fun _ => 0))) wfi
  show AW l yy_X11_init _ _ 98 6655 100 [some (.ref 0), some (.int 4)] [.ref 98, .ref 0] 99 _
  refine AW.putF (fs := [.ref 1, .ref 6, .ref 43, .ref 49, .null, .null, .null, .null, .null, .null, .null, .int 0]) ff_RX11_34 rfl (by decide +kernel) (by decide) rfl (Nat.le_of_ble_eq_true rfl) (fun _ => rfl) (fun _ => rfl) ?_
  have hw := wf_set (k := 0) hw (e := .inr (9, ([.ref 1, .ref 6, .ref 43, .ref 49, .null, .null, .null, .null, .null, .null, .null, .int 0] : List Value).set 4 (.ref 98))) (wfo (wfs_r (by decide) (wfs_r (by decide) (wfs_r (by decide) (wfs_r (by decide) (wfs_r (by decide) (wfs_n (wfs_n (wfs_n (wfs_n (wfs_n (wfs_n (wfs_i wfs_nil)))))))))))))
  refine AW.run [(.aload_n 0, 0)] (pc' := 104) (ls' := [some (.ref 0), some (.int 4)]) (st' := [.ref 0]) (by decide +kernel) rfl ?_
  have hp := hw
  refine AW.new (idx := 38) (C := RX1) (T := TX1) (ty := tyX1) (N := 3) (ci := 1) (fs := [.null, .int 0, .int 0]) (tb_in 221 (by decide +kernel) (by decide +kernel)) (tb_in 222 (by decide +kernel) (by decide +kernel)) (tb_in 6 (by decide +kernel) (by decide +kernel)) ck_1 tyX1_ok rfl (lt_s (lt_s (lt_s lt_0 rfl) rfl) rfl) (fun _ => rfl) (by decide +kernel) (by decide) hw (wfl_r (by decide) (wfl_i wfl_nil)) (wfs_r (by decide) wfs_nil) (Nat.le_of_ble_eq_true rfl) (Nat.le_of_ble_eq_true rfl) ?_
  show AW l yy_X11_init _ _ 99 6658 107 [some (.ref 0), some (.int 4)] [.ref 99, .ref 0] 100 _
  refine AW.run [(.dup, 0)] (pc' := 108) (ls' := [some (.ref 0), some (.int 4)]) (st' := [.ref 99, .ref 99, .ref 0]) (by decide +kernel) rfl ?_
  refine AW.callI (As := []) (st := [.ref 99, .ref 0]) li_RX11_40 (by decide +kernel) (kJ_X1_init _ 99 (by decide) hp) (Nat.le_of_ble_eq_true rfl) (Nat.le_of_ble_eq_true rfl) rfl (Nat.le_of_ble_eq_true rfl) rfl (Nat.le_of_ble_eq_true rfl) (Nat.le_of_ble_eq_true rfl) (wfl_r (by decide) (wfl_i wfl_nil)) (wfs_r (by decide) (wfs_r (by decide) wfs_nil)) (fun r n' h' q => q.1) (fun n' h' _ _ q => ?_)
  obtain ⟨-, q2, q3⟩ := q
  subst q2
  subst q3
  have hw := blk_wf (m := 101) (cs := [.inr (1, [.ref (99 + 1), .int 0, .int 0]), .inl (.int, 400, .inl (fun _ => 0))]) hp rfl (List.forall_mem_cons.mpr ⟨(wfo (wfs_r (by decide) (wfs_i (wfs_i wfs_nil)))), (List.forall_mem_cons.mpr ⟨wfi, (fun _ h => absurd h List.not_mem_nil)⟩)⟩)
  show AW l yy_X11_init _ _ 100 7058 111 [some (.ref 0), some (.int 4)] [.ref 99, .ref 0] 101 _
  refine AW.putF (fs := [.ref 1, .ref 6, .ref 43, .ref 49, .ref 98, .null, .null, .null, .null, .null, .null, .int 0]) ff_RX11_41 rfl (by decide +kernel) (by decide) rfl (Nat.le_of_ble_eq_true rfl) (fun _ => rfl) (fun _ => rfl) ?_
  have hw := wf_set (k := 0) hw (e := .inr (9, ([.ref 1, .ref 6, .ref 43, .ref 49, .ref 98, .null, .null, .null, .null, .null, .null, .int 0] : List Value).set 5 (.ref 99))) (wfo (wfs_r (by decide) (wfs_r (by decide) (wfs_r (by decide) (wfs_r (by decide) (wfs_r (by decide) (wfs_r (by decide) (wfs_n (wfs_n (wfs_n (wfs_n (wfs_n (wfs_i wfs_nil)))))))))))))
  refine AW.run [(.aload_n 0, 0)] (pc' := 115) (ls' := [some (.ref 0), some (.int 4)]) (st' := [.ref 0]) (by decide +kernel) rfl ?_
  have hp := hw
  refine AW.new (idx := 45) (C := RX4) (T := TX4) (ty := tyX4) (N := 2) (ci := 3) (fs := [.null, .null]) (tb_in 239 (by decide +kernel) (by decide +kernel)) (tb_in 240 (by decide +kernel) (by decide +kernel)) (tb_in 7 (by decide +kernel) (by decide +kernel)) ck_3 tyX4_ok rfl (lt_s (lt_s lt_0 rfl) rfl) (fun _ => rfl) (by decide +kernel) (by decide) hw (wfl_r (by decide) (wfl_i wfl_nil)) (wfs_r (by decide) wfs_nil) (Nat.le_of_ble_eq_true rfl) (Nat.le_of_ble_eq_true rfl) ?_
  show AW l yy_X11_init _ _ 101 7060 118 [some (.ref 0), some (.int 4)] [.ref 101, .ref 0] 102 _
  refine AW.run [(.dup, 0)] (pc' := 119) (ls' := [some (.ref 0), some (.int 4)]) (st' := [.ref 101, .ref 101, .ref 0]) (by decide +kernel) rfl ?_
  refine AW.callI (As := []) (st := [.ref 101, .ref 0]) li_RX11_47 (by decide +kernel) (kJ_X4_init _ 101 (by decide) hp) (Nat.le_of_ble_eq_true rfl) (Nat.le_of_ble_eq_true rfl) rfl (Nat.le_of_ble_eq_true rfl) rfl (Nat.le_of_ble_eq_true rfl) (Nat.le_of_ble_eq_true rfl) (wfl_r (by decide) (wfl_i wfl_nil)) (wfs_r (by decide) (wfs_r (by decide) wfs_nil)) (fun r n' h' q => q.1) (fun n' h' _ _ q => ?_)
  obtain ⟨-, q2, q3⟩ := q
  subst q2
  subst q3
  have hw := blk_wf (m := 106) (cs := [.inr (3, [.ref (101 + 1), .ref (101 + 4)]), .inr (7, [.ref (101 + 2), .ref (101 + 3)]), .inl (.long, 8, .inr (.inl (fun _ => 0))), .inl (.long, 64, .inr (.inl (fun _ => 0))), .inl (.int, 6, .inl (fun _ => 0))]) hp rfl (List.forall_mem_cons.mpr ⟨(wfo (wfs_r (by decide) (wfs_r (by decide) wfs_nil))), (List.forall_mem_cons.mpr ⟨(wfo (wfs_r (by decide) (wfs_r (by decide) wfs_nil))), (List.forall_mem_cons.mpr ⟨wfj, (List.forall_mem_cons.mpr ⟨wfj, (List.forall_mem_cons.mpr ⟨wfi, (fun _ h => absurd h List.not_mem_nil)⟩)⟩)⟩)⟩)⟩)
  show AW l yy_X11_init _ _ 105 7140 122 [some (.ref 0), some (.int 4)] [.ref 101, .ref 0] 106 _
  refine AW.putF (fs := [.ref 1, .ref 6, .ref 43, .ref 49, .ref 98, .ref 99, .null, .null, .null, .null, .null, .int 0]) ff_RX11_48 rfl (by decide +kernel) (by decide) rfl (Nat.le_of_ble_eq_true rfl) (fun _ => rfl) (fun _ => rfl) ?_
  have hw := wf_set (k := 0) hw (e := .inr (9, ([.ref 1, .ref 6, .ref 43, .ref 49, .ref 98, .ref 99, .null, .null, .null, .null, .null, .int 0] : List Value).set 6 (.ref 101))) (wfo (wfs_r (by decide) (wfs_r (by decide) (wfs_r (by decide) (wfs_r (by decide) (wfs_r (by decide) (wfs_r (by decide) (wfs_r (by decide) (wfs_n (wfs_n (wfs_n (wfs_n (wfs_i wfs_nil)))))))))))))
  refine AW.run [(.aload_n 0, 0)] (pc' := 126) (ls' := [some (.ref 0), some (.int 4)]) (st' := [.ref 0]) (by decide +kernel) rfl ?_
  have hp := hw
  refine AW.new (idx := 52) (C := RX5) (T := TX5) (ty := tyX5) (N := 5) (ci := 4) (fs := [.null, .null, .null, .int 0, .int 0]) (tb_in 269 (by decide +kernel) (by decide +kernel)) (tb_in 270 (by decide +kernel) (by decide +kernel)) (tb_in 9 (by decide +kernel) (by decide +kernel)) ck_4 tyX5_ok rfl (lt_s (lt_s (lt_s (lt_s (lt_s lt_0 rfl) rfl) rfl) rfl) rfl) (fun _ => rfl) (by decide +kernel) (by decide) hw (wfl_r (by decide) (wfl_i wfl_nil)) (wfs_r (by decide) wfs_nil) (Nat.le_of_ble_eq_true rfl) (Nat.le_of_ble_eq_true rfl) ?_
  show AW l yy_X11_init _ _ 106 7145 129 [some (.ref 0), some (.int 4)] [.ref 106, .ref 0] 107 _
  refine AW.run [(.dup, 0)] (pc' := 130) (ls' := [some (.ref 0), some (.int 4)]) (st' := [.ref 106, .ref 106, .ref 0]) (by decide +kernel) rfl ?_
  refine AW.callI (As := []) (st := [.ref 106, .ref 0]) li_RX11_54 (by decide +kernel) (kJ_X5_init _ 106 (by decide) hp) (Nat.le_of_ble_eq_true rfl) (Nat.le_of_ble_eq_true rfl) rfl (Nat.le_of_ble_eq_true rfl) rfl (Nat.le_of_ble_eq_true rfl) (Nat.le_of_ble_eq_true rfl) (wfl_r (by decide) (wfl_i wfl_nil)) (wfs_r (by decide) (wfs_r (by decide) wfs_nil)) (fun r n' h' q => q.1) (fun n' h' _ _ q => ?_)
  obtain ⟨-, q2, q3⟩ := q
  subst q2
  subst q3
  have hw := blk_wf (m := 110) (cs := [.inr (4, [.ref (106 + 1), .ref (106 + 2), .ref (106 + 3), .int 0, .int 0]), .inl (.long, 2048, .inr (.inl (fun _ => 0))), .inl (.int, 1024, .inl (fun _ => 0)), .inl (.int, 16, .inl (fun _ => 0))]) hp rfl (List.forall_mem_cons.mpr ⟨(wfo (wfs_r (by decide) (wfs_r (by decide) (wfs_r (by decide) (wfs_i (wfs_i wfs_nil)))))), (List.forall_mem_cons.mpr ⟨wfj, (List.forall_mem_cons.mpr ⟨wfi, (List.forall_mem_cons.mpr ⟨wfi, (fun _ h => absurd h List.not_mem_nil)⟩)⟩)⟩)⟩)
  show AW l yy_X11_init _ _ 109 10233 133 [some (.ref 0), some (.int 4)] [.ref 106, .ref 0] 110 _
  refine AW.putF (fs := [.ref 1, .ref 6, .ref 43, .ref 49, .ref 98, .ref 99, .ref 101, .null, .null, .null, .null, .int 0]) ff_RX11_55 rfl (by decide +kernel) (by decide) rfl (Nat.le_of_ble_eq_true rfl) (fun _ => rfl) (fun _ => rfl) ?_
  have hw := wf_set (k := 0) hw (e := .inr (9, ([.ref 1, .ref 6, .ref 43, .ref 49, .ref 98, .ref 99, .ref 101, .null, .null, .null, .null, .int 0] : List Value).set 7 (.ref 106))) (wfo (wfs_r (by decide) (wfs_r (by decide) (wfs_r (by decide) (wfs_r (by decide) (wfs_r (by decide) (wfs_r (by decide) (wfs_r (by decide) (wfs_r (by decide) (wfs_n (wfs_n (wfs_n (wfs_i wfs_nil)))))))))))))
  refine AW.run [(.aload_n 0, 0)] (pc' := 137) (ls' := [some (.ref 0), some (.int 4)]) (st' := [.ref 0]) (by decide +kernel) rfl ?_
  have hp := hw
  refine AW.new (idx := 59) (C := RX0) (T := TX0) (ty := tyX0) (N := 2) (ci := 0) (fs := [.null, .null]) (tb_in 293 (by decide +kernel) (by decide +kernel)) (tb_in 294 (by decide +kernel) (by decide +kernel)) (tb_in 10 (by decide +kernel) (by decide +kernel)) ck_0 tyX0_ok rfl (lt_s (lt_s lt_0 rfl) rfl) (fun _ => rfl) (by decide +kernel) (by decide) hw (wfl_r (by decide) (wfl_i wfl_nil)) (wfs_r (by decide) wfs_nil) (Nat.le_of_ble_eq_true rfl) (Nat.le_of_ble_eq_true rfl) ?_
  show AW l yy_X11_init _ _ 110 10235 140 [some (.ref 0), some (.int 4)] [.ref 110, .ref 0] 111 _
  refine AW.run [(.dup, 0)] (pc' := 141) (ls' := [some (.ref 0), some (.int 4)]) (st' := [.ref 110, .ref 110, .ref 0]) (by decide +kernel) rfl ?_
  refine AW.callI (As := []) (st := [.ref 110, .ref 0]) li_RX11_61 (by decide +kernel) (kJ_X0_init _ 110 (by decide) hp) (Nat.le_of_ble_eq_true rfl) (Nat.le_of_ble_eq_true rfl) rfl (Nat.le_of_ble_eq_true rfl) rfl (Nat.le_of_ble_eq_true rfl) (Nat.le_of_ble_eq_true rfl) (wfl_r (by decide) (wfl_i wfl_nil)) (wfs_r (by decide) (wfs_r (by decide) wfs_nil)) (fun r n' h' q => q.1) (fun n' h' _ _ q => ?_)
  obtain ⟨-, q2, q3⟩ := q
  subst q2
  subst q3
  have hw := blk_wf (m := 113) (cs := [.inr (0, [.ref (110 + 1), .ref (110 + 2)]), .inl (.int, 64, .inl (fun _ => 0)), .inl (.int, 256, .inl (fun _ => 0))]) hp rfl (List.forall_mem_cons.mpr ⟨(wfo (wfs_r (by decide) (wfs_r (by decide) wfs_nil))), (List.forall_mem_cons.mpr ⟨wfi, (List.forall_mem_cons.mpr ⟨wfi, (fun _ h => absurd h List.not_mem_nil)⟩)⟩)⟩)
  show AW l yy_X11_init _ _ 112 10555 144 [some (.ref 0), some (.int 4)] [.ref 110, .ref 0] 113 _
  refine AW.putF (fs := [.ref 1, .ref 6, .ref 43, .ref 49, .ref 98, .ref 99, .ref 101, .ref 106, .null, .null, .null, .int 0]) ff_RX11_62 rfl (by decide +kernel) (by decide) rfl (Nat.le_of_ble_eq_true rfl) (fun _ => rfl) (fun _ => rfl) ?_
  have hw := wf_set (k := 0) hw (e := .inr (9, ([.ref 1, .ref 6, .ref 43, .ref 49, .ref 98, .ref 99, .ref 101, .ref 106, .null, .null, .null, .int 0] : List Value).set 8 (.ref 110))) (wfo (wfs_r (by decide) (wfs_r (by decide) (wfs_r (by decide) (wfs_r (by decide) (wfs_r (by decide) (wfs_r (by decide) (wfs_r (by decide) (wfs_r (by decide) (wfs_r (by decide) (wfs_n (wfs_n (wfs_i wfs_nil)))))))))))))
  refine AW.run [(.aload_n 0, 0)] (pc' := 148) (ls' := [some (.ref 0), some (.int 4)]) (st' := [.ref 0]) (by decide +kernel) rfl ?_
  have hp := hw
  refine AW.new (idx := 27) (C := RX2) (T := TX2) (ty := tyX2) (N := 15) (ci := 2) (fs := [.null, .null, .null, .null, .null, .null, .null, .null, .int 0, .int 0, .int 0, .int 0, .int 0, .int 0, .int 0]) (tb_in 108 (by decide +kernel) (by decide +kernel)) (tb_in 110 (by decide +kernel) (by decide +kernel)) (tb_in 4 (by decide +kernel) (by decide +kernel)) ck_2 tyX2_ok rfl (lt_s (lt_s (lt_s (lt_s (lt_s (lt_s (lt_s (lt_s (lt_s (lt_s (lt_s (lt_s (lt_s (lt_s (lt_s lt_0 rfl) rfl) rfl) rfl) rfl) rfl) rfl) rfl) rfl) rfl) rfl) rfl) rfl) rfl) rfl) (fun _ => rfl) (by decide +kernel) (by decide) hw (wfl_r (by decide) (wfl_i wfl_nil)) (wfs_r (by decide) wfs_nil) (Nat.le_of_ble_eq_true rfl) (Nat.le_of_ble_eq_true rfl) ?_
  show AW l yy_X11_init _ _ 113 10570 151 [some (.ref 0), some (.int 4)] [.ref 113, .ref 0] 114 _
  refine AW.run [(.dup, 0)] (pc' := 152) (ls' := [some (.ref 0), some (.int 4)]) (st' := [.ref 113, .ref 113, .ref 0]) (by decide +kernel) rfl ?_
  refine AW.callI (As := []) (st := [.ref 113, .ref 0]) li_RX11_33 (by decide +kernel) (kJ_X2_init _ 113 (by decide) hp) (Nat.le_of_ble_eq_true rfl) (Nat.le_of_ble_eq_true rfl) rfl (Nat.le_of_ble_eq_true rfl) rfl (Nat.le_of_ble_eq_true rfl) (Nat.le_of_ble_eq_true rfl) (wfl_r (by decide) (wfl_i wfl_nil)) (wfs_r (by decide) (wfs_r (by decide) wfs_nil)) (fun r n' h' q => q.1) (fun n' h' _ _ q => ?_)
  obtain ⟨-, q2, q3⟩ := q
  subst q2
  subst q3
  have hw := blk_wf (m := 125) (cs := [.inr (2, [.ref (113 + 1), .ref (113 + 2), .ref (113 + 3), .ref (113 + 4), .ref (113 + 5), .ref (113 + 6), .ref (113 + 8), .ref (113 + 10), .int 0, .int 0, .int 0, .int 0, .int 0, .int (-1), .int 0]), .inl (.int, 8, .inl (fun _ => 0)), .inl (.int, 8, .inl (fun _ => 0)), .inl (.int, 8, .inl (fun _ => 0)), .inl (.int, 8, .inl (fun _ => 0)), .inl (.int, 64, .inl (fun _ => 0)), .inr (5, [.ref (113 + 7), .int 7, .int 40, .int 0]), .inl (.int, 280, .inl (fun _ => 0)), .inr (5, [.ref (113 + 9), .int 4, .int 10, .int 0]), .inl (.int, 40, .inl (fun _ => 0)), .inr (5, [.ref (113 + 11), .int 2, .int 8, .int 0]), .inl (.int, 16, .inl (fun _ => 0))]) hp rfl (List.forall_mem_cons.mpr ⟨(wfo (wfs_r (by decide) (wfs_r (by decide) (wfs_r (by decide) (wfs_r (by decide) (wfs_r (by decide) (wfs_r (by decide) (wfs_r (by decide) (wfs_r (by decide) (wfs_i (wfs_i (wfs_i (wfs_i (wfs_i (wfs_i (wfs_i wfs_nil)))))))))))))))), (List.forall_mem_cons.mpr ⟨wfi, (List.forall_mem_cons.mpr ⟨wfi, (List.forall_mem_cons.mpr ⟨wfi, (List.forall_mem_cons.mpr ⟨wfi, (List.forall_mem_cons.mpr ⟨wfi, (List.forall_mem_cons.mpr ⟨(wfo (wfs_r (by decide) (wfs_i (wfs_i (wfs_i wfs_nil))))), (List.forall_mem_cons.mpr ⟨wfi, (List.forall_mem_cons.mpr ⟨(wfo (wfs_r (by decide) (wfs_i (wfs_i (wfs_i wfs_nil))))), (List.forall_mem_cons.mpr ⟨wfi, (List.forall_mem_cons.mpr ⟨(wfo (wfs_r (by decide) (wfs_i (wfs_i (wfs_i wfs_nil))))), (List.forall_mem_cons.mpr ⟨wfi, (fun _ h => absurd h List.not_mem_nil)⟩)⟩)⟩)⟩)⟩)⟩)⟩)⟩)⟩)⟩)⟩)⟩)
  show AW l yy_X11_init _ _ 124 11014 155 [some (.ref 0), some (.int 4)] [.ref 113, .ref 0] 125 _
  refine AW.putf (fs := [.ref 1, .ref 6, .ref 43, .ref 49, .ref 98, .ref 99, .ref 101, .ref 106, .ref 110, .null, .null, .int 0]) fp_RX11_66 (by decide +kernel) (by decide) rfl (Nat.le_of_ble_eq_true rfl) (fun _ => rfl) (fun _ => rfl) ?_
  have hw := wf_set (k := 0) hw (e := .inr (9, ([.ref 1, .ref 6, .ref 43, .ref 49, .ref 98, .ref 99, .ref 101, .ref 106, .ref 110, .null, .null, .int 0] : List Value).set 9 (.ref 113))) (wfo (wfs_r (by decide) (wfs_r (by decide) (wfs_r (by decide) (wfs_r (by decide) (wfs_r (by decide) (wfs_r (by decide) (wfs_r (by decide) (wfs_r (by decide) (wfs_r (by decide) (wfs_r (by decide) (wfs_n (wfs_i wfs_nil)))))))))))))
  refine AW.run [(.aload_n 0, 0)] (pc' := 159) (ls' := [some (.ref 0), some (.int 4)]) (st' := [.ref 0]) (by decide +kernel) rfl ?_
  have hp := hw
  refine AW.new (idx := 27) (C := RX2) (T := TX2) (ty := tyX2) (N := 15) (ci := 2) (fs := [.null, .null, .null, .null, .null, .null, .null, .null, .int 0, .int 0, .int 0, .int 0, .int 0, .int 0, .int 0]) (tb_in 108 (by decide +kernel) (by decide +kernel)) (tb_in 110 (by decide +kernel) (by decide +kernel)) (tb_in 4 (by decide +kernel) (by decide +kernel)) ck_2 tyX2_ok rfl (lt_s (lt_s (lt_s (lt_s (lt_s (lt_s (lt_s (lt_s (lt_s (lt_s (lt_s (lt_s (lt_s (lt_s (lt_s lt_0 rfl) rfl) rfl) rfl) rfl) rfl) rfl) rfl) rfl) rfl) rfl) rfl) rfl) rfl) rfl) (fun _ => rfl) (by decide +kernel) (by decide) hw (wfl_r (by decide) (wfl_i wfl_nil)) (wfs_r (by decide) wfs_nil) (Nat.le_of_ble_eq_true rfl) (Nat.le_of_ble_eq_true rfl) ?_
  show AW l yy_X11_init _ _ 125 11029 162 [some (.ref 0), some (.int 4)] [.ref 125, .ref 0] 126 _
  refine AW.run [(.dup, 0)] (pc' := 163) (ls' := [some (.ref 0), some (.int 4)]) (st' := [.ref 125, .ref 125, .ref 0]) (by decide +kernel) rfl ?_
  refine AW.callI (As := []) (st := [.ref 125, .ref 0]) li_RX11_33 (by decide +kernel) (kJ_X2_init _ 125 (by decide) hp) (Nat.le_of_ble_eq_true rfl) (Nat.le_of_ble_eq_true rfl) rfl (Nat.le_of_ble_eq_true rfl) rfl (Nat.le_of_ble_eq_true rfl) (Nat.le_of_ble_eq_true rfl) (wfl_r (by decide) (wfl_i wfl_nil)) (wfs_r (by decide) (wfs_r (by decide) wfs_nil)) (fun r n' h' q => q.1) (fun n' h' _ _ q => ?_)
  obtain ⟨-, q2, q3⟩ := q
  subst q2
  subst q3
  have hw := blk_wf (m := 137) (cs := [.inr (2, [.ref (125 + 1), .ref (125 + 2), .ref (125 + 3), .ref (125 + 4), .ref (125 + 5), .ref (125 + 6), .ref (125 + 8), .ref (125 + 10), .int 0, .int 0, .int 0, .int 0, .int 0, .int (-1), .int 0]), .inl (.int, 8, .inl (fun _ => 0)), .inl (.int, 8, .inl (fun _ => 0)), .inl (.int, 8, .inl (fun _ => 0)), .inl (.int, 8, .inl (fun _ => 0)), .inl (.int, 64, .inl (fun _ => 0)), .inr (5, [.ref (125 + 7), .int 7, .int 40, .int 0]), .inl (.int, 280, .inl (fun _ => 0)), .inr (5, [.ref (125 + 9), .int 4, .int 10, .int 0]), .inl (.int, 40, .inl (fun _ => 0)), .inr (5, [.ref (125 + 11), .int 2, .int 8, .int 0]), .inl (.int, 16, .inl (fun _ => 0))]) hp rfl (List.forall_mem_cons.mpr ⟨(wfo (wfs_r (by decide) (wfs_r (by decide) (wfs_r (by decide) (wfs_r (by decide) (wfs_r (by decide) (wfs_r (by decide) (wfs_r (by decide) (wfs_r (by decide) (wfs_i (wfs_i (wfs_i (wfs_i (wfs_i (wfs_i (wfs_i wfs_nil)))))))))))))))), (List.forall_mem_cons.mpr ⟨wfi, (List.forall_mem_cons.mpr ⟨wfi, (List.forall_mem_cons.mpr ⟨wfi, (List.forall_mem_cons.mpr ⟨wfi, (List.forall_mem_cons.mpr ⟨wfi, (List.forall_mem_cons.mpr ⟨(wfo (wfs_r (by decide) (wfs_i (wfs_i (wfs_i wfs_nil))))), (List.forall_mem_cons.mpr ⟨wfi, (List.forall_mem_cons.mpr ⟨(wfo (wfs_r (by decide) (wfs_i (wfs_i (wfs_i wfs_nil))))), (List.forall_mem_cons.mpr ⟨wfi, (List.forall_mem_cons.mpr ⟨(wfo (wfs_r (by decide) (wfs_i (wfs_i (wfs_i wfs_nil))))), (List.forall_mem_cons.mpr ⟨wfi, (fun _ h => absurd h List.not_mem_nil)⟩)⟩)⟩)⟩)⟩)⟩)⟩)⟩)⟩)⟩)⟩)⟩)
  show AW l yy_X11_init _ _ 136 11473 166 [some (.ref 0), some (.int 4)] [.ref 125, .ref 0] 137 _
  refine AW.putf (fs := [.ref 1, .ref 6, .ref 43, .ref 49, .ref 98, .ref 99, .ref 101, .ref 106, .ref 110, .ref 113, .null, .int 0]) fp_RX11_70 (by decide +kernel) (by decide) rfl (Nat.le_of_ble_eq_true rfl) (fun _ => rfl) (fun _ => rfl) ?_
  have hw := wf_set (k := 0) hw (e := .inr (9, ([.ref 1, .ref 6, .ref 43, .ref 49, .ref 98, .ref 99, .ref 101, .ref 106, .ref 110, .ref 113, .null, .int 0] : List Value).set 10 (.ref 125))) (wfo (wfs_r (by decide) (wfs_r (by decide) (wfs_r (by decide) (wfs_r (by decide) (wfs_r (by decide) (wfs_r (by decide) (wfs_r (by decide) (wfs_r (by decide) (wfs_r (by decide) (wfs_r (by decide) (wfs_r (by decide) (wfs_i wfs_nil)))))))))))))
  exact AW.vret rfl (by decide +kernel) (Nat.le_refl _) (Nat.le_refl _) ⟨rfl, rfl, hw, (lt_s (lt_s (lt_s (lt_s (lt_s (lt_s (lt_s (lt_s (lt_s (lt_s (lt_s (lt_s (lt_s (lt_s (lt_s (lt_s (lt_s (lt_s (lt_s (lt_s (lt_s (lt_s (lt_s (lt_s (lt_s (lt_s (lt_s (lt_s (lt_s (lt_s (lt_s (lt_s (lt_s (lt_s (lt_s (lt_s (lt_s (lt_s (lt_s (lt_s (lt_s (lt_s (lt_s (lt_s (lt_s (lt_s (lt_s (lt_s (lt_s (lt_s (lt_s (lt_s (lt_s (lt_s (lt_s (lt_s (lt_s (lt_s (lt_s (lt_s (lt_s (lt_s (lt_s (lt_s (lt_s (lt_s (lt_s (lt_s (lt_s (lt_s (lt_s (lt_s (lt_s (lt_s (lt_s (lt_s (lt_s (lt_s (lt_s (lt_s (lt_s (lt_s (lt_s (lt_s (lt_s (lt_s (lt_s (lt_s (lt_s (lt_s (lt_s (lt_s (lt_s (lt_s (lt_s (lt_s (lt_s (lt_s (lt_s (lt_s (lt_s (lt_s (lt_s (lt_s (lt_s (lt_s (lt_s (lt_s (lt_s (lt_s (lt_s (lt_s (lt_s (lt_s (lt_s (lt_s (lt_s (lt_s (lt_s (lt_s (lt_s (lt_s (lt_s (lt_s (lt_s (lt_s (lt_s (lt_s (lt_s (lt_s (lt_s (lt_s (lt_s (lt_s (lt_s (lt_s (lt_s lt_0 rfl) rfl) rfl) rfl) rfl) rfl) rfl) rfl) rfl) rfl) rfl) rfl) rfl) rfl) rfl) rfl) rfl) rfl) rfl) rfl) rfl) rfl) rfl) rfl) rfl) rfl) rfl) rfl) rfl) rfl) rfl) rfl) rfl) rfl) rfl) rfl) rfl) rfl) rfl) rfl) rfl) rfl) rfl) rfl) rfl) rfl) rfl) rfl) rfl) rfl) rfl) rfl) rfl) rfl) rfl) rfl) rfl) rfl) rfl) rfl) rfl) rfl) rfl) rfl) rfl) rfl) rfl) rfl) rfl) rfl) rfl) rfl) rfl) rfl) rfl) rfl) rfl) rfl) rfl) rfl) rfl) rfl) rfl) rfl) rfl) rfl) rfl) rfl) rfl) rfl) rfl) rfl) rfl) rfl) rfl) rfl) rfl) rfl) rfl) rfl) rfl) rfl) rfl) rfl) rfl) rfl) rfl) rfl) rfl) rfl) rfl) rfl) rfl) rfl) rfl) rfl) rfl) rfl) rfl) rfl) rfl) rfl) rfl) rfl) rfl) rfl) rfl) rfl) rfl) rfl) rfl) rfl) rfl) rfl) rfl) rfl) rfl)⟩
end
