section
-- ===== PART A: goes FIRST, ahead of the names: the tables' words, and 'selects' of the private methods out of them =====
/-- a private method of a class that the tables say can be made, by its rows of tables_1 -/
def lw_okq (q : MethodName × Nat) : Prop := (q.1.cls ≠ "java/lang/invoke/MethodHandle" ∧ q.1.cls ≠ "java/lang/invoke/VarHandle") ∧ Cond.instantiable q.1.cls q.2 ∈ tables_1 ∧ Cond.privateMethod q.1 ∈ tables_1 ∧ Cond.instanceMethod q.1 ∈ tables_1
theorem lw_p0 : lw_okq (⟨"SoupReader$Tape", "pushByte", "(I)V"⟩, 2) := ⟨⟨by decide +kernel, by decide +kernel⟩, List.mem_of_getElem? (i := 24) (by decide +kernel), List.mem_of_getElem? (i := 244) (by decide +kernel), List.mem_of_getElem? (i := 245) (by decide +kernel)⟩
theorem lw_p1 : lw_okq (⟨"SoupReader$PageReader", "tagOpenAt", "(I)I"⟩, 8) := ⟨⟨by decide +kernel, by decide +kernel⟩, List.mem_of_getElem? (i := 186) (by decide +kernel), List.mem_of_getElem? (i := 280) (by decide +kernel), List.mem_of_getElem? (i := 281) (by decide +kernel)⟩
theorem lw_p2 : lw_okq (⟨"SoupReader$PageReader", "openAt", "(I)LSoupReader$Node;"⟩, 8) := ⟨⟨by decide +kernel, by decide +kernel⟩, List.mem_of_getElem? (i := 186) (by decide +kernel), List.mem_of_getElem? (i := 284) (by decide +kernel), List.mem_of_getElem? (i := 285) (by decide +kernel)⟩
theorem lw_p3 : lw_okq (⟨"SoupReader$PageReader", "skipRun", "(Z)V"⟩, 8) := ⟨⟨by decide +kernel, by decide +kernel⟩, List.mem_of_getElem? (i := 186) (by decide +kernel), List.mem_of_getElem? (i := 288) (by decide +kernel), List.mem_of_getElem? (i := 289) (by decide +kernel)⟩
theorem lw_p4 : lw_okq (⟨"SoupReader$PageReader", "endsRun", "(IZ)Z"⟩, 8) := ⟨⟨by decide +kernel, by decide +kernel⟩, List.mem_of_getElem? (i := 186) (by decide +kernel), List.mem_of_getElem? (i := 292) (by decide +kernel), List.mem_of_getElem? (i := 293) (by decide +kernel)⟩
theorem lw_p5 : lw_okq (⟨"SoupReader$PageReader", "startsTag", "(I)Z"⟩, 8) := ⟨⟨by decide +kernel, by decide +kernel⟩, List.mem_of_getElem? (i := 186) (by decide +kernel), List.mem_of_getElem? (i := 350) (by decide +kernel), List.mem_of_getElem? (i := 351) (by decide +kernel)⟩
theorem lw_p6 : lw_okq (⟨"SoupReader$PageReader", "takeRun", "(IIZ)V"⟩, 8) := ⟨⟨by decide +kernel, by decide +kernel⟩, List.mem_of_getElem? (i := 186) (by decide +kernel), List.mem_of_getElem? (i := 361) (by decide +kernel), List.mem_of_getElem? (i := 362) (by decide +kernel)⟩
theorem lw_p7 : lw_okq (⟨"SoupReader$PageReader", "textFor", "(II)LSoupReader$Node;"⟩, 8) := ⟨⟨by decide +kernel, by decide +kernel⟩, List.mem_of_getElem? (i := 186) (by decide +kernel), List.mem_of_getElem? (i := 365) (by decide +kernel), List.mem_of_getElem? (i := 366) (by decide +kernel)⟩
theorem lw_p8 : lw_okq (⟨"SoupReader$PageReader", "innermost", "()LSoupReader$Node;"⟩, 8) := ⟨⟨by decide +kernel, by decide +kernel⟩, List.mem_of_getElem? (i := 186) (by decide +kernel), List.mem_of_getElem? (i := 369) (by decide +kernel), List.mem_of_getElem? (i := 370) (by decide +kernel)⟩
theorem lw_p9 : lw_okq (⟨"SoupReader$PageReader", "isAllBlank", "(II)Z"⟩, 8) := ⟨⟨by decide +kernel, by decide +kernel⟩, List.mem_of_getElem? (i := 186) (by decide +kernel), List.mem_of_getElem? (i := 373) (by decide +kernel), List.mem_of_getElem? (i := 374) (by decide +kernel)⟩
theorem lw_p10 : lw_okq (⟨"SoupReader$Tree", "leastFree", "()I"⟩, 3) := ⟨⟨by decide +kernel, by decide +kernel⟩, List.mem_of_getElem? (i := 74) (by decide +kernel), List.mem_of_getElem? (i := 384) (by decide +kernel), List.mem_of_getElem? (i := 385) (by decide +kernel)⟩
theorem lw_p11 : lw_okq (⟨"SoupReader$PageReader", "entityAt", "(I)I"⟩, 8) := ⟨⟨by decide +kernel, by decide +kernel⟩, List.mem_of_getElem? (i := 186) (by decide +kernel), List.mem_of_getElem? (i := 399) (by decide +kernel), List.mem_of_getElem? (i := 400) (by decide +kernel)⟩
theorem lw_p12 : lw_okq (⟨"SoupReader$PageReader", "tellTooLong", "(LSoupReader$Node;I)V"⟩, 8) := ⟨⟨by decide +kernel, by decide +kernel⟩, List.mem_of_getElem? (i := 186) (by decide +kernel), List.mem_of_getElem? (i := 411) (by decide +kernel), List.mem_of_getElem? (i := 412) (by decide +kernel)⟩
theorem lw_p13 : lw_okq (⟨"SoupReader$PageReader", "readComment", "()V"⟩, 8) := ⟨⟨by decide +kernel, by decide +kernel⟩, List.mem_of_getElem? (i := 186) (by decide +kernel), List.mem_of_getElem? (i := 419) (by decide +kernel), List.mem_of_getElem? (i := 420) (by decide +kernel)⟩
theorem lw_p14 : lw_okq (⟨"SoupReader$PageReader", "readTag", "()V"⟩, 8) := ⟨⟨by decide +kernel, by decide +kernel⟩, List.mem_of_getElem? (i := 186) (by decide +kernel), List.mem_of_getElem? (i := 424) (by decide +kernel), List.mem_of_getElem? (i := 425) (by decide +kernel)⟩
theorem lw_p15 : lw_okq (⟨"SoupReader$PageReader", "readTagName", "()J"⟩, 8) := ⟨⟨by decide +kernel, by decide +kernel⟩, List.mem_of_getElem? (i := 186) (by decide +kernel), List.mem_of_getElem? (i := 428) (by decide +kernel), List.mem_of_getElem? (i := 429) (by decide +kernel)⟩
def lw_privs_1 : List (MethodName × Nat) := [(⟨"SoupReader$Tape", "pushByte", "(I)V"⟩, 2), (⟨"SoupReader$PageReader", "tagOpenAt", "(I)I"⟩, 8), (⟨"SoupReader$PageReader", "openAt", "(I)LSoupReader$Node;"⟩, 8), (⟨"SoupReader$PageReader", "skipRun", "(Z)V"⟩, 8), (⟨"SoupReader$PageReader", "endsRun", "(IZ)Z"⟩, 8), (⟨"SoupReader$PageReader", "startsTag", "(I)Z"⟩, 8), (⟨"SoupReader$PageReader", "takeRun", "(IIZ)V"⟩, 8), (⟨"SoupReader$PageReader", "textFor", "(II)LSoupReader$Node;"⟩, 8), (⟨"SoupReader$PageReader", "innermost", "()LSoupReader$Node;"⟩, 8), (⟨"SoupReader$PageReader", "isAllBlank", "(II)Z"⟩, 8), (⟨"SoupReader$Tree", "leastFree", "()I"⟩, 3), (⟨"SoupReader$PageReader", "entityAt", "(I)I"⟩, 8), (⟨"SoupReader$PageReader", "tellTooLong", "(LSoupReader$Node;I)V"⟩, 8), (⟨"SoupReader$PageReader", "readComment", "()V"⟩, 8), (⟨"SoupReader$PageReader", "readTag", "()V"⟩, 8), (⟨"SoupReader$PageReader", "readTagName", "()J"⟩, 8)]
theorem lw_r1 : ∀ q ∈ lw_privs_1, lw_okq q := List.forall_mem_cons.mpr ⟨lw_p0, List.forall_mem_cons.mpr ⟨lw_p1, List.forall_mem_cons.mpr ⟨lw_p2, List.forall_mem_cons.mpr ⟨lw_p3, List.forall_mem_cons.mpr ⟨lw_p4, List.forall_mem_cons.mpr ⟨lw_p5, List.forall_mem_cons.mpr ⟨lw_p6, List.forall_mem_cons.mpr ⟨lw_p7, List.forall_mem_cons.mpr ⟨lw_p8, List.forall_mem_cons.mpr ⟨lw_p9, List.forall_mem_cons.mpr ⟨lw_p10, List.forall_mem_cons.mpr ⟨lw_p11, List.forall_mem_cons.mpr ⟨lw_p12, List.forall_mem_cons.mpr ⟨lw_p13, List.forall_mem_cons.mpr ⟨lw_p14, List.forall_mem_cons.mpr ⟨lw_p15, fun _ h => absurd h List.not_mem_nil⟩⟩⟩⟩⟩⟩⟩⟩⟩⟩⟩⟩⟩⟩⟩⟩
theorem lw_p16 : lw_okq (⟨"SoupReader$PageReader", "readAttribute", "(Z)V"⟩, 8) := ⟨⟨by decide +kernel, by decide +kernel⟩, List.mem_of_getElem? (i := 186) (by decide +kernel), List.mem_of_getElem? (i := 441) (by decide +kernel), List.mem_of_getElem? (i := 442) (by decide +kernel)⟩
theorem lw_p17 : lw_okq (⟨"SoupReader$PageReader", "readAttributeName", "()J"⟩, 8) := ⟨⟨by decide +kernel, by decide +kernel⟩, List.mem_of_getElem? (i := 186) (by decide +kernel), List.mem_of_getElem? (i := 445) (by decide +kernel), List.mem_of_getElem? (i := 446) (by decide +kernel)⟩
theorem lw_p18 : lw_okq (⟨"SoupReader$PageReader", "takeAttribute", "(JI)LSoupReader$Attribute;"⟩, 8) := ⟨⟨by decide +kernel, by decide +kernel⟩, List.mem_of_getElem? (i := 186) (by decide +kernel), List.mem_of_getElem? (i := 452) (by decide +kernel), List.mem_of_getElem? (i := 453) (by decide +kernel)⟩
theorem lw_p19 : lw_okq (⟨"SoupReader$PageReader", "readValue", "(LSoupReader$Attribute;)V"⟩, 8) := ⟨⟨by decide +kernel, by decide +kernel⟩, List.mem_of_getElem? (i := 186) (by decide +kernel), List.mem_of_getElem? (i := 491) (by decide +kernel), List.mem_of_getElem? (i := 492) (by decide +kernel)⟩
theorem lw_p20 : lw_okq (⟨"SoupReader$PageReader", "takeEndTag", "(JI)V"⟩, 8) := ⟨⟨by decide +kernel, by decide +kernel⟩, List.mem_of_getElem? (i := 186) (by decide +kernel), List.mem_of_getElem? (i := 502) (by decide +kernel), List.mem_of_getElem? (i := 503) (by decide +kernel)⟩
theorem lw_p21 : lw_okq (⟨"SoupReader$PageReader", "innermostNamed", "(J)I"⟩, 8) := ⟨⟨by decide +kernel, by decide +kernel⟩, List.mem_of_getElem? (i := 186) (by decide +kernel), List.mem_of_getElem? (i := 516) (by decide +kernel), List.mem_of_getElem? (i := 517) (by decide +kernel)⟩
theorem lw_p22 : lw_okq (⟨"SoupReader$PageReader", "closeDownTo", "(I)V"⟩, 8) := ⟨⟨by decide +kernel, by decide +kernel⟩, List.mem_of_getElem? (i := 186) (by decide +kernel), List.mem_of_getElem? (i := 520) (by decide +kernel), List.mem_of_getElem? (i := 521) (by decide +kernel)⟩
theorem lw_p23 : lw_okq (⟨"SoupReader$PageReader", "placeOpenAt", "(I)I"⟩, 8) := ⟨⟨by decide +kernel, by decide +kernel⟩, List.mem_of_getElem? (i := 186) (by decide +kernel), List.mem_of_getElem? (i := 524) (by decide +kernel), List.mem_of_getElem? (i := 525) (by decide +kernel)⟩
theorem lw_p24 : lw_okq (⟨"SoupReader$PageReader", "takeStartTag", "(JI)V"⟩, 8) := ⟨⟨by decide +kernel, by decide +kernel⟩, List.mem_of_getElem? (i := 186) (by decide +kernel), List.mem_of_getElem? (i := 528) (by decide +kernel), List.mem_of_getElem? (i := 529) (by decide +kernel)⟩
theorem lw_p25 : lw_okq (⟨"SoupReader$PageReader", "closeBefore", "(II)V"⟩, 8) := ⟨⟨by decide +kernel, by decide +kernel⟩, List.mem_of_getElem? (i := 186) (by decide +kernel), List.mem_of_getElem? (i := 532) (by decide +kernel), List.mem_of_getElem? (i := 533) (by decide +kernel)⟩
theorem lw_p26 : lw_okq (⟨"SoupReader$PageReader", "innermostOf", "(I)I"⟩, 8) := ⟨⟨by decide +kernel, by decide +kernel⟩, List.mem_of_getElem? (i := 186) (by decide +kernel), List.mem_of_getElem? (i := 539) (by decide +kernel), List.mem_of_getElem? (i := 540) (by decide +kernel)⟩
theorem lw_p27 : lw_okq (⟨"SoupReader$PageReader", "push", "(LSoupReader$Node;I)V"⟩, 8) := ⟨⟨by decide +kernel, by decide +kernel⟩, List.mem_of_getElem? (i := 186) (by decide +kernel), List.mem_of_getElem? (i := 553) (by decide +kernel), List.mem_of_getElem? (i := 554) (by decide +kernel)⟩
theorem lw_p28 : lw_okq (⟨"SoupReader", "writeValue", "(I)I"⟩, 5) := ⟨⟨by decide +kernel, by decide +kernel⟩, List.mem_of_getElem? (i := 16) (by decide +kernel), List.mem_of_getElem? (i := 597) (by decide +kernel), List.mem_of_getElem? (i := 598) (by decide +kernel)⟩
theorem lw_p29 : lw_okq (⟨"SoupReader", "writeNode", "(LSoupReader$Node;I)V"⟩, 5) := ⟨⟨by decide +kernel, by decide +kernel⟩, List.mem_of_getElem? (i := 16) (by decide +kernel), List.mem_of_getElem? (i := 630) (by decide +kernel), List.mem_of_getElem? (i := 631) (by decide +kernel)⟩
theorem lw_p30 : lw_okq (⟨"SoupReader", "writeText", "(LSoupReader$Node;)V"⟩, 5) := ⟨⟨by decide +kernel, by decide +kernel⟩, List.mem_of_getElem? (i := 16) (by decide +kernel), List.mem_of_getElem? (i := 634) (by decide +kernel), List.mem_of_getElem? (i := 635) (by decide +kernel)⟩
theorem lw_p31 : lw_okq (⟨"SoupReader", "writeStartTag", "(LSoupReader$Node;)V"⟩, 5) := ⟨⟨by decide +kernel, by decide +kernel⟩, List.mem_of_getElem? (i := 16) (by decide +kernel), List.mem_of_getElem? (i := 652) (by decide +kernel), List.mem_of_getElem? (i := 653) (by decide +kernel)⟩
def lw_privs_2 : List (MethodName × Nat) := [(⟨"SoupReader$PageReader", "readAttribute", "(Z)V"⟩, 8), (⟨"SoupReader$PageReader", "readAttributeName", "()J"⟩, 8), (⟨"SoupReader$PageReader", "takeAttribute", "(JI)LSoupReader$Attribute;"⟩, 8), (⟨"SoupReader$PageReader", "readValue", "(LSoupReader$Attribute;)V"⟩, 8), (⟨"SoupReader$PageReader", "takeEndTag", "(JI)V"⟩, 8), (⟨"SoupReader$PageReader", "innermostNamed", "(J)I"⟩, 8), (⟨"SoupReader$PageReader", "closeDownTo", "(I)V"⟩, 8), (⟨"SoupReader$PageReader", "placeOpenAt", "(I)I"⟩, 8), (⟨"SoupReader$PageReader", "takeStartTag", "(JI)V"⟩, 8), (⟨"SoupReader$PageReader", "closeBefore", "(II)V"⟩, 8), (⟨"SoupReader$PageReader", "innermostOf", "(I)I"⟩, 8), (⟨"SoupReader$PageReader", "push", "(LSoupReader$Node;I)V"⟩, 8), (⟨"SoupReader", "writeValue", "(I)I"⟩, 5), (⟨"SoupReader", "writeNode", "(LSoupReader$Node;I)V"⟩, 5), (⟨"SoupReader", "writeText", "(LSoupReader$Node;)V"⟩, 5), (⟨"SoupReader", "writeStartTag", "(LSoupReader$Node;)V"⟩, 5)]
theorem lw_r2 : ∀ q ∈ lw_privs_2, lw_okq q := List.forall_mem_cons.mpr ⟨lw_p16, List.forall_mem_cons.mpr ⟨lw_p17, List.forall_mem_cons.mpr ⟨lw_p18, List.forall_mem_cons.mpr ⟨lw_p19, List.forall_mem_cons.mpr ⟨lw_p20, List.forall_mem_cons.mpr ⟨lw_p21, List.forall_mem_cons.mpr ⟨lw_p22, List.forall_mem_cons.mpr ⟨lw_p23, List.forall_mem_cons.mpr ⟨lw_p24, List.forall_mem_cons.mpr ⟨lw_p25, List.forall_mem_cons.mpr ⟨lw_p26, List.forall_mem_cons.mpr ⟨lw_p27, List.forall_mem_cons.mpr ⟨lw_p28, List.forall_mem_cons.mpr ⟨lw_p29, List.forall_mem_cons.mpr ⟨lw_p30, List.forall_mem_cons.mpr ⟨lw_p31, fun _ h => absurd h List.not_mem_nil⟩⟩⟩⟩⟩⟩⟩⟩⟩⟩⟩⟩⟩⟩⟩⟩
theorem lw_p32 : lw_okq (⟨"SoupReader", "addElement", "(I)I"⟩, 5) := ⟨⟨by decide +kernel, by decide +kernel⟩, List.mem_of_getElem? (i := 16) (by decide +kernel), List.mem_of_getElem? (i := 679) (by decide +kernel), List.mem_of_getElem? (i := 680) (by decide +kernel)⟩
theorem lw_p33 : lw_okq (⟨"SoupReader", "replaceByText", "(I)I"⟩, 5) := ⟨⟨by decide +kernel, by decide +kernel⟩, List.mem_of_getElem? (i := 16) (by decide +kernel), List.mem_of_getElem? (i := 689) (by decide +kernel), List.mem_of_getElem? (i := 690) (by decide +kernel)⟩
theorem lw_p34 : lw_okq (⟨"SoupReader$Tree", "release", "(LSoupReader$Node;I)V"⟩, 3) := ⟨⟨by decide +kernel, by decide +kernel⟩, List.mem_of_getElem? (i := 74) (by decide +kernel), List.mem_of_getElem? (i := 697) (by decide +kernel), List.mem_of_getElem? (i := 698) (by decide +kernel)⟩
theorem lw_p35 : lw_okq (⟨"SoupReader", "setAttribute", "(I)I"⟩, 5) := ⟨⟨by decide +kernel, by decide +kernel⟩, List.mem_of_getElem? (i := 16) (by decide +kernel), List.mem_of_getElem? (i := 710) (by decide +kernel), List.mem_of_getElem? (i := 711) (by decide +kernel)⟩
theorem lw_p36 : lw_okq (⟨"SoupReader", "findElement", "(I)I"⟩, 5) := ⟨⟨by decide +kernel, by decide +kernel⟩, List.mem_of_getElem? (i := 16) (by decide +kernel), List.mem_of_getElem? (i := 738) (by decide +kernel), List.mem_of_getElem? (i := 739) (by decide +kernel)⟩
theorem lw_p37 : lw_okq (⟨"SoupReaderModel", "there", "(I)Z"⟩, 45) := ⟨⟨by decide +kernel, by decide +kernel⟩, List.mem_of_getElem? (i := 752) (by decide +kernel), List.mem_of_getElem? (i := 750) (by decide +kernel), List.mem_of_getElem? (i := 751) (by decide +kernel)⟩
theorem lw_p38 : lw_okq (⟨"SoupReaderModel", "sayEscaped", "([BIIZ)V"⟩, 45) := ⟨⟨by decide +kernel, by decide +kernel⟩, List.mem_of_getElem? (i := 752) (by decide +kernel), List.mem_of_getElem? (i := 755) (by decide +kernel), List.mem_of_getElem? (i := 756) (by decide +kernel)⟩
theorem lw_p39 : lw_okq (⟨"SoupReaderModel", "say", "(I)V"⟩, 45) := ⟨⟨by decide +kernel, by decide +kernel⟩, List.mem_of_getElem? (i := 752) (by decide +kernel), List.mem_of_getElem? (i := 759) (by decide +kernel), List.mem_of_getElem? (i := 760) (by decide +kernel)⟩
theorem lw_p40 : lw_okq (⟨"SoupReaderModel", "sayBegin", "(I)V"⟩, 45) := ⟨⟨by decide +kernel, by decide +kernel⟩, List.mem_of_getElem? (i := 752) (by decide +kernel), List.mem_of_getElem? (i := 763) (by decide +kernel), List.mem_of_getElem? (i := 764) (by decide +kernel)⟩
theorem lw_p41 : lw_okq (⟨"SoupReaderModel", "sayAll", "([BII)V"⟩, 45) := ⟨⟨by decide +kernel, by decide +kernel⟩, List.mem_of_getElem? (i := 752) (by decide +kernel), List.mem_of_getElem? (i := 767) (by decide +kernel), List.mem_of_getElem? (i := 768) (by decide +kernel)⟩
theorem lw_p42 : lw_okq (⟨"SoupReaderModel", "sayEnd", "(I)V"⟩, 45) := ⟨⟨by decide +kernel, by decide +kernel⟩, List.mem_of_getElem? (i := 752) (by decide +kernel), List.mem_of_getElem? (i := 771) (by decide +kernel), List.mem_of_getElem? (i := 772) (by decide +kernel)⟩
theorem lw_p43 : lw_okq (⟨"SoupReaderModel", "emptyTree", "()V"⟩, 45) := ⟨⟨by decide +kernel, by decide +kernel⟩, List.mem_of_getElem? (i := 752) (by decide +kernel), List.mem_of_getElem? (i := 796) (by decide +kernel), List.mem_of_getElem? (i := 797) (by decide +kernel)⟩
theorem lw_p44 : lw_okq (⟨"SoupReaderModel", "fresh", "(I)I"⟩, 45) := ⟨⟨by decide +kernel, by decide +kernel⟩, List.mem_of_getElem? (i := 752) (by decide +kernel), List.mem_of_getElem? (i := 800) (by decide +kernel), List.mem_of_getElem? (i := 801) (by decide +kernel)⟩
theorem lw_p45 : lw_okq (⟨"SoupReaderModel", "putFour", "(I)V"⟩, 45) := ⟨⟨by decide +kernel, by decide +kernel⟩, List.mem_of_getElem? (i := 752) (by decide +kernel), List.mem_of_getElem? (i := 945) (by decide +kernel), List.mem_of_getElem? (i := 946) (by decide +kernel)⟩
theorem lw_p46 : lw_okq (⟨"SoupReaderModel", "take", "()I"⟩, 45) := ⟨⟨by decide +kernel, by decide +kernel⟩, List.mem_of_getElem? (i := 752) (by decide +kernel), List.mem_of_getElem? (i := 961) (by decide +kernel), List.mem_of_getElem? (i := 962) (by decide +kernel)⟩
theorem lw_p47 : lw_okq (⟨"SoupReaderModel", "readPage", "()V"⟩, 45) := ⟨⟨by decide +kernel, by decide +kernel⟩, List.mem_of_getElem? (i := 752) (by decide +kernel), List.mem_of_getElem? (i := 968) (by decide +kernel), List.mem_of_getElem? (i := 969) (by decide +kernel)⟩
def lw_privs_3 : List (MethodName × Nat) := [(⟨"SoupReader", "addElement", "(I)I"⟩, 5), (⟨"SoupReader", "replaceByText", "(I)I"⟩, 5), (⟨"SoupReader$Tree", "release", "(LSoupReader$Node;I)V"⟩, 3), (⟨"SoupReader", "setAttribute", "(I)I"⟩, 5), (⟨"SoupReader", "findElement", "(I)I"⟩, 5), (⟨"SoupReaderModel", "there", "(I)Z"⟩, 45), (⟨"SoupReaderModel", "sayEscaped", "([BIIZ)V"⟩, 45), (⟨"SoupReaderModel", "say", "(I)V"⟩, 45), (⟨"SoupReaderModel", "sayBegin", "(I)V"⟩, 45), (⟨"SoupReaderModel", "sayAll", "([BII)V"⟩, 45), (⟨"SoupReaderModel", "sayEnd", "(I)V"⟩, 45), (⟨"SoupReaderModel", "emptyTree", "()V"⟩, 45), (⟨"SoupReaderModel", "fresh", "(I)I"⟩, 45), (⟨"SoupReaderModel", "putFour", "(I)V"⟩, 45), (⟨"SoupReaderModel", "take", "()I"⟩, 45), (⟨"SoupReaderModel", "readPage", "()V"⟩, 45)]
theorem lw_r3 : ∀ q ∈ lw_privs_3, lw_okq q := List.forall_mem_cons.mpr ⟨lw_p32, List.forall_mem_cons.mpr ⟨lw_p33, List.forall_mem_cons.mpr ⟨lw_p34, List.forall_mem_cons.mpr ⟨lw_p35, List.forall_mem_cons.mpr ⟨lw_p36, List.forall_mem_cons.mpr ⟨lw_p37, List.forall_mem_cons.mpr ⟨lw_p38, List.forall_mem_cons.mpr ⟨lw_p39, List.forall_mem_cons.mpr ⟨lw_p40, List.forall_mem_cons.mpr ⟨lw_p41, List.forall_mem_cons.mpr ⟨lw_p42, List.forall_mem_cons.mpr ⟨lw_p43, List.forall_mem_cons.mpr ⟨lw_p44, List.forall_mem_cons.mpr ⟨lw_p45, List.forall_mem_cons.mpr ⟨lw_p46, List.forall_mem_cons.mpr ⟨lw_p47, fun _ h => absurd h List.not_mem_nil⟩⟩⟩⟩⟩⟩⟩⟩⟩⟩⟩⟩⟩⟩⟩⟩
theorem lw_p48 : lw_okq (⟨"SoupReaderModel", "endsStyle", "(I)Z"⟩, 45) := ⟨⟨by decide +kernel, by decide +kernel⟩, List.mem_of_getElem? (i := 752) (by decide +kernel), List.mem_of_getElem? (i := 972) (by decide +kernel), List.mem_of_getElem? (i := 973) (by decide +kernel)⟩
theorem lw_p49 : lw_okq (⟨"SoupReaderModel", "isAt", "(IIII)Z"⟩, 45) := ⟨⟨by decide +kernel, by decide +kernel⟩, List.mem_of_getElem? (i := 752) (by decide +kernel), List.mem_of_getElem? (i := 976) (by decide +kernel), List.mem_of_getElem? (i := 977) (by decide +kernel)⟩
theorem lw_p50 : lw_okq (⟨"SoupReaderModel", "run", "(IZ)I"⟩, 45) := ⟨⟨by decide +kernel, by decide +kernel⟩, List.mem_of_getElem? (i := 752) (by decide +kernel), List.mem_of_getElem? (i := 1002) (by decide +kernel), List.mem_of_getElem? (i := 1003) (by decide +kernel)⟩
theorem lw_p51 : lw_okq (⟨"SoupReaderModel", "isNote", "(I)Z"⟩, 45) := ⟨⟨by decide +kernel, by decide +kernel⟩, List.mem_of_getElem? (i := 752) (by decide +kernel), List.mem_of_getElem? (i := 1009) (by decide +kernel), List.mem_of_getElem? (i := 1010) (by decide +kernel)⟩
theorem lw_p52 : lw_okq (⟨"SoupReaderModel", "isTag", "(I)Z"⟩, 45) := ⟨⟨by decide +kernel, by decide +kernel⟩, List.mem_of_getElem? (i := 752) (by decide +kernel), List.mem_of_getElem? (i := 1013) (by decide +kernel), List.mem_of_getElem? (i := 1014) (by decide +kernel)⟩
theorem lw_p53 : lw_okq (⟨"SoupReaderModel", "tellFault", "(II)V"⟩, 45) := ⟨⟨by decide +kernel, by decide +kernel⟩, List.mem_of_getElem? (i := 752) (by decide +kernel), List.mem_of_getElem? (i := 1023) (by decide +kernel), List.mem_of_getElem? (i := 1024) (by decide +kernel)⟩
theorem lw_p54 : lw_okq (⟨"SoupReaderModel", "entity", "([BII)I"⟩, 45) := ⟨⟨by decide +kernel, by decide +kernel⟩, List.mem_of_getElem? (i := 752) (by decide +kernel), List.mem_of_getElem? (i := 1027) (by decide +kernel), List.mem_of_getElem? (i := 1028) (by decide +kernel)⟩
theorem lw_p55 : lw_okq (⟨"SoupReaderModel", "note", "(I)I"⟩, 45) := ⟨⟨by decide +kernel, by decide +kernel⟩, List.mem_of_getElem? (i := 752) (by decide +kernel), List.mem_of_getElem? (i := 1031) (by decide +kernel), List.mem_of_getElem? (i := 1032) (by decide +kernel)⟩
theorem lw_p56 : lw_okq (⟨"SoupReaderModel", "readTag", "(I)I"⟩, 45) := ⟨⟨by decide +kernel, by decide +kernel⟩, List.mem_of_getElem? (i := 752) (by decide +kernel), List.mem_of_getElem? (i := 1035) (by decide +kernel), List.mem_of_getElem? (i := 1036) (by decide +kernel)⟩
theorem lw_p57 : lw_okq (⟨"SoupReaderModel", "readAttribute", "(I)I"⟩, 45) := ⟨⟨by decide +kernel, by decide +kernel⟩, List.mem_of_getElem? (i := 752) (by decide +kernel), List.mem_of_getElem? (i := 1045) (by decide +kernel), List.mem_of_getElem? (i := 1046) (by decide +kernel)⟩
theorem lw_p58 : lw_okq (⟨"SoupReaderModel", "endTag", "(II)V"⟩, 45) := ⟨⟨by decide +kernel, by decide +kernel⟩, List.mem_of_getElem? (i := 752) (by decide +kernel), List.mem_of_getElem? (i := 1058) (by decide +kernel), List.mem_of_getElem? (i := 1059) (by decide +kernel)⟩
theorem lw_p59 : lw_okq (⟨"SoupReaderModel", "closeTo", "(III)V"⟩, 45) := ⟨⟨by decide +kernel, by decide +kernel⟩, List.mem_of_getElem? (i := 752) (by decide +kernel), List.mem_of_getElem? (i := 1062) (by decide +kernel), List.mem_of_getElem? (i := 1063) (by decide +kernel)⟩
theorem lw_p60 : lw_okq (⟨"SoupReaderModel", "startTag", "(II)V"⟩, 45) := ⟨⟨by decide +kernel, by decide +kernel⟩, List.mem_of_getElem? (i := 752) (by decide +kernel), List.mem_of_getElem? (i := 1066) (by decide +kernel), List.mem_of_getElem? (i := 1067) (by decide +kernel)⟩
theorem lw_p61 : lw_okq (⟨"SoupReaderModel", "element", "(II)V"⟩, 45) := ⟨⟨by decide +kernel, by decide +kernel⟩, List.mem_of_getElem? (i := 752) (by decide +kernel), List.mem_of_getElem? (i := 1073) (by decide +kernel), List.mem_of_getElem? (i := 1074) (by decide +kernel)⟩
theorem lw_p62 : lw_okq (⟨"SoupReaderModel", "takeName", "()I"⟩, 45) := ⟨⟨by decide +kernel, by decide +kernel⟩, List.mem_of_getElem? (i := 752) (by decide +kernel), List.mem_of_getElem? (i := 1081) (by decide +kernel), List.mem_of_getElem? (i := 1082) (by decide +kernel)⟩
theorem lw_p63 : lw_okq (⟨"SoupReaderModel", "wrongName", "(I)I"⟩, 45) := ⟨⟨by decide +kernel, by decide +kernel⟩, List.mem_of_getElem? (i := 752) (by decide +kernel), List.mem_of_getElem? (i := 1085) (by decide +kernel), List.mem_of_getElem? (i := 1086) (by decide +kernel)⟩
def lw_privs_4 : List (MethodName × Nat) := [(⟨"SoupReaderModel", "endsStyle", "(I)Z"⟩, 45), (⟨"SoupReaderModel", "isAt", "(IIII)Z"⟩, 45), (⟨"SoupReaderModel", "run", "(IZ)I"⟩, 45), (⟨"SoupReaderModel", "isNote", "(I)Z"⟩, 45), (⟨"SoupReaderModel", "isTag", "(I)Z"⟩, 45), (⟨"SoupReaderModel", "tellFault", "(II)V"⟩, 45), (⟨"SoupReaderModel", "entity", "([BII)I"⟩, 45), (⟨"SoupReaderModel", "note", "(I)I"⟩, 45), (⟨"SoupReaderModel", "readTag", "(I)I"⟩, 45), (⟨"SoupReaderModel", "readAttribute", "(I)I"⟩, 45), (⟨"SoupReaderModel", "endTag", "(II)V"⟩, 45), (⟨"SoupReaderModel", "closeTo", "(III)V"⟩, 45), (⟨"SoupReaderModel", "startTag", "(II)V"⟩, 45), (⟨"SoupReaderModel", "element", "(II)V"⟩, 45), (⟨"SoupReaderModel", "takeName", "()I"⟩, 45), (⟨"SoupReaderModel", "wrongName", "(I)I"⟩, 45)]
theorem lw_r4 : ∀ q ∈ lw_privs_4, lw_okq q := List.forall_mem_cons.mpr ⟨lw_p48, List.forall_mem_cons.mpr ⟨lw_p49, List.forall_mem_cons.mpr ⟨lw_p50, List.forall_mem_cons.mpr ⟨lw_p51, List.forall_mem_cons.mpr ⟨lw_p52, List.forall_mem_cons.mpr ⟨lw_p53, List.forall_mem_cons.mpr ⟨lw_p54, List.forall_mem_cons.mpr ⟨lw_p55, List.forall_mem_cons.mpr ⟨lw_p56, List.forall_mem_cons.mpr ⟨lw_p57, List.forall_mem_cons.mpr ⟨lw_p58, List.forall_mem_cons.mpr ⟨lw_p59, List.forall_mem_cons.mpr ⟨lw_p60, List.forall_mem_cons.mpr ⟨lw_p61, List.forall_mem_cons.mpr ⟨lw_p62, List.forall_mem_cons.mpr ⟨lw_p63, fun _ h => absurd h List.not_mem_nil⟩⟩⟩⟩⟩⟩⟩⟩⟩⟩⟩⟩⟩⟩⟩⟩
theorem lw_p64 : lw_okq (⟨"SoupReaderModel", "isElement", "(I)Z"⟩, 45) := ⟨⟨by decide +kernel, by decide +kernel⟩, List.mem_of_getElem? (i := 752) (by decide +kernel), List.mem_of_getElem? (i := 1089) (by decide +kernel), List.mem_of_getElem? (i := 1090) (by decide +kernel)⟩
theorem lw_p65 : lw_okq (⟨"SoupReaderModel", "attributeNamed", "(II)I"⟩, 45) := ⟨⟨by decide +kernel, by decide +kernel⟩, List.mem_of_getElem? (i := 752) (by decide +kernel), List.mem_of_getElem? (i := 1093) (by decide +kernel), List.mem_of_getElem? (i := 1094) (by decide +kernel)⟩
theorem lw_p66 : lw_okq (⟨"SoupReaderModel", "remove0", "(I)V"⟩, 45) := ⟨⟨by decide +kernel, by decide +kernel⟩, List.mem_of_getElem? (i := 752) (by decide +kernel), List.mem_of_getElem? (i := 1113) (by decide +kernel), List.mem_of_getElem? (i := 1114) (by decide +kernel)⟩
theorem lw_p67 : lw_okq (⟨"SoupReaderModel", "after", "(II)I"⟩, 45) := ⟨⟨by decide +kernel, by decide +kernel⟩, List.mem_of_getElem? (i := 752) (by decide +kernel), List.mem_of_getElem? (i := 1117) (by decide +kernel), List.mem_of_getElem? (i := 1118) (by decide +kernel)⟩
theorem lw_p68 : lw_okq (⟨"SoupReaderModel", "behind", "(II)I"⟩, 45) := ⟨⟨by decide +kernel, by decide +kernel⟩, List.mem_of_getElem? (i := 752) (by decide +kernel), List.mem_of_getElem? (i := 1121) (by decide +kernel), List.mem_of_getElem? (i := 1122) (by decide +kernel)⟩
def lw_privs_5 : List (MethodName × Nat) := [(⟨"SoupReaderModel", "isElement", "(I)Z"⟩, 45), (⟨"SoupReaderModel", "attributeNamed", "(II)I"⟩, 45), (⟨"SoupReaderModel", "remove0", "(I)V"⟩, 45), (⟨"SoupReaderModel", "after", "(II)I"⟩, 45), (⟨"SoupReaderModel", "behind", "(II)I"⟩, 45)]
theorem lw_r5 : ∀ q ∈ lw_privs_5, lw_okq q := List.forall_mem_cons.mpr ⟨lw_p64, List.forall_mem_cons.mpr ⟨lw_p65, List.forall_mem_cons.mpr ⟨lw_p66, List.forall_mem_cons.mpr ⟨lw_p67, List.forall_mem_cons.mpr ⟨lw_p68, fun _ h => absurd h List.not_mem_nil⟩⟩⟩⟩⟩
def lw_privs : List (MethodName × Nat) := lw_privs_1 ++ (lw_privs_2 ++ (lw_privs_3 ++ (lw_privs_4 ++ (lw_privs_5))))
def lw_tbl : List Cond := k2_sels lw_privs ++ tables_1
theorem lw_privs_ok : ∀ q ∈ lw_privs, lw_okq q := by
  show ∀ q ∈ lw_privs_1 ++ (lw_privs_2 ++ (lw_privs_3 ++ (lw_privs_4 ++ (lw_privs_5)))), lw_okq q
  exact List.forall_mem_append.mpr ⟨lw_r1, List.forall_mem_append.mpr ⟨lw_r2, List.forall_mem_append.mpr ⟨lw_r3, List.forall_mem_append.mpr ⟨lw_r4, lw_r5⟩⟩⟩⟩
-- ===== end of PART A; then your names; then what follows =====
end
section
/-! ===== BEGIN words of one list among another's, by their places ===== -/
theorem goodIn_r {big : List Cond} (ws : List Cond) (ps : List Nat) (hp : ws = ps.filterMap (fun i => big[i]?)) (h : ws.all goodWord = true) : GoodIn big ws := by
  intro w hw
  have h1 := List.all_eq_true.mp h w hw
  rw [hp] at hw
  obtain ⟨i, -, hi⟩ := List.mem_filterMap.mp hw
  have hm : w ∈ big := by first | exact List.mem_of_getElem? hi | exact List.getElem?_mem hi
  exact ⟨hm, good_of_word h1⟩
theorem goodIn_app {big a b : List Cond} (ha : GoodIn big a) (hb : GoodIn big b) : GoodIn big (a ++ b) := fun w h => (List.mem_append.mp h).elim (ha w) (hb w)
theorem goodIn_ca {big a b : List Cond} {c : Cond} (ha : GoodIn big (c :: a)) (hb : GoodIn big b) : GoodIn big (c :: (a ++ b)) := fun w h => (List.mem_cons.mp h).elim (fun e => ha w (List.mem_cons.mpr (Or.inl e))) (fun h => (List.mem_append.mp h).elim (fun h => ha w (List.mem_cons.mpr (Or.inr h))) (hb w))
theorem goodIn_sub {big ws : List Cond} (hm : ∀ w ∈ ws, w ∈ big) (h : ws.all goodWord = true) : GoodIn big ws := fun w hw => ⟨hm w hw, good_of_word (List.all_eq_true.mp h w hw)⟩
/-! ===== END ===== -/

/-! ===== BEGIN printed: names, fields, word lists, decode rows ===== -/
def RX0 : String := "SoupReader$Attribute"
def TX0 : u_T := fun k => match k with
  | 0 => ("SoupReader$Attribute", "attributeName", "J", false)
  | 1 => ("SoupReader$Attribute", "value", "[B", true)
  | _ => ("SoupReader$Attribute", "length", "I", false)
def tyX0 : Nat → FieldType := fun k => match k with
  | 0 => .long
  | 1 => .array .byte
  | _ => .int
abbrev wsX00 : List Cond := u_ws RX0 TX0 3
theorem nmX0 : ∀ a, a < 3 → ∀ b, b < 3 → a ≠ b → (TX0 a).2.1 ≠ (TX0 b).2.1 := by decide +kernel
theorem tyX0_ok : ∀ k, k < 3 → parseFieldDescriptor (TX0 k).2.2.1 = some (tyX0 k) := by decide +kernel
abbrev cX0_init : ByteArray := prog_2_method_1_code
def yX0_init : MethodName := ⟨RX0, "<init>", "()V"⟩
abbrev cX0_begin : ByteArray := prog_2_method_2_code
def yX0_begin : MethodName := ⟨RX0, "begin", "(J)V"⟩
abbrev cX0_put : ByteArray := prog_2_method_3_code
def yX0_put : MethodName := ⟨RX0, "put", "(I)V"⟩
abbrev cX0_takeValueOf : ByteArray := prog_2_method_4_code
def yX0_takeValueOf : MethodName := ⟨RX0, "takeValueOf", "(LSoupReader$Attribute;)V"⟩
def RX1 : String := "SoupReader$Attributes"
def TX1 : u_T := fun k => match k with
  | 0 => ("SoupReader$Attributes", "items", "[LSoupReader$Attribute;", true)
  | _ => ("SoupReader$Attributes", "count", "I", false)
def tyX1 : Nat → FieldType := fun k => match k with
  | 0 => .array (.object "SoupReader$Attribute")
  | _ => .int
abbrev wsX10 : List Cond := u_ws RX1 TX1 2
theorem nmX1 : ∀ a, a < 2 → ∀ b, b < 2 → a ≠ b → (TX1 a).2.1 ≠ (TX1 b).2.1 := by decide +kernel
theorem tyX1_ok : ∀ k, k < 2 → parseFieldDescriptor (TX1 k).2.2.1 = some (tyX1 k) := by decide +kernel
abbrev cX1_init : ByteArray := prog_3_method_1_code
def yX1_init : MethodName := ⟨RX1, "<init>", "()V"⟩
abbrev cX1_itemAt : ByteArray := prog_3_method_2_code
def yX1_itemAt : MethodName := ⟨RX1, "itemAt", "(I)LSoupReader$Attribute;"⟩
abbrev cX1_named : ByteArray := prog_3_method_3_code
def yX1_named : MethodName := ⟨RX1, "named", "(J)LSoupReader$Attribute;"⟩
abbrev cX1_grow : ByteArray := prog_3_method_4_code
def yX1_grow : MethodName := ⟨RX1, "grow", "(J)LSoupReader$Attribute;"⟩
abbrev cX1_copyFrom : ByteArray := prog_3_method_5_code
def yX1_copyFrom : MethodName := ⟨RX1, "copyFrom", "(LSoupReader$Attributes;)V"⟩
def RX2 : String := "SoupReader$Faults"
def TX2 : u_T := fun k => match k with
  | 0 => ("SoupReader$Faults", "kinds", "[I", true)
  | 1 => ("SoupReader$Faults", "places", "[I", true)
  | _ => ("SoupReader$Faults", "count", "I", false)
def tyX2 : Nat → FieldType := fun k => match k with
  | 0 => .array .int
  | 1 => .array .int
  | _ => .int
abbrev wsX20 : List Cond := u_ws RX2 TX2 3
theorem nmX2 : ∀ a, a < 3 → ∀ b, b < 3 → a ≠ b → (TX2 a).2.1 ≠ (TX2 b).2.1 := by decide +kernel
theorem tyX2_ok : ∀ k, k < 3 → parseFieldDescriptor (TX2 k).2.2.1 = some (tyX2 k) := by decide +kernel
abbrev cX2_init : ByteArray := prog_4_method_1_code
def yX2_init : MethodName := ⟨RX2, "<init>", "()V"⟩
abbrev cX2_tell : ByteArray := prog_4_method_2_code
def yX2_tell : MethodName := ⟨RX2, "tell", "(II)V"⟩
abbrev cX2_kindOf : ByteArray := prog_4_method_3_code
def yX2_kindOf : MethodName := ⟨RX2, "kindOf", "(I)I"⟩
abbrev cX2_placeOf : ByteArray := prog_4_method_4_code
def yX2_placeOf : MethodName := ⟨RX2, "placeOf", "(I)I"⟩
abbrev cX2_isKept : ByteArray := prog_4_method_5_code
def yX2_isKept : MethodName := ⟨RX2, "isKept", "(I)Z"⟩
def RX3 : String := "SoupReader$Node"
def TX3 : u_T := fun k => match k with
  | 0 => ("SoupReader$Node", "number", "I", true)
  | 1 => ("SoupReader$Node", "attributes", "LSoupReader$Attributes;", true)
  | 2 => ("SoupReader$Node", "used", "Z", false)
  | 3 => ("SoupReader$Node", "tag", "I", false)
  | 4 => ("SoupReader$Node", "tagName", "J", false)
  | 5 => ("SoupReader$Node", "depth", "I", false)
  | 6 => ("SoupReader$Node", "up", "LSoupReader$Node;", false)
  | 7 => ("SoupReader$Node", "before", "LSoupReader$Node;", false)
  | 8 => ("SoupReader$Node", "next", "LSoupReader$Node;", false)
  | 9 => ("SoupReader$Node", "first", "LSoupReader$Node;", false)
  | 10 => ("SoupReader$Node", "last", "LSoupReader$Node;", false)
  | 11 => ("SoupReader$Node", "bytes", "[B", false)
  | 12 => ("SoupReader$Node", "length", "I", false)
  | _ => ("SoupReader$Node", "toldTooLong", "Z", false)
def tyX3 : Nat → FieldType := fun k => match k with
  | 0 => .int
  | 1 => .object "SoupReader$Attributes"
  | 2 => .boolean
  | 3 => .int
  | 4 => .long
  | 5 => .int
  | 6 => .object "SoupReader$Node"
  | 7 => .object "SoupReader$Node"
  | 8 => .object "SoupReader$Node"
  | 9 => .object "SoupReader$Node"
  | 10 => .object "SoupReader$Node"
  | 11 => .array .byte
  | 12 => .int
  | _ => .boolean
abbrev wsX30 : List Cond := u_ws RX3 TX3 14
theorem nmX3 : ∀ a, a < 14 → ∀ b, b < 14 → a ≠ b → (TX3 a).2.1 ≠ (TX3 b).2.1 := by decide +kernel
theorem tyX3_ok : ∀ k, k < 14 → parseFieldDescriptor (TX3 k).2.2.1 = some (tyX3 k) := by decide +kernel
abbrev cX3_init : ByteArray := prog_5_method_1_code
def yX3_init : MethodName := ⟨RX3, "<init>", "(I)V"⟩
abbrev cX3_begin : ByteArray := prog_5_method_2_code
def yX3_begin : MethodName := ⟨RX3, "begin", "(IJ)V"⟩
abbrev cX3_putByte : ByteArray := prog_5_method_3_code
def yX3_putByte : MethodName := ⟨RX3, "putByte", "(I)Z"⟩
abbrev cX3_takeBytes : ByteArray := prog_5_method_4_code
def yX3_takeBytes : MethodName := ⟨RX3, "takeBytes", "([BI)V"⟩
abbrev cX3_linkLast : ByteArray := prog_5_method_5_code
def yX3_linkLast : MethodName := ⟨RX3, "linkLast", "(LSoupReader$Node;)V"⟩
abbrev cX3_unlink : ByteArray := prog_5_method_6_code
def yX3_unlink : MethodName := ⟨RX3, "unlink", "()V"⟩
abbrev cX3_kidCount : ByteArray := prog_5_method_7_code
def yX3_kidCount : MethodName := ⟨RX3, "kidCount", "()I"⟩
abbrev cX3_rank : ByteArray := prog_5_method_8_code
def yX3_rank : MethodName := ⟨RX3, "rank", "()I"⟩
abbrev cX3_nextInTree : ByteArray := prog_5_method_9_code
def yX3_nextInTree : MethodName := ⟨RX3, "nextInTree", "()LSoupReader$Node;"⟩
def RX4 : String := "SoupReader$Out"
def TX4 : u_T := fun k => match k with
  | 0 => ("SoupReader$Out", "bytes", "[B", true)
  | _ => ("SoupReader$Out", "length", "I", false)
def tyX4 : Nat → FieldType := fun k => match k with
  | 0 => .array .byte
  | _ => .int
abbrev wsX40 : List Cond := u_ws RX4 TX4 2
theorem nmX4 : ∀ a, a < 2 → ∀ b, b < 2 → a ≠ b → (TX4 a).2.1 ≠ (TX4 b).2.1 := by decide +kernel
theorem tyX4_ok : ∀ k, k < 2 → parseFieldDescriptor (TX4 k).2.2.1 = some (tyX4 k) := by decide +kernel
abbrev cX4_init : ByteArray := prog_6_method_1_code
def yX4_init : MethodName := ⟨RX4, "<init>", "()V"⟩
abbrev cX4_byteAt : ByteArray := prog_6_method_2_code
def yX4_byteAt : MethodName := ⟨RX4, "byteAt", "(I)I"⟩
abbrev cX4_put : ByteArray := prog_6_method_3_code
def yX4_put : MethodName := ⟨RX4, "put", "(I)V"⟩
abbrev cX4_putWord : ByteArray := prog_6_method_4_code
def yX4_putWord : MethodName := ⟨RX4, "putWord", "(Ljava/lang/String;)V"⟩
abbrev cX4_putName : ByteArray := prog_6_method_5_code
def yX4_putName : MethodName := ⟨RX4, "putName", "(J)V"⟩
abbrev cX4_putBytes : ByteArray := prog_6_method_6_code
def yX4_putBytes : MethodName := ⟨RX4, "putBytes", "([BI)V"⟩
abbrev cX4_putEscaped : ByteArray := prog_6_method_7_code
def yX4_putEscaped : MethodName := ⟨RX4, "putEscaped", "([BI)V"⟩
def RX5 : String := "SoupReader$PageReader"
def TX5 : u_T := fun k => match k with
  | 0 => ("SoupReader$PageReader", "page", "LSoupReader$Tape;", true)
  | 1 => ("SoupReader$PageReader", "tree", "LSoupReader$Tree;", true)
  | 2 => ("SoupReader$PageReader", "faults", "LSoupReader$Faults;", true)
  | 3 => ("SoupReader$PageReader", "seen", "LSoupReader$Attributes;", true)
  | 4 => ("SoupReader$PageReader", "open", "[LSoupReader$Node;", true)
  | 5 => ("SoupReader$PageReader", "places", "[I", true)
  | 6 => ("SoupReader$PageReader", "openCount", "I", false)
  | _ => ("SoupReader$PageReader", "at", "I", false)
def tyX5 : Nat → FieldType := fun k => match k with
  | 0 => .object "SoupReader$Tape"
  | 1 => .object "SoupReader$Tree"
  | 2 => .object "SoupReader$Faults"
  | 3 => .object "SoupReader$Attributes"
  | 4 => .array (.object "SoupReader$Node")
  | 5 => .array .int
  | 6 => .int
  | _ => .int
abbrev wsX50 : List Cond := u_ws RX5 TX5 8
theorem nmX5 : ∀ a, a < 8 → ∀ b, b < 8 → a ≠ b → (TX5 a).2.1 ≠ (TX5 b).2.1 := by decide +kernel
theorem tyX5_ok : ∀ k, k < 8 → parseFieldDescriptor (TX5 k).2.2.1 = some (tyX5 k) := by decide +kernel
abbrev cX5_init : ByteArray := prog_7_method_1_code
def yX5_init : MethodName := ⟨RX5, "<init>", "(LSoupReader$Tape;LSoupReader$Tree;LSoupReader$Faults;)V"⟩
abbrev cX5_readAll : ByteArray := prog_7_method_2_code
def yX5_readAll : MethodName := ⟨RX5, "readAll", "()V"⟩
abbrev cX5_skipRun : ByteArray := prog_7_method_3_code
def yX5_skipRun : MethodName := ⟨RX5, "skipRun", "(Z)V"⟩
abbrev cX5_endsRun : ByteArray := prog_7_method_4_code
def yX5_endsRun : MethodName := ⟨RX5, "endsRun", "(IZ)Z"⟩
abbrev cX5_startsTag : ByteArray := prog_7_method_5_code
def yX5_startsTag : MethodName := ⟨RX5, "startsTag", "(I)Z"⟩
abbrev cX5_takeRun : ByteArray := prog_7_method_6_code
def yX5_takeRun : MethodName := ⟨RX5, "takeRun", "(IIZ)V"⟩
abbrev cX5_textFor : ByteArray := prog_7_method_7_code
def yX5_textFor : MethodName := ⟨RX5, "textFor", "(II)LSoupReader$Node;"⟩
abbrev cX5_isAllBlank : ByteArray := prog_7_method_8_code
def yX5_isAllBlank : MethodName := ⟨RX5, "isAllBlank", "(II)Z"⟩
abbrev cX5_tellTooLong : ByteArray := prog_7_method_9_code
def yX5_tellTooLong : MethodName := ⟨RX5, "tellTooLong", "(LSoupReader$Node;I)V"⟩
abbrev cX5_readComment : ByteArray := prog_7_method_10_code
def yX5_readComment : MethodName := ⟨RX5, "readComment", "()V"⟩
abbrev cX5_readTag : ByteArray := prog_7_method_11_code
def yX5_readTag : MethodName := ⟨RX5, "readTag", "()V"⟩
abbrev cX5_readTagName : ByteArray := prog_7_method_12_code
def yX5_readTagName : MethodName := ⟨RX5, "readTagName", "()J"⟩
abbrev cX5_partsAttributes : ByteArray := prog_7_method_13_code
def yX5_partsAttributes : MethodName := ⟨RX5, "partsAttributes", "(I)Z"⟩
abbrev cX5_readAttribute : ByteArray := prog_7_method_14_code
def yX5_readAttribute : MethodName := ⟨RX5, "readAttribute", "(Z)V"⟩
abbrev cX5_takeAttribute : ByteArray := prog_7_method_15_code
def yX5_takeAttribute : MethodName := ⟨RX5, "takeAttribute", "(JI)LSoupReader$Attribute;"⟩
abbrev cX5_readAttributeName : ByteArray := prog_7_method_16_code
def yX5_readAttributeName : MethodName := ⟨RX5, "readAttributeName", "()J"⟩
abbrev cX5_endsAttributeName : ByteArray := prog_7_method_17_code
def yX5_endsAttributeName : MethodName := ⟨RX5, "endsAttributeName", "(I)Z"⟩
abbrev cX5_readValue : ByteArray := prog_7_method_18_code
def yX5_readValue : MethodName := ⟨RX5, "readValue", "(LSoupReader$Attribute;)V"⟩
abbrev cX5_endsValue : ByteArray := prog_7_method_19_code
def yX5_endsValue : MethodName := ⟨RX5, "endsValue", "(IZI)Z"⟩
abbrev cX5_entityAt : ByteArray := prog_7_method_20_code
def yX5_entityAt : MethodName := ⟨RX5, "entityAt", "(I)I"⟩
abbrev cX5_widthOf : ByteArray := prog_7_method_21_code
def yX5_widthOf : MethodName := ⟨RX5, "widthOf", "(I)I"⟩
abbrev cX5_takeEndTag : ByteArray := prog_7_method_22_code
def yX5_takeEndTag : MethodName := ⟨RX5, "takeEndTag", "(JI)V"⟩
abbrev cX5_takeStartTag : ByteArray := prog_7_method_23_code
def yX5_takeStartTag : MethodName := ⟨RX5, "takeStartTag", "(JI)V"⟩
abbrev cX5_closeBefore : ByteArray := prog_7_method_24_code
def yX5_closeBefore : MethodName := ⟨RX5, "closeBefore", "(II)V"⟩
abbrev cX5_closeDownTo : ByteArray := prog_7_method_25_code
def yX5_closeDownTo : MethodName := ⟨RX5, "closeDownTo", "(I)V"⟩
abbrev cX5_push : ByteArray := prog_7_method_26_code
def yX5_push : MethodName := ⟨RX5, "push", "(LSoupReader$Node;I)V"⟩
abbrev cX5_innermostOf : ByteArray := prog_7_method_27_code
def yX5_innermostOf : MethodName := ⟨RX5, "innermostOf", "(I)I"⟩
abbrev cX5_innermostNamed : ByteArray := prog_7_method_28_code
def yX5_innermostNamed : MethodName := ⟨RX5, "innermostNamed", "(J)I"⟩
abbrev cX5_innermost : ByteArray := prog_7_method_29_code
def yX5_innermost : MethodName := ⟨RX5, "innermost", "()LSoupReader$Node;"⟩
abbrev cX5_tagOpenAt : ByteArray := prog_7_method_30_code
def yX5_tagOpenAt : MethodName := ⟨RX5, "tagOpenAt", "(I)I"⟩
abbrev cX5_placeOpenAt : ByteArray := prog_7_method_31_code
def yX5_placeOpenAt : MethodName := ⟨RX5, "placeOpenAt", "(I)I"⟩
abbrev cX5_openAt : ByteArray := prog_7_method_32_code
def yX5_openAt : MethodName := ⟨RX5, "openAt", "(I)LSoupReader$Node;"⟩
def RX6 : String := "SoupReader$Tape"
def TX6 : u_T := fun k => match k with
  | 0 => ("SoupReader$Tape", "bytes", "[B", true)
  | _ => ("SoupReader$Tape", "length", "I", false)
def tyX6 : Nat → FieldType := fun k => match k with
  | 0 => .array .byte
  | _ => .int
abbrev wsX60 : List Cond := u_ws RX6 TX6 2
theorem nmX6 : ∀ a, a < 2 → ∀ b, b < 2 → a ≠ b → (TX6 a).2.1 ≠ (TX6 b).2.1 := by decide +kernel
theorem tyX6_ok : ∀ k, k < 2 → parseFieldDescriptor (TX6 k).2.2.1 = some (tyX6 k) := by decide +kernel
abbrev cX6_init : ByteArray := prog_8_method_1_code
def yX6_init : MethodName := ⟨RX6, "<init>", "()V"⟩
abbrev cX6_pushInt : ByteArray := prog_8_method_2_code
def yX6_pushInt : MethodName := ⟨RX6, "pushInt", "(I)V"⟩
abbrev cX6_pushByte : ByteArray := prog_8_method_3_code
def yX6_pushByte : MethodName := ⟨RX6, "pushByte", "(I)V"⟩
abbrev cX6_byteAt : ByteArray := prog_8_method_4_code
def yX6_byteAt : MethodName := ⟨RX6, "byteAt", "(I)I"⟩
abbrev cX6_holds : ByteArray := prog_8_method_5_code
def yX6_holds : MethodName := ⟨RX6, "holds", "(Ljava/lang/String;I)Z"⟩
abbrev cX6_badPlace : ByteArray := prog_8_method_6_code
def yX6_badPlace : MethodName := ⟨RX6, "badPlace", "()I"⟩
abbrev cX6_nameLength : ByteArray := prog_8_method_7_code
def yX6_nameLength : MethodName := ⟨RX6, "nameLength", "()I"⟩
abbrev cX6_canBeInName : ByteArray := prog_8_method_8_code
def yX6_canBeInName : MethodName := ⟨RX6, "canBeInName", "(II)Z"⟩
abbrev cX6_wrongAsName : ByteArray := prog_8_method_9_code
def yX6_wrongAsName : MethodName := ⟨RX6, "wrongAsName", "()I"⟩
abbrev cX6_wrongAsSetting : ByteArray := prog_8_method_10_code
def yX6_wrongAsSetting : MethodName := ⟨RX6, "wrongAsSetting", "()I"⟩
abbrev cX6_packed : ByteArray := prog_8_method_11_code
def yX6_packed : MethodName := ⟨RX6, "packed", "(I)J"⟩
def RX7 : String := "SoupReader$Tree"
def TX7 : u_T := fun k => match k with
  | 0 => ("SoupReader$Tree", "nodes", "[LSoupReader$Node;", true)
  | 1 => ("SoupReader$Tree", "root", "LSoupReader$Node;", true)
  | _ => ("SoupReader$Tree", "count", "I", false)
def tyX7 : Nat → FieldType := fun k => match k with
  | 0 => .array (.object "SoupReader$Node")
  | 1 => .object "SoupReader$Node"
  | _ => .int
abbrev wsX70 : List Cond := u_ws RX7 TX7 3
theorem nmX7 : ∀ a, a < 3 → ∀ b, b < 3 → a ≠ b → (TX7 a).2.1 ≠ (TX7 b).2.1 := by decide +kernel
theorem tyX7_ok : ∀ k, k < 3 → parseFieldDescriptor (TX7 k).2.2.1 = some (tyX7 k) := by decide +kernel
abbrev cX7_init : ByteArray := prog_9_method_1_code
def yX7_init : MethodName := ⟨RX7, "<init>", "()V"⟩
abbrev cX7_restart : ByteArray := prog_9_method_2_code
def yX7_restart : MethodName := ⟨RX7, "restart", "()V"⟩
abbrev cX7_nodeAt : ByteArray := prog_9_method_3_code
def yX7_nodeAt : MethodName := ⟨RX7, "nodeAt", "(I)LSoupReader$Node;"⟩
abbrev cX7_elementAt : ByteArray := prog_9_method_4_code
def yX7_elementAt : MethodName := ⟨RX7, "elementAt", "(I)LSoupReader$Node;"⟩
abbrev cX7_grow : ByteArray := prog_9_method_5_code
def yX7_grow : MethodName := ⟨RX7, "grow", "(LSoupReader$Node;IJ)LSoupReader$Node;"⟩
abbrev cX7_leastFree : ByteArray := prog_9_method_6_code
def yX7_leastFree : MethodName := ⟨RX7, "leastFree", "()I"⟩
abbrev cX7_drop : ByteArray := prog_9_method_7_code
def yX7_drop : MethodName := ⟨RX7, "drop", "(LSoupReader$Node;)V"⟩
abbrev cX7_dropAllIn : ByteArray := prog_9_method_8_code
def yX7_dropAllIn : MethodName := ⟨RX7, "dropAllIn", "(LSoupReader$Node;)V"⟩
abbrev cX7_release : ByteArray := prog_9_method_9_code
def yX7_release : MethodName := ⟨RX7, "release", "(LSoupReader$Node;I)V"⟩
def RX8 : String := "SoupReader"
def TX8 : u_T := fun k => match k with
  | 0 => ("SoupReader", "tape", "LSoupReader$Tape;", true)
  | 1 => ("SoupReader", "written", "LSoupReader$Out;", true)
  | 2 => ("SoupReader", "told", "LSoupReader$Faults;", true)
  | 3 => ("SoupReader", "tree", "LSoupReader$Tree;", true)
  | _ => ("SoupReader", "reader", "LSoupReader$PageReader;", true)
def tyX8 : Nat → FieldType := fun k => match k with
  | 0 => .object "SoupReader$Tape"
  | 1 => .object "SoupReader$Out"
  | 2 => .object "SoupReader$Faults"
  | 3 => .object "SoupReader$Tree"
  | _ => .object "SoupReader$PageReader"
abbrev wsX80 : List Cond := u_ws RX8 TX8 5
theorem nmX8 : ∀ a, a < 5 → ∀ b, b < 5 → a ≠ b → (TX8 a).2.1 ≠ (TX8 b).2.1 := by decide +kernel
theorem tyX8_ok : ∀ k, k < 5 → parseFieldDescriptor (TX8 k).2.2.1 = some (tyX8 k) := by decide +kernel
abbrev cX8_init : ByteArray := prog_1_method_1_code
def yX8_init : MethodName := ⟨RX8, "<init>", "()V"⟩
abbrev cX8_feed : ByteArray := prog_1_method_2_code
def yX8_feed : MethodName := ⟨RX8, "feed", "(IIIII)I"⟩
abbrev cX8_end : ByteArray := prog_1_method_3_code
def yX8_end : MethodName := ⟨RX8, "end", "(I)I"⟩
abbrev cX8_out : ByteArray := prog_1_method_4_code
def yX8_out : MethodName := ⟨RX8, "out", "(I)I"⟩
abbrev cX8_page : ByteArray := prog_1_method_5_code
def yX8_page : MethodName := ⟨RX8, "page", "()I"⟩
abbrev cX8_node : ByteArray := prog_1_method_6_code
def yX8_node : MethodName := ⟨RX8, "node", "(II)I"⟩
abbrev cX8_kid : ByteArray := prog_1_method_7_code
def yX8_kid : MethodName := ⟨RX8, "kid", "(II)I"⟩
abbrev cX8_name : ByteArray := prog_1_method_8_code
def yX8_name : MethodName := ⟨RX8, "name", "(I)I"⟩
abbrev cX8_attribute : ByteArray := prog_1_method_9_code
def yX8_attribute : MethodName := ⟨RX8, "attribute", "(I)I"⟩
abbrev cX8_serialise : ByteArray := prog_1_method_10_code
def yX8_serialise : MethodName := ⟨RX8, "serialise", "(I)I"⟩
abbrev cX8_fault : ByteArray := prog_1_method_11_code
def yX8_fault : MethodName := ⟨RX8, "fault", "(II)I"⟩
abbrev cX8_faults : ByteArray := prog_1_method_12_code
def yX8_faults : MethodName := ⟨RX8, "faults", "()I"⟩
abbrev cX8_add : ByteArray := prog_1_method_13_code
def yX8_add : MethodName := ⟨RX8, "add", "(I)I"⟩
abbrev cX8_text : ByteArray := prog_1_method_14_code
def yX8_text : MethodName := ⟨RX8, "text", "(I)I"⟩
abbrev cX8_set : ByteArray := prog_1_method_15_code
def yX8_set : MethodName := ⟨RX8, "set", "(I)I"⟩
abbrev cX8_remove : ByteArray := prog_1_method_16_code
def yX8_remove : MethodName := ⟨RX8, "remove", "(I)I"⟩
abbrev cX8_find : ByteArray := prog_1_method_17_code
def yX8_find : MethodName := ⟨RX8, "find", "(I)I"⟩
abbrev cX8_writeValue : ByteArray := prog_1_method_18_code
def yX8_writeValue : MethodName := ⟨RX8, "writeValue", "(I)I"⟩
abbrev cX8_addElement : ByteArray := prog_1_method_19_code
def yX8_addElement : MethodName := ⟨RX8, "addElement", "(I)I"⟩
abbrev cX8_replaceByText : ByteArray := prog_1_method_20_code
def yX8_replaceByText : MethodName := ⟨RX8, "replaceByText", "(I)I"⟩
abbrev cX8_setAttribute : ByteArray := prog_1_method_21_code
def yX8_setAttribute : MethodName := ⟨RX8, "setAttribute", "(I)I"⟩
abbrev cX8_findElement : ByteArray := prog_1_method_22_code
def yX8_findElement : MethodName := ⟨RX8, "findElement", "(I)I"⟩
abbrev cX8_writeNode : ByteArray := prog_1_method_23_code
def yX8_writeNode : MethodName := ⟨RX8, "writeNode", "(LSoupReader$Node;I)V"⟩
abbrev cX8_writeText : ByteArray := prog_1_method_24_code
def yX8_writeText : MethodName := ⟨RX8, "writeText", "(LSoupReader$Node;)V"⟩
abbrev cX8_writeStartTag : ByteArray := prog_1_method_25_code
def yX8_writeStartTag : MethodName := ⟨RX8, "writeStartTag", "(LSoupReader$Node;)V"⟩
abbrev cX8_isEmptyTag : ByteArray := prog_1_method_26_code
def yX8_isEmptyTag : MethodName := ⟨RX8, "isEmptyTag", "(I)Z"⟩
abbrev cX8_isBlockTag : ByteArray := prog_1_method_27_code
def yX8_isBlockTag : MethodName := ⟨RX8, "isBlockTag", "(I)Z"⟩
abbrev cX8_tagOf : ByteArray := prog_1_method_28_code
def yX8_tagOf : MethodName := ⟨RX8, "tagOf", "(J)I"⟩
abbrev cX8_longer : ByteArray := prog_1_method_29_code
def yX8_longer : MethodName := ⟨RX8, "longer", "(JI)J"⟩
abbrev cX8_isSmallLetter : ByteArray := prog_1_method_30_code
def yX8_isSmallLetter : MethodName := ⟨RX8, "isSmallLetter", "(I)Z"⟩
abbrev cX8_isDigit : ByteArray := prog_1_method_31_code
def yX8_isDigit : MethodName := ⟨RX8, "isDigit", "(I)Z"⟩
abbrev cX8_isBlank : ByteArray := prog_1_method_32_code
def yX8_isBlank : MethodName := ⟨RX8, "isBlank", "(I)Z"⟩
abbrev cX8_asSmall : ByteArray := prog_1_method_33_code
def yX8_asSmall : MethodName := ⟨RX8, "asSmall", "(I)I"⟩
def RX9 : String := "SoupReaderModel"
def TX9 : u_T := fun k => match k with
  | 0 => ("SoupReaderModel", "tape", "[B", true)
  | 1 => ("SoupReaderModel", "taped", "I", false)
  | 2 => ("SoupReaderModel", "text", "[B", true)
  | 3 => ("SoupReaderModel", "tn", "I", false)
  | 4 => ("SoupReaderModel", "out", "[B", true)
  | 5 => ("SoupReaderModel", "outSize", "I", false)
  | 6 => ("SoupReaderModel", "is", "[Z", true)
  | 7 => ("SoupReaderModel", "tag", "[I", true)
  | 8 => ("SoupReaderModel", "name", "[B", true)
  | 9 => ("SoupReaderModel", "nameSize", "[I", true)
  | 10 => ("SoupReaderModel", "parent", "[I", true)
  | 11 => ("SoupReaderModel", "firstKid", "[I", true)
  | 12 => ("SoupReaderModel", "lastKid", "[I", true)
  | 13 => ("SoupReaderModel", "next", "[I", true)
  | 14 => ("SoupReaderModel", "before", "[I", true)
  | 15 => ("SoupReaderModel", "depth", "[I", true)
  | 16 => ("SoupReaderModel", "attributes", "[I", true)
  | 17 => ("SoupReaderModel", "attributeName", "[B", true)
  | 18 => ("SoupReaderModel", "attributeNameSize", "[I", true)
  | 19 => ("SoupReaderModel", "attributeValue", "[B", true)
  | 20 => ("SoupReaderModel", "attributeSize", "[I", true)
  | 21 => ("SoupReaderModel", "bytes", "[B", true)
  | 22 => ("SoupReaderModel", "byteCount", "[I", true)
  | 23 => ("SoupReaderModel", "isLong", "[Z", true)
  | 24 => ("SoupReaderModel", "begun", "[I", true)
  | 25 => ("SoupReaderModel", "nodes", "I", false)
  | 26 => ("SoupReaderModel", "faults", "I", false)
  | 27 => ("SoupReaderModel", "faultWhat", "[I", true)
  | 28 => ("SoupReaderModel", "faultPlace", "[I", true)
  | 29 => ("SoupReaderModel", "open", "[I", true)
  | 30 => ("SoupReaderModel", "opened", "I", false)
  | 31 => ("SoupReaderModel", "source", "[B", true)
  | 32 => ("SoupReaderModel", "sourceSize", "I", false)
  | 33 => ("SoupReaderModel", "entitySize", "I", false)
  | 34 => ("SoupReaderModel", "tagName", "[B", true)
  | 35 => ("SoupReaderModel", "tagSize", "I", false)
  | 36 => ("SoupReaderModel", "many", "I", false)
  | 37 => ("SoupReaderModel", "readName", "[B", true)
  | 38 => ("SoupReaderModel", "readNameSize", "[I", true)
  | 39 => ("SoupReaderModel", "readValue", "[B", true)
  | 40 => ("SoupReaderModel", "readSize", "[I", true)
  | 41 => ("SoupReaderModel", "twice", "I", false)
  | 42 => ("SoupReaderModel", "twiceAt", "[I", true)
  | 43 => ("SoupReaderModel", "oneName", "[B", true)
  | _ => ("SoupReaderModel", "oneValue", "[B", true)
def tyX9 : Nat → FieldType := fun k => match k with
  | 0 => .array .byte
  | 1 => .int
  | 2 => .array .byte
  | 3 => .int
  | 4 => .array .byte
  | 5 => .int
  | 6 => .array .boolean
  | 7 => .array .int
  | 8 => .array .byte
  | 9 => .array .int
  | 10 => .array .int
  | 11 => .array .int
  | 12 => .array .int
  | 13 => .array .int
  | 14 => .array .int
  | 15 => .array .int
  | 16 => .array .int
  | 17 => .array .byte
  | 18 => .array .int
  | 19 => .array .byte
  | 20 => .array .int
  | 21 => .array .byte
  | 22 => .array .int
  | 23 => .array .boolean
  | 24 => .array .int
  | 25 => .int
  | 26 => .int
  | 27 => .array .int
  | 28 => .array .int
  | 29 => .array .int
  | 30 => .int
  | 31 => .array .byte
  | 32 => .int
  | 33 => .int
  | 34 => .array .byte
  | 35 => .int
  | 36 => .int
  | 37 => .array .byte
  | 38 => .array .int
  | 39 => .array .byte
  | 40 => .array .int
  | 41 => .int
  | 42 => .array .int
  | 43 => .array .byte
  | _ => .array .byte
abbrev wsX90 : List Cond := u_ws RX9 TX9 45
theorem nmX9 : ∀ a, a < 45 → ∀ b, b < 45 → a ≠ b → (TX9 a).2.1 ≠ (TX9 b).2.1 := by decide +kernel
theorem tyX9_ok : ∀ k, k < 45 → parseFieldDescriptor (TX9 k).2.2.1 = some (tyX9 k) := by decide +kernel
abbrev cX9_say : ByteArray := prog_11_method_1_code
def yX9_say : MethodName := ⟨RX9, "say", "(I)V"⟩
abbrev cX9_sayAll : ByteArray := prog_11_method_2_code
def yX9_sayAll : MethodName := ⟨RX9, "sayAll", "([BII)V"⟩
abbrev cX9_take : ByteArray := prog_11_method_3_code
def yX9_take : MethodName := ⟨RX9, "take", "()I"⟩
abbrev cX9_wrong : ByteArray := prog_11_method_4_code
def yX9_wrong : MethodName := ⟨RX9, "wrong", "(I)I"⟩
abbrev cX9_isSmall : ByteArray := prog_11_method_5_code
def yX9_isSmall : MethodName := ⟨RX9, "isSmall", "(I)Z"⟩
abbrev cX9_isDigit : ByteArray := prog_11_method_6_code
def yX9_isDigit : MethodName := ⟨RX9, "isDigit", "(I)Z"⟩
abbrev cX9_isLetter : ByteArray := prog_11_method_7_code
def yX9_isLetter : MethodName := ⟨RX9, "isLetter", "(I)Z"⟩
abbrev cX9_small : ByteArray := prog_11_method_8_code
def yX9_small : MethodName := ⟨RX9, "small", "(I)I"⟩
abbrev cX9_isBlank : ByteArray := prog_11_method_9_code
def yX9_isBlank : MethodName := ⟨RX9, "isBlank", "(I)Z"⟩
abbrev cX9_same : ByteArray := prog_11_method_10_code
def yX9_same : MethodName := ⟨RX9, "same", "([BI[BII)Z"⟩
abbrev cX9_isWord : ByteArray := prog_11_method_11_code
def yX9_isWord : MethodName := ⟨RX9, "isWord", "([BIIJ)Z"⟩
abbrev cX9_lengthOf : ByteArray := prog_11_method_12_code
def yX9_lengthOf : MethodName := ⟨RX9, "lengthOf", "(J)I"⟩
abbrev cX9_isEmptyTag : ByteArray := prog_11_method_13_code
def yX9_isEmptyTag : MethodName := ⟨RX9, "isEmptyTag", "(I)Z"⟩
abbrev cX9_isBlockTag : ByteArray := prog_11_method_14_code
def yX9_isBlockTag : MethodName := ⟨RX9, "isBlockTag", "(I)Z"⟩
abbrev cX9_tagOf : ByteArray := prog_11_method_15_code
def yX9_tagOf : MethodName := ⟨RX9, "tagOf", "([BII)I"⟩
abbrev cX9_tagWord : ByteArray := prog_11_method_16_code
def yX9_tagWord : MethodName := ⟨RX9, "tagWord", "(I)J"⟩
abbrev cX9_emptyTree : ByteArray := prog_11_method_17_code
def yX9_emptyTree : MethodName := ⟨RX9, "emptyTree", "()V"⟩
abbrev cX9_fresh : ByteArray := prog_11_method_18_code
def yX9_fresh : MethodName := ⟨RX9, "fresh", "(I)I"⟩
abbrev cX9_after : ByteArray := prog_11_method_19_code
def yX9_after : MethodName := ⟨RX9, "after", "(II)I"⟩
abbrev cX9_behind : ByteArray := prog_11_method_20_code
def yX9_behind : MethodName := ⟨RX9, "behind", "(II)I"⟩
abbrev cX9_remove0 : ByteArray := prog_11_method_21_code
def yX9_remove0 : MethodName := ⟨RX9, "remove0", "(I)V"⟩
abbrev cX9_tellFault : ByteArray := prog_11_method_22_code
def yX9_tellFault : MethodName := ⟨RX9, "tellFault", "(II)V"⟩
abbrev cX9_isAt : ByteArray := prog_11_method_23_code
def yX9_isAt : MethodName := ⟨RX9, "isAt", "(IIII)Z"⟩
abbrev cX9_isNote : ByteArray := prog_11_method_24_code
def yX9_isNote : MethodName := ⟨RX9, "isNote", "(I)Z"⟩
abbrev cX9_isTag : ByteArray := prog_11_method_25_code
def yX9_isTag : MethodName := ⟨RX9, "isTag", "(I)Z"⟩
abbrev cX9_endsStyle : ByteArray := prog_11_method_26_code
def yX9_endsStyle : MethodName := ⟨RX9, "endsStyle", "(I)Z"⟩
abbrev cX9_readPage : ByteArray := prog_11_method_27_code
def yX9_readPage : MethodName := ⟨RX9, "readPage", "()V"⟩
abbrev cX9_note : ByteArray := prog_11_method_28_code
def yX9_note : MethodName := ⟨RX9, "note", "(I)I"⟩
abbrev cX9_entity : ByteArray := prog_11_method_29_code
def yX9_entity : MethodName := ⟨RX9, "entity", "([BII)I"⟩
abbrev cX9_run : ByteArray := prog_11_method_30_code
def yX9_run : MethodName := ⟨RX9, "run", "(IZ)I"⟩
abbrev cX9_readTag : ByteArray := prog_11_method_31_code
def yX9_readTag : MethodName := ⟨RX9, "readTag", "(I)I"⟩
abbrev cX9_readAttribute : ByteArray := prog_11_method_32_code
def yX9_readAttribute : MethodName := ⟨RX9, "readAttribute", "(I)I"⟩
abbrev cX9_closeTo : ByteArray := prog_11_method_33_code
def yX9_closeTo : MethodName := ⟨RX9, "closeTo", "(III)V"⟩
abbrev cX9_endTag : ByteArray := prog_11_method_34_code
def yX9_endTag : MethodName := ⟨RX9, "endTag", "(II)V"⟩
abbrev cX9_startTag : ByteArray := prog_11_method_35_code
def yX9_startTag : MethodName := ⟨RX9, "startTag", "(II)V"⟩
abbrev cX9_element : ByteArray := prog_11_method_36_code
def yX9_element : MethodName := ⟨RX9, "element", "(II)V"⟩
abbrev cX9_sayEscaped : ByteArray := prog_11_method_37_code
def yX9_sayEscaped : MethodName := ⟨RX9, "sayEscaped", "([BIIZ)V"⟩
abbrev cX9_sayBegin : ByteArray := prog_11_method_38_code
def yX9_sayBegin : MethodName := ⟨RX9, "sayBegin", "(I)V"⟩
abbrev cX9_sayEnd : ByteArray := prog_11_method_39_code
def yX9_sayEnd : MethodName := ⟨RX9, "sayEnd", "(I)V"⟩
abbrev cX9_serialise : ByteArray := prog_11_method_40_code
def yX9_serialise : MethodName := ⟨RX9, "serialise", "(I)I"⟩
abbrev cX9_there : ByteArray := prog_11_method_41_code
def yX9_there : MethodName := ⟨RX9, "there", "(I)Z"⟩
abbrev cX9_node : ByteArray := prog_11_method_42_code
def yX9_node : MethodName := ⟨RX9, "node", "(II)I"⟩
abbrev cX9_kid : ByteArray := prog_11_method_43_code
def yX9_kid : MethodName := ⟨RX9, "kid", "(II)I"⟩
abbrev cX9_name : ByteArray := prog_11_method_44_code
def yX9_name : MethodName := ⟨RX9, "name", "(I)I"⟩
abbrev cX9_init : ByteArray := prog_11_method_45_code
def yX9_init : MethodName := ⟨RX9, "<init>", "()V"⟩
abbrev cX9_putFour : ByteArray := prog_11_method_46_code
def yX9_putFour : MethodName := ⟨RX9, "putFour", "(I)V"⟩
abbrev cX9_feed : ByteArray := prog_11_method_47_code
def yX9_feed : MethodName := ⟨RX9, "feed", "(IIIII)I"⟩
abbrev cX9_end : ByteArray := prog_11_method_48_code
def yX9_end : MethodName := ⟨RX9, "end", "(I)I"⟩
abbrev cX9_out : ByteArray := prog_11_method_49_code
def yX9_out : MethodName := ⟨RX9, "out", "(I)I"⟩
abbrev cX9_page : ByteArray := prog_11_method_50_code
def yX9_page : MethodName := ⟨RX9, "page", "()I"⟩
abbrev cX9_wrongName : ByteArray := prog_11_method_51_code
def yX9_wrongName : MethodName := ⟨RX9, "wrongName", "(I)I"⟩
abbrev cX9_takeName : ByteArray := prog_11_method_52_code
def yX9_takeName : MethodName := ⟨RX9, "takeName", "()I"⟩
abbrev cX9_isElement : ByteArray := prog_11_method_53_code
def yX9_isElement : MethodName := ⟨RX9, "isElement", "(I)Z"⟩
abbrev cX9_attributeNamed : ByteArray := prog_11_method_54_code
def yX9_attributeNamed : MethodName := ⟨RX9, "attributeNamed", "(II)I"⟩
abbrev cX9_attribute : ByteArray := prog_11_method_55_code
def yX9_attribute : MethodName := ⟨RX9, "attribute", "(I)I"⟩
abbrev cX9_fault : ByteArray := prog_11_method_56_code
def yX9_fault : MethodName := ⟨RX9, "fault", "(II)I"⟩
abbrev cX9_faults : ByteArray := prog_11_method_57_code
def yX9_faults : MethodName := ⟨RX9, "faults", "()I"⟩
abbrev cX9_add : ByteArray := prog_11_method_58_code
def yX9_add : MethodName := ⟨RX9, "add", "(I)I"⟩
abbrev cX9_text : ByteArray := prog_11_method_59_code
def yX9_text : MethodName := ⟨RX9, "text", "(I)I"⟩
abbrev cX9_set : ByteArray := prog_11_method_60_code
def yX9_set : MethodName := ⟨RX9, "set", "(I)I"⟩
abbrev cX9_remove : ByteArray := prog_11_method_61_code
def yX9_remove : MethodName := ⟨RX9, "remove", "(I)I"⟩
abbrev cX9_find : ByteArray := prog_11_method_62_code
def yX9_find : MethodName := ⟨RX9, "find", "(I)I"⟩
abbrev cX9_less : ByteArray := prog_11_method_63_code
def yX9_less : MethodName := ⟨RX9, "less", "(II)I"⟩
def RJ0 : String := "java/lang/String"
def TJ0 : u_T := fun k => match k with
  | _ => ("", "", "", false)
def tyJ0 : Nat → FieldType := fun k => match k with
  | _ => .int
abbrev wsJ00 : List Cond := u_ws RJ0 TJ0 0
theorem nmJ0 : ∀ a, a < 0 → ∀ b, b < 0 → a ≠ b → (TJ0 a).2.1 ≠ (TJ0 b).2.1 := by decide +kernel
theorem tyJ0_ok : ∀ k, k < 0 → parseFieldDescriptor (TJ0 k).2.2.1 = some (tyJ0 k) := by decide +kernel
abbrev cJ0_length_8abf5 : ByteArray := prog_12_method_54_code
def yJ0_length_8abf5 : MethodName := ⟨RJ0, "length", "()I"⟩
abbrev cJ0_charAt_5068e : ByteArray := prog_12_method_56_code
def yJ0_charAt_5068e : MethodName := ⟨RJ0, "charAt", "(I)C"⟩
abbrev cJ0_coder_7d493 : ByteArray := prog_12_method_152_code
def yJ0_coder_7d493 : MethodName := ⟨RJ0, "coder", "()B"⟩
abbrev cJ0_isLatin1_aae02 : ByteArray := prog_12_method_154_code
def yJ0_isLatin1_aae02 : MethodName := ⟨RJ0, "isLatin1", "()Z"⟩
abbrev cJ0_checkIndex_df160 : ByteArray := prog_12_method_155_code
def yJ0_checkIndex_df160 : MethodName := ⟨RJ0, "checkIndex", "(II)V"⟩
def RJ1 : String := "java/lang/StringLatin1"
def TJ1 : u_T := fun k => match k with
  | _ => ("", "", "", false)
def tyJ1 : Nat → FieldType := fun k => match k with
  | _ => .int
abbrev wsJ10 : List Cond := u_ws RJ1 TJ1 0
theorem nmJ1 : ∀ a, a < 0 → ∀ b, b < 0 → a ≠ b → (TJ1 a).2.1 ≠ (TJ1 b).2.1 := by decide +kernel
theorem tyJ1_ok : ∀ k, k < 0 → parseFieldDescriptor (TJ1 k).2.2.1 = some (tyJ1 k) := by decide +kernel
abbrev cJ1_charAt_3b067 : ByteArray := prog_13_method_2_code
def yJ1_charAt_3b067 : MethodName := ⟨RJ1, "charAt", "([BI)C"⟩
def RJ2 : String := "java/lang/StringUTF16"
def TJ2 : u_T := fun k => match k with
  | _ => ("", "", "", false)
def tyJ2 : Nat → FieldType := fun k => match k with
  | _ => .int
abbrev wsJ20 : List Cond := u_ws RJ2 TJ2 0
theorem nmJ2 : ∀ a, a < 0 → ∀ b, b < 0 → a ≠ b → (TJ2 a).2.1 ≠ (TJ2 b).2.1 := by decide +kernel
theorem tyJ2_ok : ∀ k, k < 0 → parseFieldDescriptor (TJ2 k).2.2.1 = some (tyJ2 k) := by decide +kernel
abbrev cJ2_getChar_3b067 : ByteArray := prog_14_method_5_code
def yJ2_getChar_3b067 : MethodName := ⟨RJ2, "getChar", "([BI)C"⟩
abbrev cJ2_length_9d52b : ByteArray := prog_14_method_6_code
def yJ2_length_9d52b : MethodName := ⟨RJ2, "length", "([B)I"⟩
abbrev cJ2_charAt_3b067 : ByteArray := prog_14_method_83_code
def yJ2_charAt_3b067 : MethodName := ⟨RJ2, "charAt", "([BI)C"⟩
abbrev cJ2_checkIndex_2214a : ByteArray := prog_14_method_91_code
def yJ2_checkIndex_2214a : MethodName := ⟨RJ2, "checkIndex", "(I[B)V"⟩
def RJ3 : String := "jdk/internal/util/Preconditions"
def TJ3 : u_T := fun k => match k with
  | _ => ("", "", "", false)
def tyJ3 : Nat → FieldType := fun k => match k with
  | _ => .int
abbrev wsJ30 : List Cond := u_ws RJ3 TJ3 0
theorem nmJ3 : ∀ a, a < 0 → ∀ b, b < 0 → a ≠ b → (TJ3 a).2.1 ≠ (TJ3 b).2.1 := by decide +kernel
theorem tyJ3_ok : ∀ k, k < 0 → parseFieldDescriptor (TJ3 k).2.2.1 = some (tyJ3 k) := by decide +kernel
abbrev cJ3_checkIndex_8e157 : ByteArray := prog_15_method_11_code
def yJ3_checkIndex_8e157 : MethodName := ⟨RJ3, "checkIndex", "(IILjava/util/function/BiFunction;)I"⟩
def RL : String := "SoupReaderLaw"
abbrev cL_law : ByteArray := code
def yL_law : MethodName := ⟨RL, "law", "([I)Z"⟩
/-! ===== END ===== -/
end
section
/-! THE CORE. An abstract heap (a map a kind of field, and of array places), its picture in the machine's heap, and a judgement T over it: 'the frame at pc goes on, and the method ends as F says'. -/
abbrev AH : Type := (Nat → Nat → Int32) × (Nat → Nat → Int64) × (Nat → Nat → Option Nat) × (Nat → Nat → Int32) × (Nat → Nat → Option Nat) × (Nat → Nat × Nat) × Nat × Nat
def gI (h : AH) : Nat → Nat → Int32 := h.1
def gL (h : AH) : Nat → Nat → Int64 := h.2.1
def gR (h : AH) : Nat → Nat → Option Nat := h.2.2.1
def gA (h : AH) : Nat → Nat → Int32 := h.2.2.2.1
def gQ (h : AH) : Nat → Nat → Option Nat := h.2.2.2.2.1
def gK (h : AH) : Nat → Nat × Nat := h.2.2.2.2.2.1
def gN (h : AH) : Nat := h.2.2.2.2.2.2.1
def gS (h : AH) : Nat := h.2.2.2.2.2.2.2
def u2 {α : Type} (f : Nat → Nat → α) (i j : Nat) (v : α) : Nat → Nat → α := fun x y => if x = i ∧ y = j then v else f x y
def pI (h : AH) (f a : Nat) (v : Int32) : AH := (u2 h.1 f a v, h.2)
def pL (h : AH) (f a : Nat) (v : Int64) : AH := (h.1, u2 h.2.1 f a v, h.2.2)
def pR (h : AH) (f a : Nat) (v : Option Nat) : AH := (h.1, h.2.1, u2 h.2.2.1 f a v, h.2.2.2)
def pA (h : AH) (a i : Nat) (v : Int32) : AH := (h.1, h.2.1, h.2.2.1, u2 h.2.2.2.1 a i v, h.2.2.2.2)
def pQ (h : AH) (a i : Nat) (v : Option Nat) : AH := (h.1, h.2.1, h.2.2.1, h.2.2.2.1, u2 h.2.2.2.2.1 a i v, h.2.2.2.2.2)
/-- a new cell, of a kind, with n slots, all of them 0 or null -/
def mkC (h : AH) (k : Nat × Nat) (n : Nat) : AH := (fun f a => if a = gN h then 0 else gI h f a, fun f a => if a = gN h then 0 else gL h f a, fun f a => if a = gN h then none else gR h f a, fun a i => if a = gN h then 0 else gA h a i, fun a i => if a = gN h then none else gQ h a i, fun a => if a = gN h then k else gK h a, gN h + 1, gS h + n)
theorem u2_s {α : Type} (f : Nat → Nat → α) (i j : Nat) (v : α) : u2 f i j v i j = v := if_pos ⟨rfl, rfl⟩
theorem u2_n {α : Type} (f : Nat → Nat → α) {i j x y : Nat} (v : α) (hn : ¬ (x = i ∧ y = j)) : u2 f i j v x y = f x y := if_neg hn
abbrev sr_cl : List vw_C := [(RX0, TX0, 3), (RX1, TX1, 2), (RX2, TX2, 3), (RX3, TX3, 14), (RX4, TX4, 2), (RX5, TX5, 8), (RX6, TX6, 2), (RX7, TX7, 3), (RX8, TX8, 5), (RX9, TX9, 45)]
def sr_ty (ci k : Nat) : FieldType := match ci with
  | 0 => tyX0 k
  | 1 => tyX1 k
  | 2 => tyX2 k
  | 3 => tyX3 k
  | 4 => tyX4 k
  | 5 => tyX5 k
  | 6 => tyX6 k
  | 7 => tyX7 k
  | 8 => tyX8 k
  | _ => tyX9 k
/-- what kind of value a field holds: 0 an int, 1 a long, 2 a reference -/
def sr_tk (t : FieldType) : Nat := match t with
  | .long => 1
  | .object _ => 2
  | .array _ => 2
  | _ => 0
def sr_v (h : AH) (kind f a : Nat) : Value := match kind with
  | 0 => .int (gI h f a)
  | 1 => .long (gL h f a)
  | _ => va_rf (gR h f a)
def sr_fv (h : AH) (ci k a : Nat) : Value := sr_v h (sr_tk (sr_ty ci k)) (50 * ci + k) a
def sr_aty (t : Nat) : FieldType := match t with
  | 0 => .int
  | 1 => .byte
  | 2 => .boolean
  | 3 => .object "SoupReader$Node"
  | _ => .object "SoupReader$Attribute"
def sr_ev (h : AH) (t a j : Nat) : Value := if t < 3 then .int (gA h a j) else va_rf (gQ h a j)
/-- launch, the classes' numbers and slots, the array classes, the String constants' cells and byte arrays, the first cell that is ours, the script -/
abbrev sr_G : Type := Launch × va_G × (Nat → ClassId) × (Nat → Nat) × (Nat → Nat) × Nat × Nat × Nat × (Nat → Int32)
def sr_bs (G : sr_G) : Nat := G.2.2.2.2.2.1
def sr_A (G : sr_G) : Nat → Prop := fun q => sr_bs G ≤ q
/-- the script: its cell, its length, its ints -/
def sr_X (G : sr_G) (U : State) : Prop := va_X G.2.2.2.2.2.2.1 G.2.2.2.2.2.2.2.1 G.2.2.2.2.2.2.2.2 U U.heap ∧ G.2.2.2.2.2.2.1 < sr_bs G
def sr_Rep (G : sr_G) (h : AH) (H : Heap) : Prop :=
  H.size = gN h ∧ (∀ a, (gK h a).1 ≠ 0 → sr_A G a) ∧
  (∀ (a ci : Nat) (r : vw_C), (gK h a).1 = ci + 1 → sr_cl[ci]? = some r → t_OB a (G.2.1.1 ci) r.2.2 (G.2.1.2 ci) H (fun k => sr_fv h ci k a)) ∧
  ∀ a t : Nat, (gK h a).1 = 100 + t → t < 5 → H[a]? = some (arrV (G.2.2.1 t) (gK h a).2 (fun j => sr_ev h t a j))
/-- the String constants: owner, entry, text, place -/
def sr_lits : List (String × Nat × String × Nat) := [("SoupReader", 226, "div p h1 ul li form span a b i br hr img input button style ", 0), ("SoupReader$Out", 32, "&lt;", 1), ("SoupReader$Out", 38, "&gt;", 2), ("SoupReader$Out", 40, "&amp;", 3), ("SoupReader$Out", 42, "&quot;", 4), ("SoupReader$PageReader", 220, "&lt;", 1), ("SoupReader$PageReader", 222, "&gt;", 2), ("SoupReader$PageReader", 224, "&amp;", 3), ("SoupReader$PageReader", 226, "&quot;", 4), ("SoupReader$PageReader", 78, "<!--", 5), ("SoupReader$PageReader", 164, "-->", 6), ("SoupReader$PageReader", 98, "</style", 7)]
def sr_txt : List (List Int32) := ["div p h1 ul li form span a b i br hr img input button style ", "&lt;", "&gt;", "&amp;", "&quot;", "<!--", "-->", "</style"].map (fun t => t.toList.map (fun c => Int32.ofNat c.toNat))
def sr_len : List Nat := sr_txt.map List.length
def sr_nws : List (String × Nat × MethodName × String) := [("SoupReader", 9, ⟨"SoupReader$Tape", "<init>", "()V"⟩, "SoupReader"), ("SoupReader", 18, ⟨"SoupReader$Out", "<init>", "()V"⟩, "SoupReader"), ("SoupReader", 25, ⟨"SoupReader$Faults", "<init>", "()V"⟩, "SoupReader"), ("SoupReader$Node", 11, ⟨"SoupReader$Attributes", "<init>", "()V"⟩, "SoupReader"), ("SoupReader$PageReader", 11, ⟨"SoupReader$Attributes", "<init>", "()V"⟩, "SoupReader"), ("SoupReader$PageReader", 107, ⟨"SoupReader", "asSmall", "(I)I"⟩, "SoupReader"), ("SoupReader$PageReader", 110, ⟨"SoupReader", "isSmallLetter", "(I)Z"⟩, "SoupReader"), ("SoupReader$PageReader", 152, ⟨"SoupReader", "isBlank", "(I)Z"⟩, "SoupReader"), ("SoupReader$PageReader", 184, ⟨"SoupReader", "isDigit", "(I)Z"⟩, "SoupReader"), ("SoupReader$PageReader", 187, ⟨"SoupReader", "longer", "(JI)J"⟩, "SoupReader"), ("SoupReader$Attributes", 29, ⟨"SoupReader$Attribute", "<init>", "()V"⟩, "SoupReader"), ("SoupReader$PageReader", 228, ⟨"SoupReader", "tagOf", "(J)I"⟩, "SoupReader"), ("SoupReader$PageReader", 232, ⟨"SoupReader", "isEmptyTag", "(I)Z"⟩, "SoupReader"), ("SoupReader$PageReader", 251, ⟨"SoupReader", "isBlockTag", "(I)Z"⟩, "SoupReader"), ("SoupReader$Tape", 40, ⟨"SoupReader", "isSmallLetter", "(I)Z"⟩, "SoupReader"), ("SoupReader$Tape", 44, ⟨"SoupReader", "isDigit", "(I)Z"⟩, "SoupReader"), ("SoupReader$Tape", 53, ⟨"SoupReader", "longer", "(JI)J"⟩, "SoupReader")]
def sr_J (G : sr_G) (U : State) : Prop :=
  vk_S 8 sr_len sr_txt G.2.2.2.1 G.2.2.2.2.1 (sr_A G) U U.heap ∧ (∀ q ∈ sr_lits, vk_R q.1 q.2.1 q.2.2.1 (G.2.2.2.1 q.2.2.2) U) ∧
  va_Z "java/lang/String" "COMPACT_STRINGS" "Z" (.int 1) (sr_A G) U U.heap ∧ va_Zq "jdk/internal/util/Preconditions" "SIOOBE_FORMATTER" "Ljava/util/function/BiFunction;" (sr_A G) U U.heap
def sr_K (G : sr_G) (U : State) : Prop :=
  va_K G.2.1 sr_cl [] U ∧ (∀ t, t < 5 → ArrOfT U (G.2.2.1 t) (sr_aty t) ∧ va_RA U (G.2.2.1 t) (sr_aty t)) ∧ sr_bs G ≤ U.heap.size ∧ sr_J G U ∧ (∀ q ∈ sr_nws, va_Nw (.methodLinkNest q.1 q.2.1 q.2.2.1 q.2.2.2) U) ∧ va_AO "SoupReader$Node" U ∧ va_AO "SoupReader$Attribute" U ∧ sr_X G U
theorem sr_J.go {G : sr_G} {s U : State} (h : sr_J G s) (hW : s.WarmedH U.vm) (hq : ∀ q : Nat, q < s.heap.size → ¬ sr_A G q → U.heap[q]? = s.heap[q]?) : sr_J G U := by
  obtain ⟨h1, h2, h3, h4⟩ := h
  refine ⟨(h1.moved hW.alike).kept hq, fun q hm => (h2 q hm).warm hW, (h3.moved hW.alike).kept hq, ?_⟩
  rcases h4 with h4 | ⟨t, h4⟩
  · exact Or.inl ((h4.moved hW.alike).kept hq)
  · exact Or.inr ⟨t, (h4.moved hW.alike).kept hq⟩
theorem sr_K.go {G : sr_G} {s U : State} (h : sr_K G s) (hW : s.WarmedH U.vm) (hz : s.heap.size ≤ U.heap.size) (hq : ∀ q : Nat, q < s.heap.size → ¬ sr_A G q → U.heap[q]? = s.heap[q]?) : sr_K G U := by
  obtain ⟨h1, h2, h3, h4, h5, h6, h7, h8, h9⟩ := h
  have hlt : G.2.2.2.2.2.2.1 < s.heap.size := Nat.lt_of_lt_of_le h9 h3
  exact ⟨h1.moved hW.alike, fun t ht => ⟨arrOfT_moved hW.alike (h2 t ht).1, (h2 t ht).2.moved hW.alike⟩, Nat.le_trans h3 hz, h4.go hW hq, fun q hm => (h5 q hm).warmM hW, h6.moved hW.alike, h7.moved hW.alike, (h8.moved hW.alike).kept (hq _ hlt (Nat.not_le.mpr h9)), h9⟩
theorem sr_K.same {G : sr_G} {s U : State} (h : sr_K G s) (hv : U.vm = s.vm) (hh : U.heap = s.heap) : sr_K G U := by
  have hal : s.vm.Alike U.vm := by rw [hv]; exact Vm.Alike.refl _
  have hq : ∀ q : Nat, q < s.heap.size → ¬ sr_A G q → U.heap[q]? = s.heap[q]? := fun q _ _ => by rw [hh]
  obtain ⟨h1, h2, h3, ⟨h4, h5, h6, h7⟩, h8, h9, h10, h11, h12⟩ := h
  refine ⟨h1.moved hal, fun t ht => ⟨arrOfT_moved hal (h2 t ht).1, (h2 t ht).2.moved hal⟩, by rw [hh]; exact h3, ⟨by rw [hh]; exact h4.moved hal, fun q hm => (h5 q hm).same hv, by rw [hh]; exact h6.moved hal, ?_⟩, fun q hm => (h8 q hm).same rfl hv.symm, h9.moved hal, h10.moved hal, (h11.moved hal).kept (by rw [hh]), h12⟩
  rcases h7 with h7 | ⟨t, h7⟩
  · exact Or.inl (by rw [hh]; exact h7.moved hal)
  · exact Or.inr ⟨t, by rw [hh]; exact h7.moved hal⟩
/-- the tables' words that any state later on keeps -/
def sr_tbl : List Cond := lw_tbl.filter goodWord
theorem sr_w {w : Cond} (i : Nat) (h : lw_tbl[i]? = some w) (hg : goodWord w = true) : w ∈ sr_tbl := List.mem_filter.mpr ⟨List.mem_of_getElem? h, hg⟩
theorem sr_good : GoodIn sr_tbl sr_tbl := fun w h => ⟨h, good_of_word (List.mem_filter.mp h).2⟩
/-- what holds in a frame of a method of class 'own', with the code cc -/
def sr_Cx (G : sr_G) (own : String) (cc : ByteArray) (nL : Nat) (ret : Option FieldType) (ini : Bool) (p : Program) (s : State) (m : MethodId) (args : Array Value) (meth : Method) (c : Code) : Prop :=
  p.tables.exec = Jvm.exec ∧ c.code = cc ∧ meth.sig.returnType = ret ∧ c.maxLocals = nL ∧ s.vm.findClass own = some m.cls ∧ (∀ w ∈ sr_tbl, w.before args s = true) ∧ meth.locks = false ∧ sr_K G s ∧ (ini = true → meth.name = "<init>")
/-- what a local or a stack place holds: an int, a long, or a reference -/
abbrev sr_V : Type := Int32 ⊕ Int64 ⊕ Option Nat
abbrev vI (x : Int32) : sr_V := .inl x
abbrev vL (x : Int64) : sr_V := .inr (.inl x)
abbrev vR (x : Option Nat) : sr_V := .inr (.inr x)
def sr_em (v : sr_V) : Value := match v with
  | .inl x => .int x
  | .inr (.inl x) => .long x
  | .inr (.inr r) => va_rf r
abbrev sr_el (L : List (Nat × sr_V)) : List (Nat × Value) := L.map (fun q => (q.1, sr_em q.2))
def sr_Q {X : Type} (G : sr_G) (inj : X → Option sr_V) (x : X) (h : AH) : Array Value → State → Outcome → State → Prop := fun _ st oc t => oc = .returned ((inj x).map sr_em) ∧ sr_Rep G h t.heap ∧ va_F (sr_A G) st t
/-- how a walk ends -/
abbrev sr_Z (X : Type) : Type := X → AH → List Frame → Array Value → State → Nat → Nat → State → Prop
def sr_M {X : Type} (G : sr_G) (inj : X → Option sr_V) : sr_Z X := fun x h' below args s n0 s0 => MQ below (sr_Q G inj x h') args s (gN h' - n0) (gS h' - s0) (sr_A G)
/-- THE JUDGEMENT: if F says that the method ends with x and the heap h', then from this frame it does -/
def sr_T {X : Type} (G : sr_G) (d : Nat) (own : String) (cc : ByteArray) (nL : Nat) (ret : Option FieldType) (ini : Bool) (inj : sr_Z X) (pc : Nat) (L : List (Nat × sr_V)) (st : List sr_V) (h : AH) (F : Option (X × AH)) : Prop :=
  ∀ (x : X) (h' : AH), F = some (x, h') → (gN h ≤ gN h' ∧ gS h ≤ gS h') ∧
    ∀ (p : Program) (e : Env) (R : Room) (s : State) (m : MethodId) (args : Array Value) (below : List Frame) (meth : Method) (c : Code) (n0 s0 : Nat) (H : Heap) (locs : List Loc) (ls : Array Slot),
      sr_Cx G own cc nL ret ini p s m args meth c → d ≤ R.frames → 64 * d ≤ R.locals → n0 ≤ gN h → s0 ≤ gS h → gN h' - n0 ≤ R.cells → gS h' - s0 ≤ R.slots →
      sr_Rep G h H → va_S (sr_A G) s.heap H locs → lv_has ls nL (sr_el L) →
      W p G.1 e R s m args below meth c H locs (gN h - n0) (gS h - s0) (inj x h' below args s n0 s0) (F0 m pc ls (st.map sr_em))
/-- a method, as a contract, for every F that is known to end -/
def sr_E {X : Type} (G : sr_G) (d : Nat) (y : MethodName) (cc : ByteArray) (nL : Nat) (ret : Option FieldType) (inj : X → Option sr_V) (av : List sr_V) (h : AH) (F : Option (X × AH)) : Prop :=
  ∀ (x : X) (h' : AH), F = some (x, h') → (gN h ≤ gN h' ∧ gS h ≤ gS h') ∧
    Met G.1 y (Cond.code y cc nL ret :: sr_tbl) { frames := d, cells := gN h' - gN h, slots := gS h' - gS h, locals := 64 * d } (va_Pc (av.map sr_em) (fun U => sr_Rep G h U.heap ∧ sr_K G U)) (sr_Q G inj x h') (gN h' - gN h) (gS h' - gS h) (sr_A G)
abbrev jI : Int32 → Option sr_V := fun v => some (vI v)
abbrev jL : Int64 → Option sr_V := fun v => some (vL v)
abbrev jR : Option Nat → Option sr_V := fun v => some (vR v)
abbrev jV : Unit → Option sr_V := fun _ => none
/-- the pieces that F is made of -/
def cGI {Y : Type} (h : AH) (c f : Nat) (r : Option Nat) (K : Int32 → Option Y) : Option Y := match r with
  | none => none
  | some a => if (gK h a).1 = c + 1 then K (gI h f a) else none
def cGL {Y : Type} (h : AH) (c f : Nat) (r : Option Nat) (K : Int64 → Option Y) : Option Y := match r with
  | none => none
  | some a => if (gK h a).1 = c + 1 then K (gL h f a) else none
def cGR {Y : Type} (h : AH) (c f : Nat) (r : Option Nat) (K : Option Nat → Option Y) : Option Y := match r with
  | none => none
  | some a => if (gK h a).1 = c + 1 then K (gR h f a) else none
def cPI {Y : Type} (h : AH) (c f : Nat) (r : Option Nat) (v : Int32) (K : AH → Option Y) : Option Y := match r with
  | none => none
  | some a => if (gK h a).1 = c + 1 then K (pI h f a v) else none
def cPL {Y : Type} (h : AH) (c f : Nat) (r : Option Nat) (v : Int64) (K : AH → Option Y) : Option Y := match r with
  | none => none
  | some a => if (gK h a).1 = c + 1 then K (pL h f a v) else none
def cPR {Y : Type} (h : AH) (c f : Nat) (r : Option Nat) (v : Option Nat) (K : AH → Option Y) : Option Y := match r with
  | none => none
  | some a => if (gK h a).1 = c + 1 then K (pR h f a v) else none
def cAL {Y : Type} (h : AH) (t : Nat) (r : Option Nat) (i : Int32) (K : Int32 → Option Y) : Option Y := match r with
  | none => none
  | some a => if (gK h a).1 = 100 + t ∧ 0 ≤ i.toInt ∧ i.toInt < (gK h a).2 then K (gA h a i.toNatClampNeg) else none
def cQL {Y : Type} (h : AH) (t : Nat) (r : Option Nat) (i : Int32) (K : Option Nat → Option Y) : Option Y := match r with
  | none => none
  | some a => if (gK h a).1 = 100 + t ∧ 0 ≤ i.toInt ∧ i.toInt < (gK h a).2 then K (gQ h a i.toNatClampNeg) else none
def cAS {Y : Type} (h : AH) (t : Nat) (r : Option Nat) (i v : Int32) (K : AH → Option Y) : Option Y := match r with
  | none => none
  | some a => if (gK h a).1 = 100 + t ∧ 0 ≤ i.toInt ∧ i.toInt < (gK h a).2 then K (pA h a i.toNatClampNeg (vp_nar (sr_aty t) v)) else none
def cQS {Y : Type} (h : AH) (t c : Nat) (r : Option Nat) (i : Int32) (v : Option Nat) (K : AH → Option Y) : Option Y := match r, v with
  | some a, some b => if ((gK h a).1 = 100 + t ∧ 0 ≤ i.toInt ∧ i.toInt < (gK h a).2) ∧ (gK h b).1 = c + 1 then K (pQ h a i.toNatClampNeg (some b)) else none
  | _, _ => none
def cAN {Y : Type} (h : AH) (t : Nat) (r : Option Nat) (K : Int32 → Option Y) : Option Y := match r with
  | none => none
  | some a => if (gK h a).1 = 100 + t then K (nI (gK h a).2) else none
def cNO {Y : Type} (h : AH) (c N : Nat) (K : Option Nat → AH → Option Y) : Option Y := K (some (gN h)) (mkC h (c + 1, 0) N)
def cNA {Y : Type} (h : AH) (t : Nat) (n : Int32) (K : Option Nat → AH → Option Y) : Option Y := if 0 ≤ n.toInt ∧ n.toInt < 100000 then K (some (gN h)) (mkC h (100 + t, n.toNatClampNeg) n.toNatClampNeg) else none
def cCL {X Y : Type} (x : Option (X × AH)) (K : X → AH → Option Y) : Option Y := match x with
  | none => none
  | some q => K q.1 q.2
def cZ {Y : Type} (v : Int32) (K : Option Y) : Option Y := if v = 0 ∨ v = 1 then K else none
end
section
section RULES
variable {G : sr_G} {d : Nat} {own : String} {cc : ByteArray} {nL : Nat} {ret : Option FieldType} {ini : Bool} {X : Type} {inj : sr_Z X} {pc : Nat} {L : List (Nat × sr_V)} {st : List sr_V} {h : AH} {F : Option (X × AH)}
theorem sr_T.step {pc' : Nat} {L' : List (Nat × sr_V)} {st' : List sr_V}
    (hs : ∀ (p : Program) (e : Env) (R : Room) (s : State) (m : MethodId) (args : Array Value) (below : List Frame) (meth : Method) (c : Code) (H : Heap) (locs : List Loc) (cells slots : Nat) (ls : Array Slot) (Q : State → Prop), sr_Cx G own cc nL ret ini p s m args meth c → lv_has ls nL (sr_el L) →
      (∀ ls' : Array Slot, lv_has ls' nL (sr_el L') → W p G.1 e R s m args below meth c H locs cells slots Q (F0 m pc' ls' (st'.map sr_em))) → W p G.1 e R s m args below meth c H locs cells slots Q (F0 m pc ls (st.map sr_em)))
    (k : sr_T G d own cc nL ret ini inj pc' L' st' h F) : sr_T G d own cc nL ret ini inj pc L st h F := by
  intro x h' hF
  obtain ⟨k1, k2⟩ := k x h' hF
  refine ⟨k1, ?_⟩
  intro p e R s m args below meth c n0 s0 H locs ls C h1 h2 h3 h4 h5 h6 h7 h8 h9
  exact hs p e R s m args below meth c H locs _ _ ls _ C h9 (fun ls' h9' => k2 p e R s m args below meth c n0 s0 H locs ls' C h1 h2 h3 h4 h5 h6 h7 h8 h9')
/-- two roads -/
theorem sr_T.fork {c : Prop} (hc : Decidable c) {p1 p2 : Nat} {st' : List sr_V} {F1 F2 : Option (X × AH)}
    (hs : ∀ (p : Program) (e : Env) (R : Room) (s : State) (m : MethodId) (args : Array Value) (below : List Frame) (meth : Method) (cd : Code) (H : Heap) (locs : List Loc) (cells slots : Nat) (ls : Array Slot) (Q : State → Prop), sr_Cx G own cc nL ret ini p s m args meth cd → lv_has ls nL (sr_el L) →
      (c → W p G.1 e R s m args below meth cd H locs cells slots Q (F0 m p1 ls (st'.map sr_em))) → (¬ c → W p G.1 e R s m args below meth cd H locs cells slots Q (F0 m p2 ls (st'.map sr_em))) → W p G.1 e R s m args below meth cd H locs cells slots Q (F0 m pc ls (st.map sr_em)))
    (k1 : c → sr_T G d own cc nL ret ini inj p1 L st' h F1) (k2 : ¬ c → sr_T G d own cc nL ret ini inj p2 L st' h F2) : sr_T G d own cc nL ret ini inj pc L st h (if c then F1 else F2) := by
  intro x h' hF
  by_cases hx : c
  · rw [if_pos hx] at hF
    obtain ⟨q1, q2⟩ := k1 hx x h' hF
    refine ⟨q1, ?_⟩
    intro p e R s m args below meth cd n0 s0 H locs ls C h1 h2 h3 h4 h5 h6 h7 h8 h9
    exact hs p e R s m args below meth cd H locs _ _ ls _ C h9 (fun _ => q2 p e R s m args below meth cd n0 s0 H locs ls C h1 h2 h3 h4 h5 h6 h7 h8 h9) (fun z => absurd hx z)
  · rw [if_neg hx] at hF
    obtain ⟨q1, q2⟩ := k2 hx x h' hF
    refine ⟨q1, ?_⟩
    intro p e R s m args below meth cd n0 s0 H locs ls C h1 h2 h3 h4 h5 h6 h7 h8 h9
    exact hs p e R s m args below meth cd H locs _ _ ls _ C h9 (fun z => absurd z hx) (fun _ => q2 p e R s m args below meth cd n0 s0 H locs ls C h1 h2 h3 h4 h5 h6 h7 h8 h9)
/-- fewer locals -/
theorem tq_sub {L' : List (Nat × sr_V)} (ks : List Nat) (hl : ks.filterMap (fun k => L[k]?) = L') (k : sr_T G d own cc nL ret ini inj pc L' st h F) : sr_T G d own cc nL ret ini inj pc L st h F := by
  refine sr_T.step (fun p e R s m args below meth c H locs cells slots ls Q C h9 kk => kk ls ?_) k
  refine lv_sub h9 ks ?_
  subst hl
  simp [lv_pick, List.map_filterMap, List.filterMap_map]
  try rfl
theorem tq_sub0 {L' : List (Nat × sr_V)} (ks : List Nat) (k : sr_T G d own cc nL ret ini inj pc L' st h F) (hl : ks.filterMap (fun k => L[k]?) = L') : sr_T G d own cc nL ret ini inj pc L st h F := tq_sub ks hl k
theorem tq_F {F' : Option (X × AH)} (e : F = F') (k : sr_T G d own cc nL ret ini inj pc L st h F') : sr_T G d own cc nL ret ini inj pc L st h F := e ▸ k
theorem tq_iconst {n : Int} (v : Int32) (hd : decode cc pc = .ok (.iconst n, 1)) (hv : Int32.ofInt n = v) (k : sr_T G d own cc nL ret ini inj (pc + 1) L (vI v :: st) h F) : sr_T G d own cc nL ret ini inj pc L st h F :=
  sr_T.step (fun _ _ _ _ _ _ _ _ _ _ _ _ _ ls _ C h9 kk => lv_iconst C.1 C.2.1 hd hv (kk ls h9)) k
theorem tq_bipush {n : Int} (v : Int32) (hd : decode cc pc = .ok (.bipush n, 2)) (hv : (Int8.ofInt n).toInt32 = v) (k : sr_T G d own cc nL ret ini inj (pc + 2) L (vI v :: st) h F) : sr_T G d own cc nL ret ini inj pc L st h F :=
  sr_T.step (fun _ _ _ _ _ _ _ _ _ _ _ _ _ ls _ C h9 kk => lv_bipush C.1 C.2.1 hd hv (kk ls h9)) k
theorem tq_sipush {n : Int} (v : Int32) (hd : decode cc pc = .ok (.sipush n, 3)) (hv : (Int16.ofInt n).toInt32 = v) (k : sr_T G d own cc nL ret ini inj (pc + 3) L (vI v :: st) h F) : sr_T G d own cc nL ret ini inj pc L st h F :=
  sr_T.step (fun _ _ _ _ _ _ _ _ _ _ _ _ _ ls _ C h9 kk => lv_sipush C.1 C.2.1 hd hv (kk ls h9)) k
theorem tq_lconst {n : Fin 2} (v : Int64) (hd : decode cc pc = .ok (.lconst n, 1)) (hv : Int64.ofNat (n : Nat) = v) (k : sr_T G d own cc nL ret ini inj (pc + 1) L (vL v :: st) h F) : sr_T G d own cc nL ret ini inj pc L st h F :=
  sr_T.step (fun _ _ _ _ _ _ _ _ _ _ _ _ _ ls _ C h9 kk => lv_lconst C.1 C.2.1 hd hv (kk ls h9)) k
theorem tq_ldc {index : Nat} (v : Int32) (hd : decode cc pc = .ok (.ldc index, 2)) (hw : Cond.constant own index v ∈ sr_tbl) (k : sr_T G d own cc nL ret ini inj (pc + 2) L (vI v :: st) h F) : sr_T G d own cc nL ret ini inj pc L st h F :=
  sr_T.step (fun _ _ _ _ _ _ _ _ _ _ _ _ _ ls _ C h9 kk => lv_ldc C.1 C.2.1 C.2.2.2.2.1 (C.2.2.2.2.2.1 _ hw) hd (kk ls h9)) k
theorem tq_ldc2 {index : Nat} (v : Int64) (hd : decode cc pc = .ok (.ldc2_w index, 3)) (hw : Cond.constantLong own index v ∈ sr_tbl) (k : sr_T G d own cc nL ret ini inj (pc + 3) L (vL v :: st) h F) : sr_T G d own cc nL ret ini inj pc L st h F :=
  sr_T.step (fun _ _ _ _ _ _ _ _ _ _ _ _ _ ls _ C h9 kk => lv_ldc2 C.1 C.2.1 C.2.2.2.2.1 (C.2.2.2.2.2.1 _ hw) hd (kk ls h9)) k
theorem tq_ldcS {index : Nat} {tx : String} (i : Nat) (hd : decode cc pc = .ok (.ldc index, 2)) (hw : (own, index, tx, i) ∈ sr_lits) (k : sr_T G d own cc nL ret ini inj (pc + 2) L (vR (some (G.2.2.2.1 i)) :: st) h F) : sr_T G d own cc nL ret ini inj pc L st h F :=
  sr_T.step (fun _ _ _ _ _ _ _ _ _ _ _ _ _ ls _ C h9 kk => va_ldcS C.1 C.2.1 C.2.2.2.2.1 (C.2.2.2.2.2.2.2.1.2.2.2.1.2.1 _ hw) hd (kk ls h9)) k
theorem tq_null (hd : decode cc pc = .ok (.aconst_null, 1)) (k : sr_T G d own cc nL ret ini inj (pc + 1) L (vR none :: st) h F) : sr_T G d own cc nL ret ini inj pc L st h F :=
  sr_T.step (fun _ _ _ _ _ _ _ _ _ _ _ _ _ ls _ C h9 kk => lv_null C.1 C.2.1 hd (kk ls h9)) k
theorem sr_lat {L : List (Nat × sr_V)} {ls : Array Slot} {nL : Nat} (hl : lv_has ls nL (sr_el L)) (k : Nat) {i : Nat} {v : sr_V} (hk : L[k]? = some (i, v)) : ls[i]? = some (.val (sr_em v)) := by
  refine lv_at hl k ?_
  rw [List.getElem?_map, hk]
  rfl
def sr_c2 (v : sr_V) : Bool := match v with
  | .inr (.inl _) => true
  | _ => false
theorem sr_c2_eq (v : sr_V) : ((sr_em v).category == 2) = sr_c2 v := by
  rcases v with v | v | v
  · rfl
  · rfl
  · cases v <;> rfl
theorem sr_cat1 (r : Option Nat) : (va_rf r).category = 1 := by cases r <;> rfl
theorem sr_fil1 (i : Nat) (L : List (Nat × sr_V)) : (sr_el L).filter (fun q => !(q.1 == i) && !(q.1 + 1 == i && q.2.category == 2)) = sr_el (L.filter (fun q => !(q.1 == i) && !(q.1 + 1 == i && sr_c2 q.2))) := by
  rw [sr_el, List.filter_map]
  congr 2
  funext q
  show (!(q.1 == i) && !(q.1 + 1 == i && (sr_em q.2).category == 2)) = _
  rw [sr_c2_eq]
theorem sr_fil2 (i : Nat) (L : List (Nat × sr_V)) : (sr_el L).filter (fun q => !(q.1 == i) && (!(q.1 == i + 1) && !(q.1 + 1 == i && q.2.category == 2))) = sr_el (L.filter (fun q => !(q.1 == i) && (!(q.1 == i + 1) && !(q.1 + 1 == i && sr_c2 q.2)))) := by
  rw [sr_el, List.filter_map]
  congr 2
  funext q
  show (!(q.1 == i) && (!(q.1 == i + 1) && !(q.1 + 1 == i && (sr_em q.2).category == 2))) = _
  rw [sr_c2_eq]

theorem tq_iload_n {kf : Fin 4} (i k : Nat) (hd : decode cc pc = .ok (.iload_n kf, 1)) (hi : (kf : Nat) = i) {x : Int32} (hk : L[k]? = some (i, vI x)) (kk : sr_T G d own cc nL ret ini inj (pc + 1) L (vI x :: st) h F) : sr_T G d own cc nL ret ini inj pc L st h F :=
  sr_T.step (fun _ _ _ _ _ _ _ _ _ _ _ _ _ ls _ C h9 kk => lv_iload_n C.1 C.2.1 hd hi (sr_lat h9 k hk) (kk ls h9)) kk
theorem tq_iload {i : Nat} (k : Nat) (hd : decode cc pc = .ok (.iload i, 2)) {x : Int32} (hk : L[k]? = some (i, vI x)) (kk : sr_T G d own cc nL ret ini inj (pc + 2) L (vI x :: st) h F) : sr_T G d own cc nL ret ini inj pc L st h F :=
  sr_T.step (fun _ _ _ _ _ _ _ _ _ _ _ _ _ ls _ C h9 kk => lv_iload C.1 C.2.1 hd (sr_lat h9 k hk) (kk ls h9)) kk
theorem tq_lload_n {kf : Fin 4} (i k : Nat) (hd : decode cc pc = .ok (.lload_n kf, 1)) (hi : (kf : Nat) = i) {x : Int64} (hk : L[k]? = some (i, vL x)) (kk : sr_T G d own cc nL ret ini inj (pc + 1) L (vL x :: st) h F) : sr_T G d own cc nL ret ini inj pc L st h F :=
  sr_T.step (fun _ _ _ _ _ _ _ _ _ _ _ _ _ ls _ C h9 kk => lv_lload_n C.1 C.2.1 hd hi (sr_lat h9 k hk) (kk ls h9)) kk
theorem tq_lload {i : Nat} (k : Nat) (hd : decode cc pc = .ok (.lload i, 2)) {x : Int64} (hk : L[k]? = some (i, vL x)) (kk : sr_T G d own cc nL ret ini inj (pc + 2) L (vL x :: st) h F) : sr_T G d own cc nL ret ini inj pc L st h F :=
  sr_T.step (fun _ _ _ _ _ _ _ _ _ _ _ _ _ ls _ C h9 kk => lv_lload C.1 C.2.1 hd (sr_lat h9 k hk) (kk ls h9)) kk
theorem tq_aload_n {kf : Fin 4} (i k : Nat) (hd : decode cc pc = .ok (.aload_n kf, 1)) (hi : (kf : Nat) = i) {x : Option Nat} (hk : L[k]? = some (i, vR x)) (kk : sr_T G d own cc nL ret ini inj (pc + 1) L (vR x :: st) h F) : sr_T G d own cc nL ret ini inj pc L st h F := by
  cases x with
  | none => exact sr_T.step (fun _ _ _ _ _ _ _ _ _ _ _ _ _ ls _ C h9 kk => lv_aload_nN C.1 C.2.1 hd hi (sr_lat h9 k hk) (kk ls h9)) kk
  | some a => exact sr_T.step (fun _ _ _ _ _ _ _ _ _ _ _ _ _ ls _ C h9 kk => lv_aload_n C.1 C.2.1 hd hi (sr_lat h9 k hk) (kk ls h9)) kk
theorem tq_aload {i : Nat} (k : Nat) (hd : decode cc pc = .ok (.aload i, 2)) {x : Option Nat} (hk : L[k]? = some (i, vR x)) (kk : sr_T G d own cc nL ret ini inj (pc + 2) L (vR x :: st) h F) : sr_T G d own cc nL ret ini inj pc L st h F := by
  cases x with
  | none => exact sr_T.step (fun _ _ _ _ _ _ _ _ _ _ _ _ _ ls _ C h9 kk => lv_aloadN C.1 C.2.1 hd (sr_lat h9 k hk) (kk ls h9)) kk
  | some a => exact sr_T.step (fun _ _ _ _ _ _ _ _ _ _ _ _ _ ls _ C h9 kk => lv_aload C.1 C.2.1 hd (sr_lat h9 k hk) (kk ls h9)) kk
theorem tq_istore_n {kf : Fin 4} (i : Nat) {x : Int32} {L' : List (Nat × sr_V)} (hd : decode cc pc = .ok (.istore_n kf, 1)) (hi : (kf : Nat) = i) (hn : i < nL) (hl : (i, vI x) :: L.filter (fun q => !(q.1 == i) && !(q.1 + 1 == i && sr_c2 q.2)) = L') (kk : sr_T G d own cc nL ret ini inj (pc + 1) L' st h F) : sr_T G d own cc nL ret ini inj pc L (vI x :: st) h F :=
  sr_T.step (fun _ _ _ _ _ _ _ _ _ _ _ _ _ ls _ C h9 kk => lv_istore_n C.1 C.2.1 hd hi h9 hn (lv' := sr_el L') (by rw [sr_fil1, ← hl]; rfl) (fun ls' h' => kk ls' h')) kk
theorem tq_istore {i : Nat} {x : Int32} {L' : List (Nat × sr_V)} (hd : decode cc pc = .ok (.istore i, 2)) (hn : i < nL) (hl : (i, vI x) :: L.filter (fun q => !(q.1 == i) && !(q.1 + 1 == i && sr_c2 q.2)) = L') (kk : sr_T G d own cc nL ret ini inj (pc + 2) L' st h F) : sr_T G d own cc nL ret ini inj pc L (vI x :: st) h F :=
  sr_T.step (fun _ _ _ _ _ _ _ _ _ _ _ _ _ ls _ C h9 kk => lv_istore C.1 C.2.1 hd h9 hn (lv' := sr_el L') (by rw [sr_fil1, ← hl]; rfl) (fun ls' h' => kk ls' h')) kk
theorem tq_lstore_n {kf : Fin 4} (i : Nat) {x : Int64} {L' : List (Nat × sr_V)} (hd : decode cc pc = .ok (.lstore_n kf, 1)) (hi : (kf : Nat) = i) (hn : i + 1 < nL) (hl : (i, vL x) :: L.filter (fun q => !(q.1 == i) && (!(q.1 == i + 1) && !(q.1 + 1 == i && sr_c2 q.2))) = L') (kk : sr_T G d own cc nL ret ini inj (pc + 1) L' st h F) : sr_T G d own cc nL ret ini inj pc L (vL x :: st) h F :=
  sr_T.step (fun _ _ _ _ _ _ _ _ _ _ _ _ _ ls _ C h9 kk => lv_lstore_n C.1 C.2.1 hd hi h9 hn (lv' := sr_el L') (by rw [sr_fil2, ← hl]; rfl) (fun ls' h' => kk ls' h')) kk
theorem tq_lstore {i : Nat} {x : Int64} {L' : List (Nat × sr_V)} (hd : decode cc pc = .ok (.lstore i, 2)) (hn : i + 1 < nL) (hl : (i, vL x) :: L.filter (fun q => !(q.1 == i) && (!(q.1 == i + 1) && !(q.1 + 1 == i && sr_c2 q.2))) = L') (kk : sr_T G d own cc nL ret ini inj (pc + 2) L' st h F) : sr_T G d own cc nL ret ini inj pc L (vL x :: st) h F :=
  sr_T.step (fun _ _ _ _ _ _ _ _ _ _ _ _ _ ls _ C h9 kk => lv_lstore C.1 C.2.1 hd h9 hn (lv' := sr_el L') (by rw [sr_fil2, ← hl]; rfl) (fun ls' h' => kk ls' h')) kk
theorem tq_astore_n {kf : Fin 4} (i : Nat) {x : Option Nat} {L' : List (Nat × sr_V)} (hd : decode cc pc = .ok (.astore_n kf, 1)) (hi : (kf : Nat) = i) (hn : i < nL) (hl : (i, vR x) :: L.filter (fun q => !(q.1 == i) && !(q.1 + 1 == i && sr_c2 q.2)) = L') (kk : sr_T G d own cc nL ret ini inj (pc + 1) L' st h F) : sr_T G d own cc nL ret ini inj pc L (vR x :: st) h F := by
  cases x with
  | none => exact sr_T.step (fun _ _ _ _ _ _ _ _ _ _ _ _ _ ls _ C h9 kk => lv_astore_nN C.1 C.2.1 hd hi h9 hn (lv' := sr_el L') (by rw [sr_fil1, ← hl]; rfl) (fun ls' h' => kk ls' h')) kk
  | some a => exact sr_T.step (fun _ _ _ _ _ _ _ _ _ _ _ _ _ ls _ C h9 kk => lv_astore_n C.1 C.2.1 hd hi h9 hn (lv' := sr_el L') (by rw [sr_fil1, ← hl]; rfl) (fun ls' h' => kk ls' h')) kk
theorem tq_astore {i : Nat} {x : Option Nat} {L' : List (Nat × sr_V)} (hd : decode cc pc = .ok (.astore i, 2)) (hn : i < nL) (hl : (i, vR x) :: L.filter (fun q => !(q.1 == i) && !(q.1 + 1 == i && sr_c2 q.2)) = L') (kk : sr_T G d own cc nL ret ini inj (pc + 2) L' st h F) : sr_T G d own cc nL ret ini inj pc L (vR x :: st) h F := by
  cases x with
  | none => exact sr_T.step (fun _ _ _ _ _ _ _ _ _ _ _ _ _ ls _ C h9 kk => lv_astoreN C.1 C.2.1 hd h9 hn (lv' := sr_el L') (by rw [sr_fil1, ← hl]; rfl) (fun ls' h' => kk ls' h')) kk
  | some a => exact sr_T.step (fun _ _ _ _ _ _ _ _ _ _ _ _ _ ls _ C h9 kk => lv_astore C.1 C.2.1 hd h9 hn (lv' := sr_el L') (by rw [sr_fil1, ← hl]; rfl) (fun ls' h' => kk ls' h')) kk
theorem tq_iinc {i : Nat} {n : Int} (k : Nat) {x : Int32} (w : Int32) {L' : List (Nat × sr_V)} (hd : decode cc pc = .ok (.iinc i n, 3)) (hk : L[k]? = some (i, vI x)) (hw : Int32.ofInt n = w) (hn : i < nL) (hl : (i, vI (x + w)) :: L.filter (fun q => !(q.1 == i) && !(q.1 + 1 == i && sr_c2 q.2)) = L') (kk : sr_T G d own cc nL ret ini inj (pc + 3) L' st h F) : sr_T G d own cc nL ret ini inj pc L st h F :=
  sr_T.step (fun _ _ _ _ _ _ _ _ _ _ _ _ _ ls _ C h9 kk => lv_iinc (k := k) (x := x) (v := x + w) C.1 C.2.1 hd h9 (by rw [List.getElem?_map, hk]; rfl) (by rw [hw]) hn (lv' := sr_el L') (by rw [sr_fil1, ← hl]; rfl) (fun ls' h' => kk ls' h')) kk
theorem tq_iadd {x y : Int32} (hd : decode cc pc = .ok (.iadd, 1)) (k : sr_T G d own cc nL ret ini inj (pc + 1) L (vI (x + y) :: st) h F) : sr_T G d own cc nL ret ini inj pc L (vI y :: vI x :: st) h F :=
  sr_T.step (fun _ _ _ _ _ _ _ _ _ _ _ _ _ ls _ C h9 kk => lv_iadd C.1 C.2.1 hd (kk ls h9)) k
theorem tq_isub {x y : Int32} (hd : decode cc pc = .ok (.isub, 1)) (k : sr_T G d own cc nL ret ini inj (pc + 1) L (vI (x - y) :: st) h F) : sr_T G d own cc nL ret ini inj pc L (vI y :: vI x :: st) h F :=
  sr_T.step (fun _ _ _ _ _ _ _ _ _ _ _ _ _ ls _ C h9 kk => lv_isub C.1 C.2.1 hd (kk ls h9)) k
theorem tq_imul {x y : Int32} (hd : decode cc pc = .ok (.imul, 1)) (k : sr_T G d own cc nL ret ini inj (pc + 1) L (vI (x * y) :: st) h F) : sr_T G d own cc nL ret ini inj pc L (vI y :: vI x :: st) h F :=
  sr_T.step (fun _ _ _ _ _ _ _ _ _ _ _ _ _ ls _ C h9 kk => lv_imul C.1 C.2.1 hd (kk ls h9)) k
theorem tq_iand {x y : Int32} (hd : decode cc pc = .ok (.iand, 1)) (k : sr_T G d own cc nL ret ini inj (pc + 1) L (vI (x &&& y) :: st) h F) : sr_T G d own cc nL ret ini inj pc L (vI y :: vI x :: st) h F :=
  sr_T.step (fun _ _ _ _ _ _ _ _ _ _ _ _ _ ls _ C h9 kk => lv_iand C.1 C.2.1 hd (kk ls h9)) k
theorem tq_ishr {x y : Int32} (hd : decode cc pc = .ok (.ishr, 1)) (k : sr_T G d own cc nL ret ini inj (pc + 1) L (vI (x >>> (y &&& 31)) :: st) h F) : sr_T G d own cc nL ret ini inj pc L (vI y :: vI x :: st) h F :=
  sr_T.step (fun _ _ _ _ _ _ _ _ _ _ _ _ _ ls _ C h9 kk => lv_ishr C.1 C.2.1 hd (kk ls h9)) k
theorem tq_iushr {x y : Int32} (hd : decode cc pc = .ok (.iushr, 1)) (k : sr_T G d own cc nL ret ini inj (pc + 1) L (vI ((x.toUInt32 >>> (y.toUInt32 &&& Int32.toUInt32 31)).toInt32) :: st) h F) : sr_T G d own cc nL ret ini inj pc L (vI y :: vI x :: st) h F :=
  sr_T.step (fun _ _ _ _ _ _ _ _ _ _ _ _ _ ls _ C h9 kk => lv_iushr C.1 C.2.1 hd rfl (kk ls h9)) k
theorem tq_land {x y : Int64} (hd : decode cc pc = .ok (.land, 1)) (k : sr_T G d own cc nL ret ini inj (pc + 1) L (vL (x &&& y) :: st) h F) : sr_T G d own cc nL ret ini inj pc L (vL y :: vL x :: st) h F :=
  sr_T.step (fun _ _ _ _ _ _ _ _ _ _ _ _ _ ls _ C h9 kk => lv_land C.1 C.2.1 hd (kk ls h9)) k
theorem tq_lor {x y : Int64} (hd : decode cc pc = .ok (.lor, 1)) (k : sr_T G d own cc nL ret ini inj (pc + 1) L (vL (x ||| y) :: st) h F) : sr_T G d own cc nL ret ini inj pc L (vL y :: vL x :: st) h F :=
  sr_T.step (fun _ _ _ _ _ _ _ _ _ _ _ _ _ ls _ C h9 kk => lv_lor C.1 C.2.1 hd (kk ls h9)) k
theorem tq_lushr {x : Int64} {y : Int32} (hd : decode cc pc = .ok (.lushr, 1)) (k : sr_T G d own cc nL ret ini inj (pc + 1) L (vL ((x.toUInt64 >>> (y.toInt64.toUInt64 &&& Int64.toUInt64 63)).toInt64) :: st) h F) : sr_T G d own cc nL ret ini inj pc L (vI y :: vL x :: st) h F :=
  sr_T.step (fun _ _ _ _ _ _ _ _ _ _ _ _ _ ls _ C h9 kk => lv_lushr C.1 C.2.1 hd rfl (kk ls h9)) k
theorem tq_lshl {x : Int64} {y : Int32} (hd : decode cc pc = .ok (.lshl, 1)) (k : sr_T G d own cc nL ret ini inj (pc + 1) L (vL (x <<< (y.toInt64 &&& 63)) :: st) h F) : sr_T G d own cc nL ret ini inj pc L (vI y :: vL x :: st) h F :=
  sr_T.step (fun _ _ _ _ _ _ _ _ _ _ _ _ _ ls _ C h9 kk => lv_lshl C.1 C.2.1 hd rfl (kk ls h9)) k
theorem tq_lshr {x : Int64} {y : Int32} (hd : decode cc pc = .ok (.lshr, 1)) (k : sr_T G d own cc nL ret ini inj (pc + 1) L (vL (x >>> (y.toInt64 &&& 63)) :: st) h F) : sr_T G d own cc nL ret ini inj pc L (vI y :: vL x :: st) h F :=
  sr_T.step (fun _ _ _ _ _ _ _ _ _ _ _ _ _ ls _ C h9 kk => lv_lshr C.1 C.2.1 hd rfl (kk ls h9)) k
theorem tq_i2l {x : Int32} (hd : decode cc pc = .ok (.i2l, 1)) (k : sr_T G d own cc nL ret ini inj (pc + 1) L (vL x.toInt64 :: st) h F) : sr_T G d own cc nL ret ini inj pc L (vI x :: st) h F :=
  sr_T.step (fun _ _ _ _ _ _ _ _ _ _ _ _ _ ls _ C h9 kk => lv_i2l C.1 C.2.1 hd rfl (kk ls h9)) k
theorem tq_l2i {x : Int64} (hd : decode cc pc = .ok (.l2i, 1)) (k : sr_T G d own cc nL ret ini inj (pc + 1) L (vI x.toInt32 :: st) h F) : sr_T G d own cc nL ret ini inj pc L (vL x :: st) h F :=
  sr_T.step (fun _ _ _ _ _ _ _ _ _ _ _ _ _ ls _ C h9 kk => lv_l2i C.1 C.2.1 hd rfl (kk ls h9)) k
theorem tq_i2b {x : Int32} (hd : decode cc pc = .ok (.i2b, 1)) (k : sr_T G d own cc nL ret ini inj (pc + 1) L (vI x.toInt8.toInt32 :: st) h F) : sr_T G d own cc nL ret ini inj pc L (vI x :: st) h F :=
  sr_T.step (fun _ _ _ _ _ _ _ _ _ _ _ _ _ ls _ C h9 kk => lv_i2b C.1 C.2.1 hd rfl (kk ls h9)) k
theorem tq_lcmp {x y : Int64} (hd : decode cc pc = .ok (.lcmp, 1)) (k : sr_T G d own cc nL ret ini inj (pc + 1) L (vI (lg_cmp x y) :: st) h F) : sr_T G d own cc nL ret ini inj pc L (vL y :: vL x :: st) h F :=
  sr_T.step (fun _ _ _ _ _ _ _ _ _ _ _ _ _ ls _ C h9 kk => W.lcmp C.1 C.2.1 hd (kk ls h9)) k
theorem tq_dupI {x : Int32} (hd : decode cc pc = .ok (.dup, 1)) (k : sr_T G d own cc nL ret ini inj (pc + 1) L (vI x :: vI x :: st) h F) : sr_T G d own cc nL ret ini inj pc L (vI x :: st) h F :=
  sr_T.step (fun _ _ _ _ _ _ _ _ _ _ _ _ _ ls _ C h9 kk => lv_dup C.1 C.2.1 hd rfl (kk ls h9)) k
theorem tq_dupR {x : Option Nat} (hd : decode cc pc = .ok (.dup, 1)) (k : sr_T G d own cc nL ret ini inj (pc + 1) L (vR x :: vR x :: st) h F) : sr_T G d own cc nL ret ini inj pc L (vR x :: st) h F :=
  sr_T.step (fun _ _ _ _ _ _ _ _ _ _ _ _ _ ls _ C h9 kk => lv_dup C.1 C.2.1 hd (sr_cat1 x) (kk ls h9)) k
theorem tq_dup2 {x : Option Nat} {i : Int32} (hd : decode cc pc = .ok (.dup2, 1)) (k : sr_T G d own cc nL ret ini inj (pc + 1) L (vI i :: vR x :: vI i :: vR x :: st) h F) : sr_T G d own cc nL ret ini inj pc L (vI i :: vR x :: st) h F :=
  sr_T.step (fun _ _ _ _ _ _ _ _ _ _ _ _ _ ls _ C h9 kk => lv_dup2_11 C.1 C.2.1 hd rfl (sr_cat1 x) (kk ls h9)) k
theorem tq_popI {x : Int32} (hd : decode cc pc = .ok (.pop, 1)) (k : sr_T G d own cc nL ret ini inj (pc + 1) L st h F) : sr_T G d own cc nL ret ini inj pc L (vI x :: st) h F :=
  sr_T.step (fun _ _ _ _ _ _ _ _ _ _ _ _ _ ls _ C h9 kk => lv_pop C.1 C.2.1 hd rfl (kk ls h9)) k
theorem tq_popR {x : Option Nat} (hd : decode cc pc = .ok (.pop, 1)) (k : sr_T G d own cc nL ret ini inj (pc + 1) L st h F) : sr_T G d own cc nL ret ini inj pc L (vR x :: st) h F :=
  sr_T.step (fun _ _ _ _ _ _ _ _ _ _ _ _ _ ls _ C h9 kk => lv_pop C.1 C.2.1 hd (sr_cat1 x) (kk ls h9)) k
theorem tq_goto {off : Int} (tgt : Nat) (hd : decode cc pc = .ok (.goto off, 3)) (ht : (pc : Int) + off = (tgt : Int)) (k : sr_T G d own cc nL ret ini inj tgt L st h F) : sr_T G d own cc nL ret ini inj pc L st h F :=
  sr_T.step (fun _ _ _ _ _ _ _ _ _ _ _ _ _ ls _ C h9 kk => lv_goto C.1 C.2.1 hd ht (kk ls h9)) k
theorem tq_if_eq {x : Int32} {off : Int} (tgt : Nat) {F1 F2 : Option (X × AH)} (hd : decode cc pc = .ok (.ifCond .eq off, 3)) (ht : (pc : Int) + off = (tgt : Int)) (k1 : x = 0 → sr_T G d own cc nL ret ini inj tgt L st h F1) (k2 : ¬ (x = 0) → sr_T G d own cc nL ret ini inj (pc + 3) L st h F2) : sr_T G d own cc nL ret ini inj pc L (vI x :: st) h (if x = 0 then F1 else F2) :=
  sr_T.fork _ (fun _ _ _ _ _ _ _ _ _ _ _ _ _ ls _ C h9 k1 k2 => lv_if_eq C.1 C.2.1 hd ht k1 k2) k1 k2
theorem tq_icmp_eq {x y : Int32} {off : Int} (tgt : Nat) {F1 F2 : Option (X × AH)} (hd : decode cc pc = .ok (.if_icmp .eq off, 3)) (ht : (pc : Int) + off = (tgt : Int)) (k1 : x = y → sr_T G d own cc nL ret ini inj tgt L st h F1) (k2 : ¬ (x = y) → sr_T G d own cc nL ret ini inj (pc + 3) L st h F2) : sr_T G d own cc nL ret ini inj pc L (vI y :: vI x :: st) h (if x = y then F1 else F2) :=
  sr_T.fork _ (fun _ _ _ _ _ _ _ _ _ _ _ _ _ ls _ C h9 k1 k2 => lv_icmp_eq C.1 C.2.1 hd ht k1 k2) k1 k2
theorem tq_if_lt {x : Int32} {off : Int} (tgt : Nat) {F1 F2 : Option (X × AH)} (hd : decode cc pc = .ok (.ifCond .lt off, 3)) (ht : (pc : Int) + off = (tgt : Int)) (k1 : x < 0 → sr_T G d own cc nL ret ini inj tgt L st h F1) (k2 : ¬ (x < 0) → sr_T G d own cc nL ret ini inj (pc + 3) L st h F2) : sr_T G d own cc nL ret ini inj pc L (vI x :: st) h (if x < 0 then F1 else F2) :=
  sr_T.fork _ (fun _ _ _ _ _ _ _ _ _ _ _ _ _ ls _ C h9 k1 k2 => lv_if_lt C.1 C.2.1 hd ht k1 k2) k1 k2
theorem tq_icmp_lt {x y : Int32} {off : Int} (tgt : Nat) {F1 F2 : Option (X × AH)} (hd : decode cc pc = .ok (.if_icmp .lt off, 3)) (ht : (pc : Int) + off = (tgt : Int)) (k1 : x < y → sr_T G d own cc nL ret ini inj tgt L st h F1) (k2 : ¬ (x < y) → sr_T G d own cc nL ret ini inj (pc + 3) L st h F2) : sr_T G d own cc nL ret ini inj pc L (vI y :: vI x :: st) h (if x < y then F1 else F2) :=
  sr_T.fork _ (fun _ _ _ _ _ _ _ _ _ _ _ _ _ ls _ C h9 k1 k2 => lv_icmp_lt C.1 C.2.1 hd ht k1 k2) k1 k2
theorem tq_if_ge {x : Int32} {off : Int} (tgt : Nat) {F1 F2 : Option (X × AH)} (hd : decode cc pc = .ok (.ifCond .ge off, 3)) (ht : (pc : Int) + off = (tgt : Int)) (k1 : 0 ≤ x → sr_T G d own cc nL ret ini inj tgt L st h F1) (k2 : ¬ (0 ≤ x) → sr_T G d own cc nL ret ini inj (pc + 3) L st h F2) : sr_T G d own cc nL ret ini inj pc L (vI x :: st) h (if 0 ≤ x then F1 else F2) :=
  sr_T.fork _ (fun _ _ _ _ _ _ _ _ _ _ _ _ _ ls _ C h9 k1 k2 => lv_if_ge C.1 C.2.1 hd ht k1 k2) k1 k2
theorem tq_icmp_ge {x y : Int32} {off : Int} (tgt : Nat) {F1 F2 : Option (X × AH)} (hd : decode cc pc = .ok (.if_icmp .ge off, 3)) (ht : (pc : Int) + off = (tgt : Int)) (k1 : y ≤ x → sr_T G d own cc nL ret ini inj tgt L st h F1) (k2 : ¬ (y ≤ x) → sr_T G d own cc nL ret ini inj (pc + 3) L st h F2) : sr_T G d own cc nL ret ini inj pc L (vI y :: vI x :: st) h (if y ≤ x then F1 else F2) :=
  sr_T.fork _ (fun _ _ _ _ _ _ _ _ _ _ _ _ _ ls _ C h9 k1 k2 => lv_icmp_ge C.1 C.2.1 hd ht k1 k2) k1 k2
theorem tq_if_gt {x : Int32} {off : Int} (tgt : Nat) {F1 F2 : Option (X × AH)} (hd : decode cc pc = .ok (.ifCond .gt off, 3)) (ht : (pc : Int) + off = (tgt : Int)) (k1 : 0 < x → sr_T G d own cc nL ret ini inj tgt L st h F1) (k2 : ¬ (0 < x) → sr_T G d own cc nL ret ini inj (pc + 3) L st h F2) : sr_T G d own cc nL ret ini inj pc L (vI x :: st) h (if 0 < x then F1 else F2) :=
  sr_T.fork _ (fun _ _ _ _ _ _ _ _ _ _ _ _ _ ls _ C h9 k1 k2 => lv_if_gt C.1 C.2.1 hd ht k1 k2) k1 k2
theorem tq_icmp_gt {x y : Int32} {off : Int} (tgt : Nat) {F1 F2 : Option (X × AH)} (hd : decode cc pc = .ok (.if_icmp .gt off, 3)) (ht : (pc : Int) + off = (tgt : Int)) (k1 : y < x → sr_T G d own cc nL ret ini inj tgt L st h F1) (k2 : ¬ (y < x) → sr_T G d own cc nL ret ini inj (pc + 3) L st h F2) : sr_T G d own cc nL ret ini inj pc L (vI y :: vI x :: st) h (if y < x then F1 else F2) :=
  sr_T.fork _ (fun _ _ _ _ _ _ _ _ _ _ _ _ _ ls _ C h9 k1 k2 => lv_icmp_gt C.1 C.2.1 hd ht k1 k2) k1 k2
theorem tq_if_le {x : Int32} {off : Int} (tgt : Nat) {F1 F2 : Option (X × AH)} (hd : decode cc pc = .ok (.ifCond .le off, 3)) (ht : (pc : Int) + off = (tgt : Int)) (k1 : x ≤ 0 → sr_T G d own cc nL ret ini inj tgt L st h F1) (k2 : ¬ (x ≤ 0) → sr_T G d own cc nL ret ini inj (pc + 3) L st h F2) : sr_T G d own cc nL ret ini inj pc L (vI x :: st) h (if x ≤ 0 then F1 else F2) :=
  sr_T.fork _ (fun _ _ _ _ _ _ _ _ _ _ _ _ _ ls _ C h9 k1 k2 => lv_if_le C.1 C.2.1 hd ht k1 k2) k1 k2
theorem tq_icmp_le {x y : Int32} {off : Int} (tgt : Nat) {F1 F2 : Option (X × AH)} (hd : decode cc pc = .ok (.if_icmp .le off, 3)) (ht : (pc : Int) + off = (tgt : Int)) (k1 : x ≤ y → sr_T G d own cc nL ret ini inj tgt L st h F1) (k2 : ¬ (x ≤ y) → sr_T G d own cc nL ret ini inj (pc + 3) L st h F2) : sr_T G d own cc nL ret ini inj pc L (vI y :: vI x :: st) h (if x ≤ y then F1 else F2) :=
  sr_T.fork _ (fun _ _ _ _ _ _ _ _ _ _ _ _ _ ls _ C h9 k1 k2 => lv_icmp_le C.1 C.2.1 hd ht k1 k2) k1 k2
theorem tq_if_ne {x : Int32} {off : Int} (tgt : Nat) {F1 F2 : Option (X × AH)} (hd : decode cc pc = .ok (.ifCond .ne off, 3)) (ht : (pc : Int) + off = (tgt : Int)) (k1 : ¬ (x = 0) → sr_T G d own cc nL ret ini inj tgt L st h F1) (k2 : x = 0 → sr_T G d own cc nL ret ini inj (pc + 3) L st h F2) : sr_T G d own cc nL ret ini inj pc L (vI x :: st) h (if x = 0 then F2 else F1) :=
  sr_T.fork _ (fun _ _ _ _ _ _ _ _ _ _ _ _ _ ls _ C h9 k1 k2 => lv_if_ne C.1 C.2.1 hd ht k2 k1) k2 k1
theorem tq_icmp_ne {x y : Int32} {off : Int} (tgt : Nat) {F1 F2 : Option (X × AH)} (hd : decode cc pc = .ok (.if_icmp .ne off, 3)) (ht : (pc : Int) + off = (tgt : Int)) (k1 : ¬ (x = y) → sr_T G d own cc nL ret ini inj tgt L st h F1) (k2 : x = y → sr_T G d own cc nL ret ini inj (pc + 3) L st h F2) : sr_T G d own cc nL ret ini inj pc L (vI y :: vI x :: st) h (if x = y then F2 else F1) :=
  sr_T.fork _ (fun _ _ _ _ _ _ _ _ _ _ _ _ _ ls _ C h9 k1 k2 => lv_icmp_ne C.1 C.2.1 hd ht k2 k1) k2 k1
theorem tq_ifnull {x : Option Nat} {off : Int} (tgt : Nat) {F1 F2 : Option (X × AH)} (hd : decode cc pc = .ok (.ifnull off, 3)) (ht : (pc : Int) + off = (tgt : Int)) (k1 : x = none → sr_T G d own cc nL ret ini inj tgt L st h F1) (k2 : ¬ (x = none) → sr_T G d own cc nL ret ini inj (pc + 3) L st h F2) : sr_T G d own cc nL ret ini inj pc L (vR x :: st) h (if x = none then F1 else F2) := by
  cases x with
  | none => exact sr_T.fork _ (fun _ _ _ _ _ _ _ _ _ _ _ _ _ ls _ C h9 k1 k2 => lv_ifnullN C.1 C.2.1 hd ht (k1 rfl)) k1 k2
  | some a => exact sr_T.fork _ (fun _ _ _ _ _ _ _ _ _ _ _ _ _ ls _ C h9 k1 k2 => lv_ifnull C.1 C.2.1 hd (k2 (fun z => by cases z))) k1 k2
theorem tq_ifnonnull {x : Option Nat} {off : Int} (tgt : Nat) {F1 F2 : Option (X × AH)} (hd : decode cc pc = .ok (.ifnonnull off, 3)) (ht : (pc : Int) + off = (tgt : Int)) (k1 : ¬ (x = none) → sr_T G d own cc nL ret ini inj tgt L st h F1) (k2 : x = none → sr_T G d own cc nL ret ini inj (pc + 3) L st h F2) : sr_T G d own cc nL ret ini inj pc L (vR x :: st) h (if x = none then F2 else F1) := by
  cases x with
  | none => exact sr_T.fork _ (fun _ _ _ _ _ _ _ _ _ _ _ _ _ ls _ C h9 k1 k2 => lv_ifnonnullN C.1 C.2.1 hd (k1 rfl)) k2 k1
  | some a => exact sr_T.fork _ (fun _ _ _ _ _ _ _ _ _ _ _ _ _ ls _ C h9 k1 k2 => lv_ifnonnull C.1 C.2.1 hd ht (k2 (fun z => by cases z))) k2 k1
/-- a switch: one road by the value -/
theorem tq_lookup {dflt : Int} {ps : Array (Int × Int)} {len : Nat} {x : Int32} {off : Int} (tgt : Nat) (hd : decode cc pc = .ok (.lookupswitch dflt ps, len)) (hp : (ps.toList.zip (ps.toList.drop 1)).all (fun (a, next) => a.1 < next.1) = true) (ho : Op.lookupswitch.offset ps.toList dflt x.toInt = off) (ht : (pc : Int) + off = (tgt : Int)) (k : sr_T G d own cc nL ret ini inj tgt L st h F) : sr_T G d own cc nL ret ini inj pc L (vI x :: st) h F :=
  sr_T.step (fun _ _ _ _ _ _ _ _ _ _ _ _ _ ls _ C h9 kk => lv_lookup C.1 C.2.1 hd hp ho ht (kk ls h9)) k
theorem tq_tableOut {dflt lo hi : Int} {offs : Array Int} {len : Nat} {x : Int32} (tgt : Nat) (hd : decode cc pc = .ok (.tableswitch dflt lo hi offs, len)) (hx : x.toInt < lo ∨ hi < x.toInt) (ht : (pc : Int) + dflt = (tgt : Int)) (k : sr_T G d own cc nL ret ini inj tgt L st h F) : sr_T G d own cc nL ret ini inj pc L (vI x :: st) h F :=
  sr_T.step (fun _ _ _ _ _ _ _ _ _ _ _ _ _ ls _ C h9 kk => lv_tableOut C.1 C.2.1 hd hx ht (kk ls h9)) k
theorem tq_tableIn {dflt lo hi : Int} {offs : Array Int} {len : Nat} {x : Int32} {off : Int} (tgt : Nat) (hd : decode cc pc = .ok (.tableswitch dflt lo hi offs, len)) (h1 : ¬ x.toInt < lo) (h2 : ¬ hi < x.toInt) (ho : offs[(x.toInt - lo).toNat]? = some off) (ht : (pc : Int) + off = (tgt : Int)) (k : sr_T G d own cc nL ret ini inj tgt L st h F) : sr_T G d own cc nL ret ini inj pc L (vI x :: st) h F :=
  sr_T.step (fun _ _ _ _ _ _ _ _ _ _ _ _ _ ls _ C h9 kk => lv_tableIn C.1 C.2.1 hd h1 h2 ho ht (kk ls h9)) k
theorem tq_ite {c : Prop} (hc : Decidable c) {F1 F2 : Option (X × AH)} (k1 : c → sr_T G d own cc nL ret ini inj pc L st h F1) (k2 : ¬ c → sr_T G d own cc nL ret ini inj pc L st h F2) : sr_T G d own cc nL ret ini inj pc L st h (if c then F1 else F2) := by
  by_cases hx : c
  · rw [if_pos hx]; exact k1 hx
  · rw [if_neg hx]; exact k2 hx
end RULES
end
section
section HEAP
theorem sr_fv_eq {h h1 : AH} (e1 : gI h1 = gI h) (e2 : gL h1 = gL h) (e3 : gR h1 = gR h) (ci k a : Nat) : sr_fv h1 ci k a = sr_fv h ci k a := by
  unfold sr_fv sr_v
  rw [e1, e2, e3]
theorem sr_ev_eq {h h1 : AH} (e1 : gA h1 = gA h) (e2 : gQ h1 = gQ h) (t a j : Nat) : sr_ev h1 t a j = sr_ev h t a j := by
  unfold sr_ev
  rw [e1, e2]
theorem sr_v_at {h h1 : AH} {kind f a : Nat} (e1 : gI h1 f a = gI h f a) (e2 : gL h1 f a = gL h f a) (e3 : gR h1 f a = gR h f a) : sr_v h1 kind f a = sr_v h kind f a := by
  unfold sr_v
  rw [e1, e2, e3]
/-- a field of the object at a has changed -/
theorem sr_Rep.put {G : sr_G} {h h1 : AH} {H H1 : Heap} {a c : Nat} {r : vw_C} (hR : sr_Rep G h H) (hka : (gK h a).1 = c + 1) (hc : sr_cl[c]? = some r) (e1 : H1.size = H.size) (e3 : ∀ q, q ≠ a → H1[q]? = H[q]?)
    (hN : gN h1 = gN h) (hK : gK h1 = gK h) (hA : gA h1 = gA h) (hQ : gQ h1 = gQ h) (hoth : ∀ ci k' b, b ≠ a → sr_fv h1 ci k' b = sr_fv h ci k' b) (hat : t_OB a (G.2.1.1 c) r.2.2 (G.2.1.2 c) H1 (fun k' => sr_fv h1 c k' a)) : sr_Rep G h1 H1 := by
  obtain ⟨r1, r2, r3, r4⟩ := hR
  refine ⟨by rw [e1, hN]; exact r1, fun b hb => r2 b (by rw [← hK]; exact hb), fun b ci r' hb hr => ?_, fun b t hb ht => ?_⟩
  · rw [hK] at hb
    by_cases hba : b = a
    · subst hba
      have hci : ci = c := by omega
      subst hci
      cases hc.symm.trans hr
      exact hat
    · exact ((r3 b ci r' hb hr).kept (e3 b hba)).to (fun k' _ => (hoth ci k' b hba).symm)
  · rw [hK] at hb ⊢
    have hba : b ≠ a := by
      intro q
      subst q
      have hlen := (List.getElem?_eq_some_iff.mp hc).1
      simp only [List.length_cons, List.length_nil] at hlen
      omega
    rw [e3 b hba, r4 b t hb ht]
    congr 2
    funext j
    exact (sr_ev_eq hA hQ t b j).symm
/-- places of the array at a have changed -/
theorem sr_Rep.aput {G : sr_G} {h h1 : AH} {H H1 : Heap} {a t : Nat} (hR : sr_Rep G h H) (hka : (gK h a).1 = 100 + t) (ht : t < 5) (e1 : H1.size = H.size) (e3 : ∀ q, q ≠ a → H1[q]? = H[q]?)
    (hN : gN h1 = gN h) (hK : gK h1 = gK h) (hI : gI h1 = gI h) (hL : gL h1 = gL h) (hQ : gR h1 = gR h) (hoth : ∀ t' j b, b ≠ a → sr_ev h1 t' b j = sr_ev h t' b j) (hat : H1[a]? = some (arrV (G.2.2.1 t) (gK h a).2 (fun j => sr_ev h1 t a j))) : sr_Rep G h1 H1 := by
  obtain ⟨r1, r2, r3, r4⟩ := hR
  refine ⟨by rw [e1, hN]; exact r1, fun b hb => r2 b (by rw [← hK]; exact hb), fun b ci r' hb hr => ?_, fun b t' hb ht' => ?_⟩
  · rw [hK] at hb
    have hba : b ≠ a := by
      intro q
      subst q
      have hlen := (List.getElem?_eq_some_iff.mp hr).1
      simp only [List.length_cons, List.length_nil] at hlen
      omega
    exact ((r3 b ci r' hb hr).kept (e3 b hba)).to (fun k' _ => (sr_fv_eq hI hL hQ ci k' b).symm)
  · rw [hK] at hb ⊢
    by_cases hba : b = a
    · subst hba
      have htt : t' = t := by omega
      subst htt
      exact hat
    · rw [e3 b hba, r4 b t' hb ht']
      congr 2
      funext j
      exact (hoth t' j b hba).symm
theorem sr_Rep.lt {G : sr_G} {h : AH} {H : Heap} (hR : sr_Rep G h H) {a t : Nat} (hka : (gK h a).1 = 100 + t) (ht : t < 5) : a < H.size := (Array.getElem?_eq_some_iff.mp (hR.2.2.2 a t hka ht)).1
theorem sr_Rep.lto {G : sr_G} {h : AH} {H : Heap} (hR : sr_Rep G h H) {a c : Nat} {r : vw_C} (hka : (gK h a).1 = c + 1) (hc : sr_cl[c]? = some r) : a < H.size := by
  obtain ⟨cell, h1, -⟩ := hR.2.2.1 a c r hka hc
  exact (Array.getElem?_eq_some_iff.mp h1).1
/-- a cell has come -/
theorem sr_Rep.newO {G : sr_G} {h : AH} {H H1 : Heap} {c n : Nat} {r : vw_C} (hR : sr_Rep G h H) (hb : sr_bs G ≤ H.size) (hc : sr_cl[c]? = some r) (e1 : H1.size = H.size + 1) (e3 : ∀ q, q < H.size → H1[q]? = H[q]?)
    (hat : t_OB H.size (G.2.1.1 c) r.2.2 (G.2.1.2 c) H1 (fun k' => sr_fv (mkC h (c + 1, 0) n) c k' H.size)) : sr_Rep G (mkC h (c + 1, 0) n) H1 := by
  have hR0 := hR
  obtain ⟨r1, r2, r3, r4⟩ := hR
  have kk : ∀ b, b ≠ H.size → gK (mkC h (c + 1, 0) n) b = gK h b := fun b hb => by show (if b = gN h then _ else _) = _; rw [if_neg (by rw [← r1]; exact hb)]
  have kn : gK (mkC h (c + 1, 0) n) H.size = (c + 1, 0) := by show (if _ = gN h then _ else _) = _; rw [if_pos r1]
  have hlen := (List.getElem?_eq_some_iff.mp hc).1
  simp only [List.length_cons, List.length_nil] at hlen
  refine ⟨by rw [e1, r1]; rfl, fun b hb2 => ?_, fun b ci r' hb2 hr => ?_, fun b t hb2 ht => ?_⟩
  · by_cases hbs : b = H.size
    · rw [hbs]; exact hb
    · rw [kk b hbs] at hb2; exact r2 b hb2
  · by_cases hbs : b = H.size
    · subst hbs
      rw [kn] at hb2
      have hci : ci = c := by simp at hb2; omega
      subst hci
      cases hc.symm.trans hr
      exact hat
    · rw [kk b hbs] at hb2
      have hlt := hR0.lto hb2 hr
      refine ((r3 b ci r' hb2 hr).kept (e3 b hlt)).to (fun k' _ => ?_)
      have hne : ¬ b = gN h := by rw [← r1]; exact hbs
      refine (sr_v_at ?_ ?_ ?_).symm
      · show (if b = gN h then _ else _) = _; rw [if_neg hne]
      · show (if b = gN h then _ else _) = _; rw [if_neg hne]
      · show (if b = gN h then _ else _) = _; rw [if_neg hne]
  · by_cases hbs : b = H.size
    · subst hbs
      rw [kn] at hb2
      simp at hb2
      omega
    · rw [kk b hbs] at hb2 ⊢
      have hlt := hR0.lt hb2 ht
      rw [e3 b hlt, r4 b t hb2 ht]
      congr 2
      funext j
      have hne : ¬ b = gN h := by rw [← r1]; exact hbs
      unfold sr_ev
      have q1 : gA (mkC h (c + 1, 0) n) b j = gA h b j := by show (if b = gN h then _ else _) = _; rw [if_neg hne]
      have q2 : gQ (mkC h (c + 1, 0) n) b j = gQ h b j := by show (if b = gN h then _ else _) = _; rw [if_neg hne]
      rw [q1, q2]
theorem sr_Rep.newA {G : sr_G} {h : AH} {H H1 : Heap} {t n : Nat} (hR : sr_Rep G h H) (hb : sr_bs G ≤ H.size) (ht : t < 5) (e1 : H1.size = H.size + 1) (e3 : ∀ q, q < H.size → H1[q]? = H[q]?)
    (hat : H1[H.size]? = some (arrV (G.2.2.1 t) n (fun j => sr_ev (mkC h (100 + t, n) n) t H.size j))) : sr_Rep G (mkC h (100 + t, n) n) H1 := by
  have hR0 := hR
  obtain ⟨r1, r2, r3, r4⟩ := hR
  have kk : ∀ b, b ≠ H.size → gK (mkC h (100 + t, n) n) b = gK h b := fun b hb => by show (if b = gN h then _ else _) = _; rw [if_neg (by rw [← r1]; exact hb)]
  have kn : gK (mkC h (100 + t, n) n) H.size = (100 + t, n) := by show (if _ = gN h then _ else _) = _; rw [if_pos r1]
  refine ⟨by rw [e1, r1]; rfl, fun b hb2 => ?_, fun b ci r' hb2 hr => ?_, fun b t' hb2 ht' => ?_⟩
  · by_cases hbs : b = H.size
    · rw [hbs]; exact hb
    · rw [kk b hbs] at hb2; exact r2 b hb2
  · have hlen := (List.getElem?_eq_some_iff.mp hr).1
    simp only [List.length_cons, List.length_nil] at hlen
    by_cases hbs : b = H.size
    · subst hbs
      rw [kn] at hb2
      simp at hb2
      omega
    · rw [kk b hbs] at hb2
      have hlt := hR0.lto hb2 hr
      refine ((r3 b ci r' hb2 hr).kept (e3 b hlt)).to (fun k' _ => ?_)
      have hne : ¬ b = gN h := by rw [← r1]; exact hbs
      refine (sr_v_at ?_ ?_ ?_).symm
      · show (if b = gN h then _ else _) = _; rw [if_neg hne]
      · show (if b = gN h then _ else _) = _; rw [if_neg hne]
      · show (if b = gN h then _ else _) = _; rw [if_neg hne]
  · by_cases hbs : b = H.size
    · subst hbs
      rw [kn] at hb2 ⊢
      have htt : t' = t := by simp at hb2; omega
      subst htt
      exact hat
    · rw [kk b hbs] at hb2 ⊢
      have hlt := hR0.lt hb2 ht'
      rw [e3 b hlt, r4 b t' hb2 ht']
      congr 2
      funext j
      have hne : ¬ b = gN h := by rw [← r1]; exact hbs
      unfold sr_ev
      have q1 : gA (mkC h (100 + t, n) n) b j = gA h b j := by show (if b = gN h then _ else _) = _; rw [if_neg hne]
      have q2 : gQ (mkC h (100 + t, n) n) b j = gQ h b j := by show (if b = gN h then _ else _) = _; rw [if_neg hne]
      rw [q1, q2]
variable {G : sr_G} {d : Nat} {own : String} {cc : ByteArray} {nL : Nat} {ret : Option FieldType} {ini : Bool} {X : Type} {inj : sr_Z X} {pc : Nat} {L : List (Nat × sr_V)} {st : List sr_V} {h : AH} {F : Option (X × AH)}
/-- an instruction that reads the heap -/
theorem sr_T.read {pc' : Nat} {st' : List sr_V}
    (hs : ∀ (p : Program) (e : Env) (R : Room) (s : State) (m : MethodId) (args : Array Value) (below : List Frame) (meth : Method) (c : Code) (H : Heap) (locs : List Loc) (cells slots : Nat) (ls : Array Slot) (Q : State → Prop), sr_Cx G own cc nL ret ini p s m args meth c → sr_Rep G h H → va_S (sr_A G) s.heap H locs → d ≤ R.frames → 64 * d ≤ R.locals → lv_has ls nL (sr_el L) →
      W p G.1 e R s m args below meth c H locs cells slots Q (F0 m pc' ls (st'.map sr_em)) → W p G.1 e R s m args below meth c H locs cells slots Q (F0 m pc ls (st.map sr_em)))
    (k : sr_T G d own cc nL ret ini inj pc' L st' h F) : sr_T G d own cc nL ret ini inj pc L st h F := by
  intro x h' hF
  obtain ⟨k1, k2⟩ := k x h' hF
  refine ⟨k1, ?_⟩
  intro p e R s m args below meth c n0 s0 H locs ls C h1 h2 h3 h4 h5 h6 h7 h8 h9
  exact hs p e R s m args below meth c H locs _ _ ls _ C h7 h8 h1 h2 h9 (k2 p e R s m args below meth c n0 s0 H locs ls C h1 h2 h3 h4 h5 h6 h7 h8 h9)
/-- an instruction that changes it -/
theorem sr_T.write {pc' : Nat} {st' : List sr_V} {h1 : AH} (hn : gN h ≤ gN h1) (hsl : gS h ≤ gS h1)
    (hs : ∀ (p : Program) (e : Env) (R : Room) (s : State) (m : MethodId) (args : Array Value) (below : List Frame) (meth : Method) (c : Code) (H : Heap) (locs : List Loc) (cells slots : Nat) (ls : Array Slot) (Q : State → Prop), sr_Cx G own cc nL ret ini p s m args meth c → sr_Rep G h H → va_S (sr_A G) s.heap H locs → cells + (gN h1 - gN h) ≤ R.cells → slots + (gS h1 - gS h) ≤ R.slots →
      (∀ (H1 : Heap) (locs1 : List Loc), sr_Rep G h1 H1 → va_S (sr_A G) s.heap H1 locs1 → W p G.1 e R s m args below meth c H1 locs1 (cells + (gN h1 - gN h)) (slots + (gS h1 - gS h)) Q (F0 m pc' ls (st'.map sr_em))) → W p G.1 e R s m args below meth c H locs cells slots Q (F0 m pc ls (st.map sr_em)))
    (k : sr_T G d own cc nL ret ini inj pc' L st' h1 F) : sr_T G d own cc nL ret ini inj pc L st h F := by
  intro x h' hF
  obtain ⟨⟨k0, k1⟩, k2⟩ := k x h' hF
  refine ⟨⟨Nat.le_trans hn k0, Nat.le_trans hsl k1⟩, ?_⟩
  intro p e R s m args below meth c n0 s0 H locs ls C h1' h2 h3 h4 h5 h6 h7 h8 h9
  have e1 : gN h - n0 + (gN h1 - gN h) = gN h1 - n0 := by omega
  have e2 : gS h - s0 + (gS h1 - gS h) = gS h1 - s0 := by omega
  refine hs p e R s m args below meth c H locs _ _ ls _ C h7 h8 (by omega) (by omega) (fun H1 locs1 q1 q2 => ?_)
  rw [e1, e2]
  exact k2 p e R s m args below meth c n0 s0 H1 locs1 ls C h1' h2 (by omega) (by omega) h5 h6 q1 q2 h9
/-- what the tables say of a class of ours -/
def sr_cf (c : Nat) (C : String) (T : u_T) (N : Nat) : Prop :=
  sr_cl[c]? = some (C, T, N) ∧ (∀ w ∈ u_ws C T N, w ∈ sr_tbl) ∧ (∀ k, k < N → parseFieldDescriptor (T k).2.2.1 = some (sr_ty c k)) ∧ (∀ a, a < N → ∀ b, b < N → a ≠ b → (T a).2.1 ≠ (T b).2.1) ∧ N < 50
theorem sr_fget {C : String} {T : u_T} {N c k index : Nat} {v : Value} {a : Nat} {st' : List sr_V} {sv : sr_V} (hd : decode cc pc = .ok (.getfield index, 3)) (cf : sr_cf c C T N) (hk : k < N) (hw : Cond.fieldLink own index (T k).1 (T k).2.1 (T k).2.2.1 ∈ sr_tbl) (hka : (gK h a).1 = c + 1) (hv : sr_fv h c k a = sr_em sv)
    (kk : sr_T G d own cc nL ret ini inj (pc + 3) L (sv :: st') h F) : sr_T G d own cc nL ret ini inj pc L (vR (some a) :: st') h F := by
  refine sr_T.read (fun p e R s m args below meth c' H locs cells slots ls Q C' hR hS _ _ h9 kk => ?_) kk
  obtain ⟨hx, hb, -, -, hown, hts, -, hK, -⟩ := C'
  obtain ⟨c1, c2, c3, c4, -⟩ := cf
  refine va_get (D := G.2.1) (cl := sr_cl) (tys := []) (ws := [(a, .inr (c, (List.range N).map (fun k' => sr_fv h c k' a)))]) (v := sr_em sv) hx hb hts c2 hown hK.1 ?_ 0 rfl c1 k hk (hts _ hw) (fun _ q => q) ?_ hd kk
  · intro j q hj
    have : j = 0 := by
      have := (List.getElem?_eq_some_iff.mp hj).1
      simp at this
      omega
    subst this
    cases hj
    refine ⟨_, c1, (hR.2.2.1 a c _ hka c1).to (fun k' hk' => ?_)⟩
    simp [vp_V, hk']
  · rw [← hv]
    simp [hk]
/-- the field facts that every kind of value shares -/
theorem sr_fput {C : String} {T : u_T} {N c k index : Nat} {a : Nat} {st' : List sr_V} {sv : sr_V} {h1 : AH} (hd : decode cc pc = .ok (.putfield index, 3)) (cf : sr_cf c C T N) (hk : k < N) (hw : Cond.fieldLink own index (T k).1 (T k).2.1 (T k).2.2.1 ∈ sr_tbl) (hka : (gK h a).1 = c + 1)
    (hfin : (T k).2.2.2 = false ∨ ((T k).2.2.2 = true ∧ ini = true ∧ (T k).1 = own)) (hn : narrow (sr_ty c k) (sr_em sv) = sr_em sv) (hfit : fits (sr_ty c k) (sr_em sv) = true)
    (hN : gN h1 = gN h) (hS1 : gS h1 = gS h) (hK1 : gK h1 = gK h) (hA : gA h1 = gA h) (hQ : gQ h1 = gQ h) (hoth : ∀ ci k' b, b ≠ a → sr_fv h1 ci k' b = sr_fv h ci k' b) (hsame : ∀ k', k' < N → sr_fv h1 c k' a = updV (fun k' => sr_fv h c k' a) k (sr_em sv) k')
    (kk : sr_T G d own cc nL ret ini inj (pc + 3) L st' h1 F) : sr_T G d own cc nL ret ini inj pc L (sv :: vR (some a) :: st') h F := by
  refine sr_T.write (by omega) (by omega) (fun p e R s m args below meth c' H locs cells slots ls Q C' hR hS hcl hsl kk => ?_) kk
  obtain ⟨hx, hb, -, -, hown, hts, -, hK, hini⟩ := C'
  obtain ⟨c1, c2, c3, c4, -⟩ := cf
  have hap := va_apart (own := own) hts c2 (sr_ty c) c3 c4 hK.1 c1
  have hAa : sr_A G a := hR.2.1 a (by rw [hka]; omega)
  have hRR := hR
  obtain ⟨cell, q1, q2, q3, q4⟩ := hR.2.2.1 a c _ hka c1
  obtain ⟨hSl, hfc, kC, hkC, hkind⟩ := hK.1.1 c _ c1
  obtain ⟨cf', kf, fi, f, hi, hsl'⟩ := hSl k hk
  have hst := (u_facts hfc hkC (u_lays hts c2 hk) hi).1
  have hcont : ∀ H' : Heap, H'[a]? = some (cell.setSlot f.slot (sr_em sv)) → H'.size = H.size → (∀ q, q ≠ a → H'[q]? = H[q]?) → W p G.1 e R s m args below meth c' H' (locs ++ [⟨a, f.slot⟩]) cells slots Q (F0 m (pc + 3) ls (st'.map sr_em)) := by
    intro H' e1 e2 e3
    have e0 : gN h1 - gN h = 0 := by omega
    have e0' : gS h1 - gS h = 0 := by omega
    rw [hsl'] at e1 ⊢
    have hP := kk H' (locs ++ [⟨a, G.2.1.2 c k⟩]) (hRR.put hka c1 e2 e3 hN hK1 hA hQ hoth ?_) (hS.put e2 e3 hAa)
    · rw [e0, e0'] at hP
      exact hP
    · exact t_OB.to (V := updV (fun k' => sr_fv h c k' a) k (sr_em sv)) ⟨_, e1, q2, q3, t_set q4 hap hk (sr_em sv)⟩ (fun k' hk' => (hsame k' hk').symm)
  rcases hfin with hfin | ⟨hfin, hi1, hdecl⟩
  · have hlay := hts _ (c2 _ (u_in_lay hk))
    unfold u_lay at hlay
    rw [if_neg (by rw [hfin]; decide)] at hlay
    have h6 := u_store hfc hkC hkind hlay hi (c3 k hk) hn hfit
    exact W.putK hx hb (f := f) ⟨hown, hts _ hw, ⟨_, _, _, hi⟩, hst⟩ (by rw [q2]; exact h6) q1 q3 (by rw [hsl']; exact k2_hasslot (q4 k hk)) rfl rfl hd hcont
  · have hlay := hts _ (c2 _ (u_in_lay hk))
    unfold u_lay at hlay
    rw [if_pos hfin] at hlay
    have hcf : m.cls = cf' := by
      obtain ⟨_, _, c'', _, _, _, -, -, hf', -, -, -, hown2, -⟩ := Cond.laysFinal_spec hlay
      have e1 : c'' = cf' := by have := hi.symm.trans hf'; simp at this; exact this.1.symm
      rw [hdecl] at hown2
      rw [← e1]; exact Option.some.inj (hown.symm.trans hown2)
    have h6 := u_fits hfc hkC hkind (Or.inr hlay) hi (c3 k hk) hn hfit
    exact W.putFinK hx hb hown (hts _ hw) hi hst hcf (hini hi1) (by rw [q2]; exact h6) q1 q3 (by rw [hsl']; exact k2_hasslot (q4 k hk)) rfl rfl hd hcont
end HEAP
end
section
section FIELDS
variable {G : sr_G} {d : Nat} {own : String} {cc : ByteArray} {nL : Nat} {ret : Option FieldType} {ini : Bool} {X : Type} {inj : sr_Z X} {pc : Nat} {L : List (Nat × sr_V)} {st : List sr_V} {h : AH} {F : Option (X × AH)}
theorem tq_getI {C : String} {T : u_T} {N c f index : Nat} (k : Nat) (hd : decode cc pc = .ok (.getfield index, 3)) (cf : sr_cf c C T N) (hk : k < N) (hw : Cond.fieldLink own index (T k).1 (T k).2.1 (T k).2.2.1 ∈ sr_tbl) (ht : sr_tk (sr_ty c k) = 0) (hf : 50 * c + k = f) {r : Option Nat} {K : Int32 → Option (X × AH)}
    (kk : ∀ w, sr_T G d own cc nL ret ini inj (pc + 3) L (vI w :: st) h (K w)) : sr_T G d own cc nL ret ini inj pc L (vR r :: st) h (cGI h c f r K) := by
  intro x h' hF
  subst hf
  cases r with
  | none => cases hF
  | some a =>
    by_cases hka : (gK h a).1 = c + 1
    · have hF' : K (gI h (50 * c + k) a) = some (x, h') := by rw [← hF]; simp [cGI, hka]
      exact sr_fget (v := .null) hd cf hk hw hka (sv := vI (gI h (50 * c + k) a)) (by unfold sr_fv; rw [ht]; rfl) (kk _) x h' hF'
    · simp [cGI, hka] at hF
theorem tq_getL {C : String} {T : u_T} {N c f index : Nat} (k : Nat) (hd : decode cc pc = .ok (.getfield index, 3)) (cf : sr_cf c C T N) (hk : k < N) (hw : Cond.fieldLink own index (T k).1 (T k).2.1 (T k).2.2.1 ∈ sr_tbl) (ht : sr_tk (sr_ty c k) = 1) (hf : 50 * c + k = f) {r : Option Nat} {K : Int64 → Option (X × AH)}
    (kk : ∀ w, sr_T G d own cc nL ret ini inj (pc + 3) L (vL w :: st) h (K w)) : sr_T G d own cc nL ret ini inj pc L (vR r :: st) h (cGL h c f r K) := by
  intro x h' hF
  subst hf
  cases r with
  | none => cases hF
  | some a =>
    by_cases hka : (gK h a).1 = c + 1
    · have hF' : K (gL h (50 * c + k) a) = some (x, h') := by rw [← hF]; simp [cGL, hka]
      exact sr_fget (v := .null) hd cf hk hw hka (sv := vL (gL h (50 * c + k) a)) (by unfold sr_fv; rw [ht]; rfl) (kk _) x h' hF'
    · simp [cGL, hka] at hF
theorem tq_getR {C : String} {T : u_T} {N c f index : Nat} (k : Nat) (hd : decode cc pc = .ok (.getfield index, 3)) (cf : sr_cf c C T N) (hk : k < N) (hw : Cond.fieldLink own index (T k).1 (T k).2.1 (T k).2.2.1 ∈ sr_tbl) (ht : sr_tk (sr_ty c k) = 2) (hf : 50 * c + k = f) {r : Option Nat} {K : Option Nat → Option (X × AH)}
    (kk : ∀ w, sr_T G d own cc nL ret ini inj (pc + 3) L (vR w :: st) h (K w)) : sr_T G d own cc nL ret ini inj pc L (vR r :: st) h (cGR h c f r K) := by
  intro x h' hF
  subst hf
  cases r with
  | none => cases hF
  | some a =>
    by_cases hka : (gK h a).1 = c + 1
    · have hF' : K (gR h (50 * c + k) a) = some (x, h') := by rw [← hF]; simp [cGR, hka]
      exact sr_fget (v := .null) hd cf hk hw hka (sv := vR (gR h (50 * c + k) a)) (by unfold sr_fv; rw [ht]; rfl) (kk _) x h' hF'
    · simp [cGR, hka] at hF
theorem sr_u2_ne {α : Type} (f : Nat → Nat → α) {i j x y : Nat} (v : α) (hn : y ≠ j) : u2 f i j v x y = f x y := u2_n f v (fun q => hn q.2)
theorem sr_u2_ne1 {α : Type} (f : Nat → Nat → α) {i j x y : Nat} (v : α) (hn : x ≠ i) : u2 f i j v x y = f x y := u2_n f v (fun q => hn q.1)
theorem sr_ow_I {h : AH} {c k a f : Nat} {v : Int32} (hf : 50 * c + k = f) (ht : sr_tk (sr_ty c k) = 0) : (∀ ci k' b, b ≠ a → sr_fv (pI h f a v) ci k' b = sr_fv h ci k' b) ∧ ∀ k', sr_fv (pI h f a v) c k' a = updV (fun k' => sr_fv h c k' a) k (sr_em (vI v)) k' := by
  subst hf
  refine ⟨fun ci k' b hb => sr_v_at (sr_u2_ne _ _ hb) rfl rfl, fun k' => ?_⟩
  unfold updV
  by_cases hk : k' = k
  · subst hk
    rw [if_pos rfl]
    unfold sr_fv
    rw [ht]
    show Value.int (u2 h.1 _ _ _ _ _) = _
    rw [u2_s]
    rfl
  · rw [if_neg hk]
    exact sr_v_at (sr_u2_ne1 _ _ (by omega)) rfl rfl
theorem sr_ow_L {h : AH} {c k a f : Nat} {v : Int64} (hf : 50 * c + k = f) (ht : sr_tk (sr_ty c k) = 1) : (∀ ci k' b, b ≠ a → sr_fv (pL h f a v) ci k' b = sr_fv h ci k' b) ∧ ∀ k', sr_fv (pL h f a v) c k' a = updV (fun k' => sr_fv h c k' a) k (sr_em (vL v)) k' := by
  subst hf
  refine ⟨fun ci k' b hb => sr_v_at rfl (sr_u2_ne _ _ hb) rfl, fun k' => ?_⟩
  unfold updV
  by_cases hk : k' = k
  · subst hk
    rw [if_pos rfl]
    unfold sr_fv
    rw [ht]
    show Value.long (u2 h.2.1 _ _ _ _ _) = _
    rw [u2_s]
    rfl
  · rw [if_neg hk]
    exact sr_v_at rfl (sr_u2_ne1 _ _ (by omega)) rfl
theorem sr_ow_R {h : AH} {c k a f : Nat} {v : Option Nat} (hf : 50 * c + k = f) (ht : sr_tk (sr_ty c k) = 2) : (∀ ci k' b, b ≠ a → sr_fv (pR h f a v) ci k' b = sr_fv h ci k' b) ∧ ∀ k', sr_fv (pR h f a v) c k' a = updV (fun k' => sr_fv h c k' a) k (sr_em (vR v)) k' := by
  subst hf
  refine ⟨fun ci k' b hb => sr_v_at rfl rfl (sr_u2_ne _ _ hb), fun k' => ?_⟩
  unfold updV
  by_cases hk : k' = k
  · subst hk
    rw [if_pos rfl]
    unfold sr_fv
    rw [ht]
    show va_rf (u2 h.2.2.1 _ _ _ _ _) = _
    rw [u2_s]
    rfl
  · rw [if_neg hk]
    exact sr_v_at rfl rfl (sr_u2_ne1 _ _ (by omega))
theorem tq_putI {C : String} {T : u_T} {N c f index : Nat} (k : Nat) (hd : decode cc pc = .ok (.putfield index, 3)) (cf : sr_cf c C T N) (hk : k < N) (hw : Cond.fieldLink own index (T k).1 (T k).2.1 (T k).2.2.1 ∈ sr_tbl) (ht : sr_ty c k = .int) (hf : 50 * c + k = f) (hfin : (T k).2.2.2 = false ∨ ((T k).2.2.2 = true ∧ ini = true ∧ (T k).1 = own)) {r : Option Nat} {v : Int32} {K : AH → Option (X × AH)}
    (kk : ∀ h1, sr_T G d own cc nL ret ini inj (pc + 3) L st h1 (K h1)) : sr_T G d own cc nL ret ini inj pc L (vI v :: vR r :: st) h (cPI h c f r v K) := by
  intro x h' hF
  cases r with
  | none => cases hF
  | some a =>
    by_cases hka : (gK h a).1 = c + 1
    · have hF' : K (pI h f a v) = some (x, h') := by rw [← hF]; simp [cPI, hka]
      obtain ⟨o1, o2⟩ := sr_ow_I (h := h) (a := a) (v := v) hf (by rw [ht]; rfl)
      exact sr_fput (h1 := pI h f a v) (sv := vI v) hd cf hk hw hka hfin (by rw [ht]; rfl) (by rw [ht]; rfl) rfl rfl rfl rfl rfl o1 (fun k' _ => o2 k') (kk _) x h' hF'
    · simp [cPI, hka] at hF
/-- a boolean field: 0 or 1 -/
theorem tq_putZ {C : String} {T : u_T} {N c f index : Nat} (k : Nat) (hd : decode cc pc = .ok (.putfield index, 3)) (cf : sr_cf c C T N) (hk : k < N) (hw : Cond.fieldLink own index (T k).1 (T k).2.1 (T k).2.2.1 ∈ sr_tbl) (ht : sr_ty c k = .boolean) (hf : 50 * c + k = f) (hfin : (T k).2.2.2 = false ∨ ((T k).2.2.2 = true ∧ ini = true ∧ (T k).1 = own)) {r : Option Nat} {v : Int32} (hv : v = 0 ∨ v = 1) {K : AH → Option (X × AH)}
    (kk : ∀ h1, sr_T G d own cc nL ret ini inj (pc + 3) L st h1 (K h1)) : sr_T G d own cc nL ret ini inj pc L (vI v :: vR r :: st) h (cPI h c f r v K) := by
  intro x h' hF
  cases r with
  | none => cases hF
  | some a =>
    by_cases hka : (gK h a).1 = c + 1
    · have hF' : K (pI h f a v) = some (x, h') := by rw [← hF]; simp [cPI, hka]
      obtain ⟨o1, o2⟩ := sr_ow_I (h := h) (a := a) (v := v) hf (by rw [ht]; rfl)
      exact sr_fput (h1 := pI h f a v) (sv := vI v) hd cf hk hw hka hfin (by rw [ht]; rcases hv with rfl | rfl <;> rfl) (by rw [ht]; rcases hv with rfl | rfl <;> rfl) rfl rfl rfl rfl rfl o1 (fun k' _ => o2 k') (kk _) x h' hF'
    · simp [cPI, hka] at hF
theorem tq_putL {C : String} {T : u_T} {N c f index : Nat} (k : Nat) (hd : decode cc pc = .ok (.putfield index, 3)) (cf : sr_cf c C T N) (hk : k < N) (hw : Cond.fieldLink own index (T k).1 (T k).2.1 (T k).2.2.1 ∈ sr_tbl) (ht : sr_ty c k = .long) (hf : 50 * c + k = f) (hfin : (T k).2.2.2 = false ∨ ((T k).2.2.2 = true ∧ ini = true ∧ (T k).1 = own)) {r : Option Nat} {v : Int64} {K : AH → Option (X × AH)}
    (kk : ∀ h1, sr_T G d own cc nL ret ini inj (pc + 3) L st h1 (K h1)) : sr_T G d own cc nL ret ini inj pc L (vL v :: vR r :: st) h (cPL h c f r v K) := by
  intro x h' hF
  cases r with
  | none => cases hF
  | some a =>
    by_cases hka : (gK h a).1 = c + 1
    · have hF' : K (pL h f a v) = some (x, h') := by rw [← hF]; simp [cPL, hka]
      obtain ⟨o1, o2⟩ := sr_ow_L (h := h) (a := a) (v := v) hf (by rw [ht]; rfl)
      exact sr_fput (h1 := pL h f a v) (sv := vL v) hd cf hk hw hka hfin (by rw [ht]; rfl) (by rw [ht]; rfl) rfl rfl rfl rfl rfl o1 (fun k' _ => o2 k') (kk _) x h' hF'
    · simp [cPL, hka] at hF
theorem tq_putR {C : String} {T : u_T} {N c f index : Nat} (k : Nat) (hd : decode cc pc = .ok (.putfield index, 3)) (cf : sr_cf c C T N) (hk : k < N) (hw : Cond.fieldLink own index (T k).1 (T k).2.1 (T k).2.2.1 ∈ sr_tbl) (ht : sr_tk (sr_ty c k) = 2) (hf : 50 * c + k = f) (hfin : (T k).2.2.2 = false ∨ ((T k).2.2.2 = true ∧ ini = true ∧ (T k).1 = own)) {r : Option Nat} {v : Option Nat} {K : AH → Option (X × AH)}
    (kk : ∀ h1, sr_T G d own cc nL ret ini inj (pc + 3) L st h1 (K h1)) : sr_T G d own cc nL ret ini inj pc L (vR v :: vR r :: st) h (cPR h c f r v K) := by
  intro x h' hF
  cases r with
  | none => cases hF
  | some a =>
    by_cases hka : (gK h a).1 = c + 1
    · have hF' : K (pR h f a v) = some (x, h') := by rw [← hF]; simp [cPR, hka]
      obtain ⟨o1, o2⟩ := sr_ow_R (h := h) (a := a) (v := v) hf ht
      have hty : (∃ o, sr_ty c k = .object o) ∨ ∃ t, sr_ty c k = .array t := by
        unfold sr_tk at ht
        cases hq : sr_ty c k with
        | object o => exact Or.inl ⟨o, rfl⟩
        | array t => exact Or.inr ⟨t, rfl⟩
        | _ => rw [hq] at ht; simp at ht
      refine sr_fput (h1 := pR h f a v) (sv := vR v) hd cf hk hw hka hfin ?_ ?_ rfl rfl rfl rfl rfl o1 (fun k' _ => o2 k') (kk _) x h' hF'
      · rcases hty with ⟨o, hq⟩ | ⟨t, hq⟩ <;> rw [hq] <;> cases v <;> rfl
      · rcases hty with ⟨o, hq⟩ | ⟨t, hq⟩ <;> rw [hq] <;> cases v <;> rfl
    · simp [cPR, hka] at hF
theorem sr_inb {i : Int32} {n : Nat} (h1 : 0 ≤ i.toInt) (h2 : i.toInt < n) : vp_in i n := vp_in_iff.mpr ⟨h1, h2⟩
theorem sr_ina {i : Int32} {n : Nat} (h1 : 0 ≤ i.toInt) (h2 : i.toInt < n) : i.toNatClampNeg < n := Nat.not_le.mp fun q => (sr_inb h1 h2) (Or.inr q)
/-- int, byte and boolean arrays -/
theorem tq_iald {r : Option Nat} {i : Int32} {K : Int32 → Option (X × AH)} (hd : decode cc pc = .ok (.iaload, 1)) (kk : ∀ w, sr_T G d own cc nL ret ini inj (pc + 1) L (vI w :: st) h (K w)) : sr_T G d own cc nL ret ini inj pc L (vI i :: vR r :: st) h (cAL h 0 r i K) := by
  intro x h' hF
  cases r with
  | none => cases hF
  | some a =>
    by_cases hc : (gK h a).1 = 100 + 0 ∧ 0 ≤ i.toInt ∧ i.toInt < (gK h a).2
    · have hF' : K (gA h a i.toNatClampNeg) = some (x, h') := by rw [← hF]; show _ = if _ then _ else _; rw [if_pos hc]
      obtain ⟨hka, i1, i2⟩ := hc
      refine sr_T.read (fun p e R s m args below meth c' H locs cells slots ls Q C' hR hS _ _ h9 kk => ?_) (kk _) x h' hF'
      have hcell := hR.2.2.2 a 0 hka (by omega)
      exact W.iald (v := .int (gA h a i.toNatClampNeg)) C'.1 C'.2.1 hcell ((C'.2.2.2.2.2.2.2.1.2.1 0 (by omega)).1 _ _) (fun q => by cases q) (by rw [arrV_size]; exact sr_inb i1 i2) (by rw [arrV_read _ _ (sr_ina i1 i2)]; rfl) rfl rfl hd kk
    · simp only [cAL] at hF
      rw [if_neg hc] at hF
      cases hF
theorem tq_bald {r : Option Nat} {i : Int32} {K : Int32 → Option (X × AH)} (hd : decode cc pc = .ok (.baload, 1)) (kk : ∀ w, sr_T G d own cc nL ret ini inj (pc + 1) L (vI w :: st) h (K w)) : sr_T G d own cc nL ret ini inj pc L (vI i :: vR r :: st) h (cAL h 1 r i K) := by
  intro x h' hF
  cases r with
  | none => cases hF
  | some a =>
    by_cases hc : (gK h a).1 = 100 + 1 ∧ 0 ≤ i.toInt ∧ i.toInt < (gK h a).2
    · have hF' : K (gA h a i.toNatClampNeg) = some (x, h') := by rw [← hF]; show _ = if _ then _ else _; rw [if_pos hc]
      obtain ⟨hka, i1, i2⟩ := hc
      refine sr_T.read (fun p e R s m args below meth c' H locs cells slots ls Q C' hR hS _ _ h9 kk => ?_) (kk _) x h' hF'
      have hcell := hR.2.2.2 a 1 hka (by omega)
      exact W.bald (v := .int (gA h a i.toNatClampNeg)) C'.1 C'.2.1 hcell ((C'.2.2.2.2.2.2.2.1.2.1 1 (by omega)).1 _ _) (fun q => by cases q) (by rw [arrV_size]; exact sr_inb i1 i2) (by rw [arrV_read _ _ (sr_ina i1 i2)]; rfl) rfl rfl hd kk
    · simp only [cAL] at hF
      rw [if_neg hc] at hF
      cases hF
theorem tq_zald {r : Option Nat} {i : Int32} {K : Int32 → Option (X × AH)} (hd : decode cc pc = .ok (.baload, 1)) (kk : ∀ w, sr_T G d own cc nL ret ini inj (pc + 1) L (vI w :: st) h (K w)) : sr_T G d own cc nL ret ini inj pc L (vI i :: vR r :: st) h (cAL h 2 r i K) := by
  intro x h' hF
  cases r with
  | none => cases hF
  | some a =>
    by_cases hc : (gK h a).1 = 100 + 2 ∧ 0 ≤ i.toInt ∧ i.toInt < (gK h a).2
    · have hF' : K (gA h a i.toNatClampNeg) = some (x, h') := by rw [← hF]; show _ = if _ then _ else _; rw [if_pos hc]
      obtain ⟨hka, i1, i2⟩ := hc
      refine sr_T.read (fun p e R s m args below meth c' H locs cells slots ls Q C' hR hS _ _ h9 kk => ?_) (kk _) x h' hF'
      have hcell := hR.2.2.2 a 2 hka (by omega)
      exact W.zald (v := .int (gA h a i.toNatClampNeg)) C'.1 C'.2.1 hcell ((C'.2.2.2.2.2.2.2.1.2.1 2 (by omega)).1 _ _) (fun q => by cases q) (by rw [arrV_size]; exact sr_inb i1 i2) (by rw [arrV_read _ _ (sr_ina i1 i2)]; rfl) rfl rfl hd kk
    · simp only [cAL] at hF
      rw [if_neg hc] at hF
      cases hF
theorem sr_aty_ref {t : Nat} (h : 3 ≤ t) : (sr_aty t).isReference = true := by
  unfold sr_aty
  split <;> first | omega | rfl
theorem tq_aald {r : Option Nat} {i : Int32} {t : Nat} {K : Option Nat → Option (X × AH)} (ht : 3 ≤ t ∧ t < 5) (hd : decode cc pc = .ok (.aaload, 1)) (kk : ∀ w, sr_T G d own cc nL ret ini inj (pc + 1) L (vR w :: st) h (K w)) : sr_T G d own cc nL ret ini inj pc L (vI i :: vR r :: st) h (cQL h t r i K) := by
  intro x h' hF
  cases r with
  | none => cases hF
  | some a =>
    by_cases hc : (gK h a).1 = 100 + t ∧ 0 ≤ i.toInt ∧ i.toInt < (gK h a).2
    · have hF' : K (gQ h a i.toNatClampNeg) = some (x, h') := by rw [← hF]; show _ = if _ then _ else _; rw [if_pos hc]
      obtain ⟨hka, i1, i2⟩ := hc
      refine sr_T.read (fun p e R s m args below meth c' H locs cells slots ls Q C' hR hS _ _ h9 kk => ?_) (kk _) x h' hF'
      have hcell := hR.2.2.2 a t hka ht.2
      exact W.aald (v := va_rf (gQ h a i.toNatClampNeg)) C'.1 C'.2.1 hcell ((C'.2.2.2.2.2.2.2.1.2.1 t ht.2).1 _ _) (sr_aty_ref ht.1) (fun q => by cases q) (by rw [arrV_size]; exact sr_inb i1 i2) (by rw [arrV_read _ _ (sr_ina i1 i2)]; unfold sr_ev; rw [if_neg (by omega)]) rfl rfl hd kk
    · simp only [cQL] at hF
      rw [if_neg hc] at hF
      cases hF
theorem tq_alen {r : Option Nat} {t : Nat} {K : Int32 → Option (X × AH)} (ht : t < 5) (hd : decode cc pc = .ok (.arraylength, 1)) (kk : ∀ w, sr_T G d own cc nL ret ini inj (pc + 1) L (vI w :: st) h (K w)) : sr_T G d own cc nL ret ini inj pc L (vR r :: st) h (cAN h t r K) := by
  intro x h' hF
  cases r with
  | none => cases hF
  | some a =>
    by_cases hc : (gK h a).1 = 100 + t
    · have hF' : K (nI (gK h a).2) = some (x, h') := by rw [← hF]; show _ = if _ then _ else _; rw [if_pos hc]
      refine sr_T.read (fun p e R s m args below meth c' H locs cells slots ls Q C' hR hS _ _ h9 kk => ?_) (kk _) x h' hF'
      have hcell := hR.2.2.2 a t hc ht
      exact W.alen (n := nI (gK h a).2) C'.1 C'.2.1 hcell ((C'.2.2.2.2.2.2.2.1.2.1 t ht).1 _ _) (by rw [arrV_size] <;> rfl) rfl rfl hd kk
    · simp only [cAN] at hF
      rw [if_neg hc] at hF
      cases hF
end FIELDS
end
section
section STORES
variable {G : sr_G} {d : Nat} {own : String} {cc : ByteArray} {nL : Nat} {ret : Option FieldType} {ini : Bool} {X : Type} {inj : sr_Z X} {pc : Nat} {L : List (Nat × sr_V)} {st : List sr_V} {h : AH} {F : Option (X × AH)}
theorem sr_apI {G : sr_G} {h : AH} {H H1 : Heap} {a t j : Nat} {v : Int32} (hR : sr_Rep G h H) (hka : (gK h a).1 = 100 + t) (ht : t < 3) (e : H1[a]? = some ((arrV (G.2.2.1 t) (gK h a).2 (fun j => sr_ev h t a j)).setSlot j (.int v))) (e1 : H1.size = H.size) (e3 : ∀ q, q ≠ a → H1[q]? = H[q]?) : sr_Rep G (pA h a j v) H1 := by
  refine hR.aput hka (by omega) e1 e3 rfl rfl rfl rfl rfl (fun t' i b hb => ?_) ?_
  · unfold sr_ev
    have q1 : gA (pA h a j v) b i = gA h b i := sr_u2_ne1 _ _ hb
    have q2 : gQ (pA h a j v) b i = gQ h b i := rfl
    rw [q1, q2]
  · rw [e, arrV_store]
    congr 2
    funext i
    unfold updV sr_ev
    dsimp only
    rw [if_pos ht, if_pos ht]
    by_cases hij : i = j
    · subst hij
      rw [if_pos rfl]
      show _ = Value.int (u2 h.2.2.2.1 _ _ _ _ _)
      rw [u2_s]
    · rw [if_neg hij]
      show _ = Value.int (u2 h.2.2.2.1 _ _ _ _ _)
      rw [sr_u2_ne _ _ hij]
      rfl
theorem sr_apQ {G : sr_G} {h : AH} {H H1 : Heap} {a t j b : Nat} (hR : sr_Rep G h H) (hka : (gK h a).1 = 100 + t) (ht : 3 ≤ t ∧ t < 5) (e : H1[a]? = some ((arrV (G.2.2.1 t) (gK h a).2 (fun j => sr_ev h t a j)).setSlot j (.ref b))) (e1 : H1.size = H.size) (e3 : ∀ q, q ≠ a → H1[q]? = H[q]?) : sr_Rep G (pQ h a j (some b)) H1 := by
  refine hR.aput hka ht.2 e1 e3 rfl rfl rfl rfl rfl (fun t' i b' hb => ?_) ?_
  · unfold sr_ev
    have q1 : gA (pQ h a j (some b)) b' i = gA h b' i := rfl
    have q2 : gQ (pQ h a j (some b)) b' i = gQ h b' i := sr_u2_ne1 _ _ hb
    rw [q1, q2]
  · rw [e, arrV_store]
    congr 2
    funext i
    unfold updV sr_ev
    dsimp only
    have h3 : ¬ t < 3 := by omega
    rw [if_neg h3, if_neg h3]
    by_cases hij : i = j
    · subst hij
      rw [if_pos rfl]
      show _ = va_rf (u2 h.2.2.2.2.1 _ _ _ _ _)
      rw [u2_s]
      rfl
    · rw [if_neg hij]
      show _ = va_rf (u2 h.2.2.2.2.1 _ _ _ _ _)
      rw [sr_u2_ne _ _ hij]
      rfl
theorem tq_iast {r : Option Nat} {i v : Int32} {K : AH → Option (X × AH)} (hd : decode cc pc = .ok (.iastore, 1)) (kk : ∀ h1, sr_T G d own cc nL ret ini inj (pc + 1) L st h1 (K h1)) : sr_T G d own cc nL ret ini inj pc L (vI v :: vI i :: vR r :: st) h (cAS h 0 r i v K) := by
  intro x h' hF
  cases r with
  | none => cases hF
  | some a =>
    by_cases hc : (gK h a).1 = 100 + 0 ∧ 0 ≤ i.toInt ∧ i.toInt < (gK h a).2
    · have hF' : K (pA h a i.toNatClampNeg (vp_nar (sr_aty 0) v)) = some (x, h') := by rw [← hF]; show _ = if _ then _ else _; rw [if_pos hc]
      obtain ⟨hka, i1, i2⟩ := hc
      refine sr_T.write (h := h) (h1 := pA h a i.toNatClampNeg (vp_nar (sr_aty 0) v)) (Nat.le_refl _) (Nat.le_refl _) (fun p e R s m args below meth c' H locs cells slots ls Q C' hR hS _ _ kk => ?_) (kk _) x h' hF'
      have hcell := hR.2.2.2 a 0 hka (by omega)
      refine W.iast C'.1 C'.2.1 hcell ((C'.2.2.2.2.2.2.2.1.2.1 0 (by omega)).1 _ _) (fun q => by cases q) (by rw [arrV_size]; exact sr_inb i1 i2) rfl rfl hd (fun H' e1 e2 e3 => ?_)
      have hP := kk H' (locs ++ [⟨a, i.toNatClampNeg⟩]) (sr_apI hR hka (by omega) e1 e2 e3) (hS.put e2 e3 (hR.2.1 a (by omega)))
      rw [show gN (pA h a i.toNatClampNeg (vp_nar (sr_aty 0) v)) - gN h = 0 from Nat.sub_self _, show gS (pA h a i.toNatClampNeg (vp_nar (sr_aty 0) v)) - gS h = 0 from Nat.sub_self _] at hP
      exact hP
    · simp only [cAS] at hF
      rw [if_neg hc] at hF
      cases hF
theorem tq_bast {r : Option Nat} {i v : Int32} {K : AH → Option (X × AH)} (hd : decode cc pc = .ok (.bastore, 1)) (kk : ∀ h1, sr_T G d own cc nL ret ini inj (pc + 1) L st h1 (K h1)) : sr_T G d own cc nL ret ini inj pc L (vI v :: vI i :: vR r :: st) h (cAS h 1 r i v K) := by
  intro x h' hF
  cases r with
  | none => cases hF
  | some a =>
    by_cases hc : (gK h a).1 = 100 + 1 ∧ 0 ≤ i.toInt ∧ i.toInt < (gK h a).2
    · have hF' : K (pA h a i.toNatClampNeg (vp_nar (sr_aty 1) v)) = some (x, h') := by rw [← hF]; show _ = if _ then _ else _; rw [if_pos hc]
      obtain ⟨hka, i1, i2⟩ := hc
      refine sr_T.write (h := h) (h1 := pA h a i.toNatClampNeg (vp_nar (sr_aty 1) v)) (Nat.le_refl _) (Nat.le_refl _) (fun p e R s m args below meth c' H locs cells slots ls Q C' hR hS _ _ kk => ?_) (kk _) x h' hF'
      have hcell := hR.2.2.2 a 1 hka (by omega)
      refine W.bast C'.1 C'.2.1 hcell ((C'.2.2.2.2.2.2.2.1.2.1 1 (by omega)).1 _ _) (fun q => by cases q) (by rw [arrV_size]; exact sr_inb i1 i2) rfl rfl hd (fun H' e1 e2 e3 => ?_)
      have hP := kk H' (locs ++ [⟨a, i.toNatClampNeg⟩]) (sr_apI hR hka (by omega) e1 e2 e3) (hS.put e2 e3 (hR.2.1 a (by omega)))
      rw [show gN (pA h a i.toNatClampNeg (vp_nar (sr_aty 1) v)) - gN h = 0 from Nat.sub_self _, show gS (pA h a i.toNatClampNeg (vp_nar (sr_aty 1) v)) - gS h = 0 from Nat.sub_self _] at hP
      exact hP
    · simp only [cAS] at hF
      rw [if_neg hc] at hF
      cases hF
theorem tq_zast {r : Option Nat} {i v : Int32} {K : AH → Option (X × AH)} (hd : decode cc pc = .ok (.bastore, 1)) (kk : ∀ h1, sr_T G d own cc nL ret ini inj (pc + 1) L st h1 (K h1)) : sr_T G d own cc nL ret ini inj pc L (vI v :: vI i :: vR r :: st) h (cAS h 2 r i v K) := by
  intro x h' hF
  cases r with
  | none => cases hF
  | some a =>
    by_cases hc : (gK h a).1 = 100 + 2 ∧ 0 ≤ i.toInt ∧ i.toInt < (gK h a).2
    · have hF' : K (pA h a i.toNatClampNeg (vp_nar (sr_aty 2) v)) = some (x, h') := by rw [← hF]; show _ = if _ then _ else _; rw [if_pos hc]
      obtain ⟨hka, i1, i2⟩ := hc
      refine sr_T.write (h := h) (h1 := pA h a i.toNatClampNeg (vp_nar (sr_aty 2) v)) (Nat.le_refl _) (Nat.le_refl _) (fun p e R s m args below meth c' H locs cells slots ls Q C' hR hS _ _ kk => ?_) (kk _) x h' hF'
      have hcell := hR.2.2.2 a 2 hka (by omega)
      refine W.zast C'.1 C'.2.1 hcell ((C'.2.2.2.2.2.2.2.1.2.1 2 (by omega)).1 _ _) (fun q => by cases q) (by rw [arrV_size]; exact sr_inb i1 i2) rfl rfl hd (fun H' e1 e2 e3 => ?_)
      have hP := kk H' (locs ++ [⟨a, i.toNatClampNeg⟩]) (sr_apI hR hka (by omega) e1 e2 e3) (hS.put e2 e3 (hR.2.1 a (by omega)))
      rw [show gN (pA h a i.toNatClampNeg (vp_nar (sr_aty 2) v)) - gN h = 0 from Nat.sub_self _, show gS (pA h a i.toNatClampNeg (vp_nar (sr_aty 2) v)) - gS h = 0 from Nat.sub_self _] at hP
      exact hP
    · simp only [cAS] at hF
      rw [if_neg hc] at hF
      cases hF
/-- an object into an array of its class -/
theorem tq_aast {C : String} {T : u_T} {N c t : Nat} {r v : Option Nat} {i : Int32} {K : AH → Option (X × AH)} (ht : 3 ≤ t ∧ t < 5) (cf : sr_cf c C T N) (hty : sr_aty t = .object C) (hd : decode cc pc = .ok (.aastore, 1)) (kk : ∀ h1, sr_T G d own cc nL ret ini inj (pc + 1) L st h1 (K h1)) : sr_T G d own cc nL ret ini inj pc L (vR v :: vI i :: vR r :: st) h (cQS h t c r i v K) := by
  intro x h' hF
  cases r with
  | none => cases v <;> cases hF
  | some a =>
    cases v with
    | none => cases hF
    | some b =>
      by_cases hc : ((gK h a).1 = 100 + t ∧ 0 ≤ i.toInt ∧ i.toInt < (gK h a).2) ∧ (gK h b).1 = c + 1
      · have hF' : K (pQ h a i.toNatClampNeg (some b)) = some (x, h') := by rw [← hF]; show _ = if _ then _ else _; rw [if_pos hc]
        obtain ⟨⟨hka, i1, i2⟩, hkb⟩ := hc
        refine sr_T.write (h := h) (h1 := pQ h a i.toNatClampNeg (some b)) (Nat.le_refl _) (Nat.le_refl _) (fun p e R s m args below meth c' H locs cells slots ls Q C' hR hS _ _ kk => ?_) (kk _) x h' hF'
        obtain ⟨hx, hb, -, -, hown, hts, -, hK, -⟩ := C'
        have hcell := hR.2.2.2 a t hka ht.2
        obtain ⟨cellV, g1, g2, g3, -⟩ := hR.2.2.1 b c _ hkb cf.1
        have hcls := (hK.1.1 c _ cf.1).2
        have hra := (hK.2.1 t ht.2).2
        rw [hty] at hra
        obtain ⟨kA, comp, k1, k2, k3, -⟩ := hra
        have hcomp : comp = G.2.1.1 c := Option.some.inj (k3.symm.trans hcls.1)
        subst hcomp
        obtain ⟨kC, hkC, -⟩ := hcls.2
        have h0 : ¬ i < 0 := fun q => sr_inb i1 i2 (Or.inl q)
        refine W.aast hx hb hcell (fun q z => by cases z) (fun z => by cases z) k1 k2 rfl hkC ⟨h0, by rw [arrV_size]; exact sr_ina i1 i2⟩ g1 (fun q z => by rw [g3] at z; cases z) (by rw [g2]; exact hkC) (by rw [g2]; exact va_assign hcls) rfl rfl hd fun H1 e1 e2 e3 => ?_
        have hP := kk H1 (locs ++ [⟨a, i.toNatClampNeg⟩]) (sr_apQ hR hka ht e1 e2 e3) (hS.put e2 e3 (hR.2.1 a (by omega)))
        rw [show gN (pQ h a i.toNatClampNeg (some b)) - gN h = 0 from Nat.sub_self _, show gS (pQ h a i.toNatClampNeg (some b)) - gS h = 0 from Nat.sub_self _] at hP
        exact hP
      · simp only [cQS] at hF
        rw [if_neg hc] at hF
        cases hF
def sr_dv (k : Nat) : Value := match k with
  | 0 => .int 0
  | 1 => .long 0
  | _ => .null
theorem tq_new {C : String} {T : u_T} {N c index : Nat} {K : Option Nat → AH → Option (X × AH)} (hd : decode cc pc = .ok (.new index, 3)) (cf : sr_cf c C T N) (hdv : ∀ k, k < N → defaultValue (sr_ty c k) = sr_dv (sr_tk (sr_ty c k))) (hw : Cond.classLink own index C ∈ sr_tbl) (hi : Cond.instantiable C N ∈ sr_tbl) (hj : Cond.initialized C ∈ sr_tbl)
    (kk : ∀ w h1, sr_T G d own cc nL ret ini inj (pc + 3) L (vR w :: st) h1 (K w h1)) : sr_T G d own cc nL ret ini inj pc L st h (cNO h c N K) := by
  intro x h' hF
  refine sr_T.write (h1 := mkC h (c + 1, 0) N) (Nat.le_succ _) (Nat.le_add_right _ _) (fun p e R s m args below meth c' H locs cells slots ls Q C' hR hS hcl hsl kk => ?_) (kk _ _) x h' hF
  obtain ⟨hx, hb, -, -, hown, hts, -, hK, -⟩ := C'
  have z1 : gN (mkC h (c + 1, 0) N) - gN h = 1 := Nat.add_sub_cancel_left _ _
  have z2 : gS (mkC h (c + 1, 0) N) - gS h = N := Nat.add_sub_cancel_left _ _
  rw [z1] at hcl kk
  rw [z2] at hsl kk
  have hKn := hK.1.1 c _ cf.1
  refine W.newcK hx hb hown (hts _ hw) (hts _ hi) (hts _ hj) rfl hd hcl hsl hKn.2.1 rfl fun H1 kC hkC e1 z1 o1 => ?_
  have hP := kk H1 locs (hR.newO (Nat.le_trans hK.2.2.1 hS.1) cf.1 z1 o1 ?_) ⟨Nat.le_trans hS.1 (by omega), fun q h1 h2 => (o1 q (Nat.lt_of_lt_of_le h1 hS.1)).trans (hS.2.1 q h1 h2), hS.2.2⟩
  · rw [show F0 m (pc + 3) ls (List.map sr_em (vR (some (gN h)) :: st)) = F0 m (pc + 3) ls (.ref H.size :: List.map sr_em st) from by rw [hR.1]; rfl] at hP
    exact hP
  · refine (u_born (sr_ty c) hts cf.2.1 hKn hkC e1 cf.2.2.1).to (fun k hk => ?_)
    rw [hdv k hk]
    have hs : H.size = gN h := hR.1
    unfold sr_fv sr_v
    have q1 : gI (mkC h (c + 1, 0) N) (50 * c + k) H.size = 0 := if_pos hs
    have q2 : gL (mkC h (c + 1, 0) N) (50 * c + k) H.size = 0 := if_pos hs
    have q3 : gR (mkC h (c + 1, 0) N) (50 * c + k) H.size = none := if_pos hs
    rw [q1, q2, q3]
    unfold sr_dv
    rcases sr_tk (sr_ty c k) with _ | _ | _ <;> rfl
theorem sr_cl0 {n : Int32} (h0 : 0 ≤ n.toInt) : ¬ n < 0 := fun q => by
  have := Int32.lt_iff_toInt_lt.mp q
  simp at this
  omega
theorem sr_clN {n : Int32} {b : Nat} (h0 : 0 ≤ n.toInt) (h1 : n.toInt < b) : n.toNatClampNeg < b := sr_ina h0 h1
theorem tq_newa {atype : ArrayType} {n : Int32} {t : Nat} {K : Option Nat → AH → Option (X × AH)} (hd : decode cc pc = .ok (.newarray atype, 2)) (ht : t < 3) (hty : newarray.typeOf atype = sr_aty t) (hw : Cond.arrayClass (newarray.typeOf atype) ∈ sr_tbl)
    (kk : ∀ w h1, sr_T G d own cc nL ret ini inj (pc + 2) L (vR w :: st) h1 (K w h1)) : sr_T G d own cc nL ret ini inj pc L (vI n :: st) h (cNA h t n K) := by
  intro x h' hF
  unfold cNA at hF
  by_cases hc : 0 ≤ n.toInt ∧ n.toInt < 100000
  · rw [if_pos hc] at hF
    refine sr_T.write (h1 := mkC h (100 + t, n.toNatClampNeg) n.toNatClampNeg) (Nat.le_succ _) (Nat.le_add_right _ _) (fun p e R s m args below meth c' H locs cells slots ls Q C' hR hS hcl hsl kk => ?_) (kk _ _) x h' hF
    obtain ⟨hx, hb, -, -, hown, hts, -, hK, -⟩ := C'
    have z1 : gN (mkC h (100 + t, n.toNatClampNeg) n.toNatClampNeg) - gN h = 1 := Nat.add_sub_cancel_left _ _
    have z2 : gS (mkC h (100 + t, n.toNatClampNeg) n.toNatClampNeg) - gS h = n.toNatClampNeg := Nat.add_sub_cancel_left _ _
    rw [z1] at hcl kk
    rw [z2] at hsl kk
    have hlt : n.toNatClampNeg < 100000 := sr_clN (b := 100000) hc.1 (by omega)
    have hcb : componentBytes (newarray.typeOf atype) ≤ 8 := by
      rw [hty]
      rcases t with _ | _ | _ | t
      · decide
      · decide
      · decide
      · omega
    refine va_newaK hx hb (hts _ hw) rfl hd rfl (sr_cl0 hc.1) rfl (Nat.le_trans (Nat.mul_le_mul (Nat.le_of_lt hlt) hcb) (by decide)) hcl hsl rfl (fun H1 cA e1 z1 o1 hao hfc => ?_)
    have hra := (hK.2.1 t (by omega)).2
    rw [hty] at hfc e1
    have hcA : cA = G.2.2.1 t := by
      rcases t with _ | _ | _ | t
      · exact Option.some.inj (hfc.symm.trans hra)
      · exact Option.some.inj (hfc.symm.trans hra)
      · exact Option.some.inj (hfc.symm.trans hra)
      · omega
    subst hcA
    have hP := kk H1 locs (hR.newA (Nat.le_trans hK.2.2.1 hS.1) (by omega) z1 o1 ?_) ⟨Nat.le_trans hS.1 (by omega), fun q h1 h2 => (o1 q (Nat.lt_of_lt_of_le h1 hS.1)).trans (hS.2.1 q h1 h2), hS.2.2⟩
    · rw [show F0 m (pc + 2) ls (List.map sr_em (vR (some (gN h)) :: st)) = F0 m (pc + 2) ls (.ref H.size :: List.map sr_em st) from by rw [hR.1]; rfl] at hP
      exact hP
    · rw [e1]
      congr 2
      funext j
      have hs : H.size = gN h := hR.1
      unfold sr_ev
      have q1 : gA (mkC h (100 + t, n.toNatClampNeg) n.toNatClampNeg) H.size j = 0 := if_pos hs
      rw [if_pos ht, q1]
      rcases t with _ | _ | _ | t
      · rfl
      · rfl
      · rfl
      · omega
  · rw [if_neg hc] at hF
    cases hF
theorem tq_anew {C : String} {index : Nat} {n : Int32} {t : Nat} {K : Option Nat → AH → Option (X × AH)} (hd : decode cc pc = .ok (.anewarray index, 3)) (ht : 3 ≤ t ∧ t < 5) (hty : sr_aty t = .object C) (hw : Cond.classLink own index C ∈ sr_tbl)
    (kk : ∀ w h1, sr_T G d own cc nL ret ini inj (pc + 3) L (vR w :: st) h1 (K w h1)) : sr_T G d own cc nL ret ini inj pc L (vI n :: st) h (cNA h t n K) := by
  intro x h' hF
  unfold cNA at hF
  by_cases hc : 0 ≤ n.toInt ∧ n.toInt < 100000
  · rw [if_pos hc] at hF
    refine sr_T.write (h1 := mkC h (100 + t, n.toNatClampNeg) n.toNatClampNeg) (Nat.le_succ _) (Nat.le_add_right _ _) (fun p e R s m args below meth c' H locs cells slots ls Q C' hR hS hcl hsl kk => ?_) (kk _ _) x h' hF
    obtain ⟨hx, hb, -, -, hown, hts, -, hK, -⟩ := C'
    have z1 : gN (mkC h (100 + t, n.toNatClampNeg) n.toNatClampNeg) - gN h = 1 := Nat.add_sub_cancel_left _ _
    have z2 : gS (mkC h (100 + t, n.toNatClampNeg) n.toNatClampNeg) - gS h = n.toNatClampNeg := Nat.add_sub_cancel_left _ _
    rw [z1] at hcl kk
    rw [z2] at hsl kk
    have hlt : n.toNatClampNeg < 100000 := sr_clN (b := 100000) hc.1 (by omega)
    have hao : va_AO C s := by
      rcases t with _ | _ | _ | _ | _ | t
      · omega
      · omega
      · omega
      · cases hty; exact hK.2.2.2.2.2.1
      · cases hty; exact hK.2.2.2.2.2.2.1
      · omega
    refine W.anew hx hb hown (hts _ hw) hao.use rfl hd rfl (sr_cl0 hc.1) (by omega) hcl hsl (fun cA kA comp f1 f2 f3 f4 => ?_)
    have hra := (hK.2.1 t ht.2).2
    rw [hty] at hra
    obtain ⟨kA', comp', k1, k2, k3, k4⟩ := hra
    have hcA : cA = G.2.2.1 t := Option.some.inj (f1.symm.trans k4)
    subst hcA
    have o1 : ∀ q, q < H.size → (H.push { cls := G.2.2.1 t, slots := Array.replicate n.toNatClampNeg Value.null, vm := .none })[q]? = H[q]? := fun q hq => by
      rw [Array.getElem?_push]
      rw [if_neg (by omega)]
    have hP := kk _ locs (hR.newA (Nat.le_trans hK.2.2.1 hS.1) ht.2 (Array.size_push _) o1 ?_) ⟨Nat.le_trans hS.1 (by rw [Array.size_push]; omega), fun q h1 h2 => (o1 q (Nat.lt_of_lt_of_le h1 hS.1)).trans (hS.2.1 q h1 h2), hS.2.2⟩
    · rw [show F0 m (pc + 3) ls (List.map sr_em (vR (some (gN h)) :: st)) = F0 m (pc + 3) ls (.ref H.size :: List.map sr_em st) from by rw [hR.1]; rfl] at hP
      exact hP
    · rw [Array.getElem?_push, if_pos rfl, arrV_new]
      congr 2
      funext j
      have hs : H.size = gN h := hR.1
      unfold sr_ev
      have q1 : gQ (mkC h (100 + t, n.toNatClampNeg) n.toNatClampNeg) H.size j = none := if_pos hs
      rw [if_neg (by omega), q1]
      rfl
  · rw [if_neg hc] at hF
    cases hF
end STORES
end
section
section INVOKE
variable {G : sr_G} {d : Nat} {own : String} {cc : ByteArray} {nL : Nat} {ret : Option FieldType} {ini : Bool} {X : Type} {inj : sr_Z X} {pc : Nat} {L : List (Nat × sr_V)} {st : List sr_V} {h : AH} {F : Option (X × AH)}
theorem tq_iret {v : Int32} (hret : ret = some .int) (hd : decode cc pc = .ok (.ireturn, 1)) : sr_T G d own cc nL ret ini (sr_M G jI) pc L [vI v] h (some (v, h)) := by
  intro x h' hF
  cases hF
  refine ⟨⟨Nat.le_refl _, Nat.le_refl _⟩, ?_⟩
  intro p e R s m args below meth c n0 s0 H locs ls C h1 h2 h3 h4 h5 h6 h7 h8 h9
  have hlocks : meth.locks = false := C.2.2.2.2.2.2.1
  exact W.iret (v := v) C.1 C.2.1 (by rw [C.2.2.1, hret]) (fun t ht hW => ⟨rfl, by rw [ht]; exact h7, h8.F ht⟩) h8.2.2 hd hlocks
theorem tq_zret {v : Int32} (hret : ret = some .boolean) (hd : decode cc pc = .ok (.ireturn, 1)) : sr_T G d own cc nL ret ini (sr_M G jI) pc L [vI v] h (cZ v (some (v, h))) := by
  intro x h' hF
  unfold cZ at hF
  by_cases hv : v = 0 ∨ v = 1
  · rw [if_pos hv] at hF
    cases hF
    refine ⟨⟨Nat.le_refl _, Nat.le_refl _⟩, ?_⟩
    intro p e R s m args below meth c n0 s0 H locs ls C h1 h2 h3 h4 h5 h6 h7 h8 h9
    have hlocks : meth.locks = false := C.2.2.2.2.2.2.1
    exact W.zret (v := v) (ty := .boolean) C.1 C.2.1 (by rw [C.2.2.1, hret]) (by rcases hv with rfl | rfl <;> rfl) (fun t ht hW => ⟨rfl, by rw [ht]; exact h7, h8.F ht⟩) h8.2.2 hd hlocks
  · rw [if_neg hv] at hF
    cases hF
theorem tq_lret {v : Int64} (hret : ret = some .long) (hd : decode cc pc = .ok (.lreturn, 1)) : sr_T G d own cc nL ret ini (sr_M G jL) pc L [vL v] h (some (v, h)) := by
  intro x h' hF
  cases hF
  refine ⟨⟨Nat.le_refl _, Nat.le_refl _⟩, ?_⟩
  intro p e R s m args below meth c n0 s0 H locs ls C h1 h2 h3 h4 h5 h6 h7 h8 h9
  have hlocks : meth.locks = false := C.2.2.2.2.2.2.1
  exact W.lret (v := v) C.1 C.2.1 (by rw [C.2.2.1, hret]) (fun t ht hW => ⟨rfl, by rw [ht]; exact h7, h8.F ht⟩) h8.2.2 hd hlocks
theorem tq_aret {v : Option Nat} {o : String} (hret : ret = some (.object o)) (hd : decode cc pc = .ok (.areturn, 1)) : sr_T G d own cc nL ret ini (sr_M G jR) pc L [vR v] h (some (v, h)) := by
  intro x h' hF
  cases hF
  refine ⟨⟨Nat.le_refl _, Nat.le_refl _⟩, ?_⟩
  intro p e R s m args below meth c n0 s0 H locs ls C h1 h2 h3 h4 h5 h6 h7 h8 h9
  have hlocks : meth.locks = false := C.2.2.2.2.2.2.1
  refine W.aret (v := va_rf v) (rt := .object o) C.1 C.2.1 (by rw [C.2.2.1, hret]) (Or.inl ⟨o, rfl⟩) ?_ (fun t ht hW => ⟨rfl, by rw [ht]; exact h7, h8.F ht⟩) h8.2.2 hd hlocks
  cases v with
  | none => exact Or.inl rfl
  | some a => exact Or.inr ⟨a, rfl⟩
theorem tq_vret (hret : ret = none) (hd : decode cc pc = .ok (.return_, 1)) : sr_T G d own cc nL ret ini (sr_M G jV) pc L [] h (some ((), h)) := by
  intro x h' hF
  cases hF
  refine ⟨⟨Nat.le_refl _, Nat.le_refl _⟩, ?_⟩
  intro p e R s m args below meth c n0 s0 H locs ls C h1 h2 h3 h4 h5 h6 h7 h8 h9
  have hlocks : meth.locks = false := C.2.2.2.2.2.2.1
  exact W.vret C.1 C.2.1 (by rw [C.2.2.1, hret]) (fun t ht hW => ⟨rfl, by rw [ht]; exact h7, h8.F ht⟩) h8.2.2 hd hlocks
/-- the words that a frame's other operands take -/
def sr_rw (l : List sr_V) : Nat := match l with
  | [] => 0
  | v :: l => (match sr_c2 v with
    | true => 2
    | false => 1) + sr_rw l
theorem sr_rw_eq (l : List sr_V) : ((l.map sr_em).map fun v => v.category).sum = sr_rw l := by
  induction l with
  | nil => rfl
  | cons v l ih =>
    rw [List.map_cons, List.map_cons, List.sum_cons, ih]
    show _ = (match sr_c2 v with
      | true => 2
      | false => 1) + sr_rw l
    congr 1
    have hq := sr_c2_eq v
    rcases lv_cat (sr_em v) with hc | hc
    · rw [hc] at hq ⊢
      rw [← hq]
      rfl
    · rw [hc] at hq ⊢
      rw [← hq]
      rfl
theorem sr_after {p : Program} {e : Env} {R : Room} {s : State} {m : MethodId} {args : Array Value} {below : List Frame} {meth : Method} {c : Code} {H : Heap} {locs : List Loc} {cells slots mc ms : Nat} {Q : State → Prop} {ls : Array Slot} {stv restv : List Value} {Y : Type} {injY : Y → Option sr_V} {y0 : Y} {h1 : AH} {a : Array Value}
    (hr : va_Run p G.1 e R s m args below meth c H locs cells slots mc ms (F0 m pc ls stv) restv (sr_Q G injY y0 h1 a) (sr_A G)) (hS : va_S (sr_A G) s.heap H locs)
    (kk : ∀ (H1 : Heap) (locs1 : List Loc), sr_Rep G h1 H1 → va_S (sr_A G) s.heap H1 locs1 → W p G.1 e R s m args below meth c H1 locs1 (cells + mc) (slots + ms) Q (F0 m (pc + 3) ls (((injY y0).map sr_em).toList ++ restv))) : W p G.1 e R s m args below meth c H locs cells slots Q (F0 m pc ls stv) := by
  intro T hT X
  obtain ⟨v, st₀, t, T', L, h0, X', hL, e1, e2, ⟨hv, hp, hz, hk⟩, st⟩ := hr T hT X
  have hv' : v = (injY y0).map sr_em := Outcome.returned.inj hv
  subst hv'
  rw [h0] at hz hk
  obtain ⟨t2, a1, b1⟩ := kk T'.heap (locs ++ L) (by rw [e1]; exact hp)
    ⟨Nat.le_trans hS.1 (by rw [e1]; exact hz), fun q h1 h2 => by rw [e1, hk q (Nat.lt_of_lt_of_le h1 hS.1) h2]; exact hS.2.1 q h1 h2, fun q hq => by
      rcases List.mem_append.mp hq with h | h
      · exact hS.2.2 q h
      · exact hL q h⟩ T' rfl X'
  exact ⟨t2, st t2 a1, b1⟩
theorem sr_blind (av : List sr_V) (h : AH) : FrameBlind (va_Pc (av.map sr_em) (fun U => sr_Rep G h U.heap ∧ sr_K G U)) := fun _ _ _ _ q => ⟨q.1, q.2.1, q.2.2.same rfl rfl⟩
/-- what a caller must know of a method -/
def sr_mb (y : MethodName) (cy : ByteArray) (nLy : Nat) (rety : Option FieldType) (n : Nat) : Prop :=
  Cond.initialized y.cls ∈ sr_tbl ∧ Cond.code y cy nLy rety ∈ sr_tbl ∧ (y.cls ≠ "java/lang/invoke/MethodHandle" ∧ y.cls ≠ "java/lang/invoke/VarHandle" ∧ (parseMethodDescriptor y.desc).map (fun d => d.parameters.length) = some n) ∧ nLy ≤ 40
theorem sr_gw {y : MethodName} {cy : ByteArray} {nLy : Nat} {rety : Option FieldType} (hm : Cond.code y cy nLy rety ∈ sr_tbl) : GoodIn sr_tbl (Cond.code y cy nLy rety :: sr_tbl) := fun w hw => (List.mem_cons.mp hw).elim (fun q => by rw [q]; exact sr_good _ hm) (sr_good w)
/-- the part that all calls share: what comes behind it -/
theorem sr_T.call {Y : Type} {injY : Y → Option sr_V} {x : Option (Y × AH)} {K : Y → AH → Option (X × AH)} {d' nLy n : Nat} {y : MethodName} {cy : ByteArray} {rety : Option FieldType} {av rest : List sr_V} (hE : sr_E G d' y cy nLy rety injY av h x) (hdd : d' + 1 ≤ d) (hm : sr_mb y cy nLy rety n)
    (hrun : ∀ (y0 : Y) (h1 : AH) (p : Program) (e : Env) (R : Room) (s : State) (m : MethodId) (args : Array Value) (below : List Frame) (meth : Method) (c : Code) (H : Heap) (locs : List Loc) (cells slots : Nat) (ls : Array Slot), sr_Cx G own cc nL ret ini p s m args meth c → sr_Rep G h H → va_S (sr_A G) s.heap H locs → lv_has ls nL (sr_el L) →
      (Met G.1 y (Cond.code y cy nLy rety :: sr_tbl) { frames := d', cells := gN h1 - gN h, slots := gS h1 - gS h, locals := 64 * d' } (va_Pc (av.map sr_em) (fun U => sr_Rep G h U.heap ∧ sr_K G U)) (sr_Q G injY y0 h1) (gN h1 - gN h) (gS h1 - gS h) (sr_A G)) →
      (d' + 1 ≤ R.frames ∧ 8 + (nLy + 11) + 64 * d' ≤ R.locals) → (cells + (gN h1 - gN h) ≤ R.cells ∧ slots + (gS h1 - gS h) ≤ R.slots) → (∀ U : State, U.heap = H → s.WarmedH U.vm → va_Pc (av.map sr_em) (fun U => sr_Rep G h U.heap ∧ sr_K G U) (av.map sr_em).toArray U) →
      va_Run p G.1 e R s m args below meth c H locs cells slots (gN h1 - gN h) (gS h1 - gS h) (F0 m pc ls (st.map sr_em)) (rest.map sr_em) (sr_Q G injY y0 h1 (av.map sr_em).toArray) (sr_A G))
    (kk : ∀ (y0 : Y) (h1 : AH), sr_T G d own cc nL ret ini inj (pc + 3) L ((injY y0).toList ++ rest) h1 (K y0 h1)) : sr_T G d own cc nL ret ini inj pc L st h (cCL x K) := by
  intro x0 h' hF
  cases x with
  | none => cases hF
  | some q =>
    obtain ⟨y0, h1⟩ := q
    have hF' : K y0 h1 = some (x0, h') := hF
    obtain ⟨⟨m1, m2⟩, hM⟩ := hE y0 h1 rfl
    obtain ⟨⟨k0, k1⟩, k2⟩ := kk y0 h1 x0 h' hF'
    refine ⟨⟨Nat.le_trans m1 k0, Nat.le_trans m2 k1⟩, ?_⟩
    intro p e R s m args below meth c n0 s0 H locs ls C h1' h2 h3 h4 h5 h6 h7 h8 h9
    have e1 : gN h - n0 + (gN h1 - gN h) = gN h1 - n0 := by omega
    have e2 : gS h - s0 + (gS h1 - gS h) = gS h1 - s0 := by omega
    have hnl := hm.2.2.2
    have hK : sr_K G s := C.2.2.2.2.2.2.2.1
    refine sr_after (hrun y0 h1 p e R s m args below meth c H locs _ _ ls C h7 h8 h9 hM ⟨by omega, by omega⟩ ⟨by omega, by omega⟩ (fun U hU hW => ⟨rfl, by rw [hU]; exact h7, hK.go hW (by rw [hU]; exact h8.1) (fun q q1 q2 => by rw [hU]; exact h8.2.1 q q1 q2)⟩)) h8 (fun H1 locs1 q1 q2 => ?_)
    rw [e1, e2]
    have hst : ((injY y0).map sr_em).toList ++ rest.map sr_em = ((injY y0).toList ++ rest).map sr_em := by
      rw [List.map_append]
      cases injY y0 <;> rfl
    rw [hst]
    exact k2 p e R s m args below meth c n0 s0 H1 locs1 ls C h1' h2 (by omega) (by omega) h5 h6 q1 q2 h9
/-- a call on an object of class c -/
def cCV {Y Z : Type} (h : AH) (c : Nat) (r : Option Nat) (x : Option (Z × AH)) (K : Z → AH → Option Y) : Option Y := match r with
  | none => none
  | some a => if (gK h a).1 = c + 1 then cCL x K else none
/-- a null check -/
def cNN {Y : Type} (r : Option Nat) (K : Option Y) : Option Y := match r with
  | none => none
  | some _ => K
theorem sr_onobj {c : Nat} {r : Option Nat} {Z : Type} {x : Option (Z × AH)} {K : Z → AH → Option (X × AH)} (kk : ∀ a, r = some a → (gK h a).1 = c + 1 → sr_T G d own cc nL ret ini inj pc L st h (cCL x K)) : sr_T G d own cc nL ret ini inj pc L st h (cCV h c r x K) := by
  intro x0 h' hF
  cases r with
  | none => cases hF
  | some a =>
    by_cases hka : (gK h a).1 = c + 1
    · refine kk a rfl hka x0 h' ?_
      rw [← hF]
      simp [cCV, hka]
    · simp [cCV, hka] at hF
theorem tq_callV {Y : Type} {injY : Y → Option sr_V} {r : Option Nat} {x : Option (Y × AH)} {K : Y → AH → Option (X × AH)} {d' nLy n c N index : Nat} {y : MethodName} {cy : ByteArray} {rety : Option FieldType} {C : String} {T : u_T} {st' : List sr_V} (As rest : List sr_V)
    (hd : decode cc pc = .ok (.invokevirtual index, 3)) (hE : sr_E G d' y cy nLy rety injY (vR r :: As) h x) (hdd : d' + 1 ≤ d) (hm : sr_mb y cy nLy rety n) (cf : sr_cf c C T N) (hC : y.cls = C) (hw : Cond.methodLink own index y ∈ sr_tbl) (hi : Cond.instanceMethod y ∈ sr_tbl) (hsel : Cond.selects C y y ∈ sr_tbl) (hn : As.length = n) (hst : st' = As.reverse ++ vR r :: rest) (hrw : sr_rw rest ≤ 8)
    (kk : ∀ (y0 : Y) (h1 : AH), sr_T G d own cc nL ret ini inj (pc + 3) L ((injY y0).toList ++ rest) h1 (K y0 h1)) : sr_T G d own cc nL ret ini inj pc L st' h (cCV h c r x K) := by
  subst hst
  refine sr_onobj (fun a hra hka => ?_)
  subst hra
  refine sr_T.call (rest := rest) hE hdd hm (fun y0 h1 p e R s m args below meth c' H locs cells slots ls C' hR hS h9 hM hroom hfit hpc => ?_) kk
  obtain ⟨hx, hb, -, hml, hown, hts, -, hK, -⟩ := C'
  obtain ⟨cellB, q1, q2, q3, -⟩ := hR.2.2.1 a c _ hka cf.1
  have hgw : GoodIn sr_tbl (wsV own index C y (Cond.code y cy nLy rety :: sr_tbl)) := by
    intro w hw'
    unfold wsV at hw'
    rcases List.mem_append.mp hw' with q | q
    · simp only [List.mem_cons, List.not_mem_nil, or_false] at q
      rcases q with rfl | rfl | rfl | rfl
      · exact sr_good _ hw
      · exact sr_good _ hi
      · exact sr_good _ hsel
      · exact sr_good _ (hC ▸ hm.1)
    · exact sr_gw hm.2.1 w q
  exact va_runV (As := As.map sr_em) (rest := rest.map sr_em) (b := a) (Ts := sr_tbl) ⟨hx, hb, hml, hown, hts⟩ hM (cwV n hts hgw rfl rfl rfl ⟨hC, hm.2.2.1⟩ hroom) ⟨sr_blind _ _, ⟨cellB, q1, by rw [q3]; rfl, by rw [q2]; exact (hK.1.1 c _ cf.1).2.1⟩, hpc⟩ rfl (by rw [List.length_map]; exact hn) h9.1 (by simp [F0, sr_em, va_rf]) (lv_room (by rw [sr_rw_eq]; exact hrw)) hd hfit
theorem tq_callS {Y : Type} {injY : Y → Option sr_V} {x : Option (Y × AH)} {K : Y → AH → Option (X × AH)} {d' nLy n index : Nat} {y : MethodName} {cy : ByteArray} {rety : Option FieldType} {st' : List sr_V} (As rest : List sr_V)
    (hd : decode cc pc = .ok (.invokestatic index, 3)) (hE : sr_E G d' y cy nLy rety injY As h x) (hdd : d' + 1 ≤ d) (hm : sr_mb y cy nLy rety n) (hw : Cond.methodLink own index y ∈ sr_tbl) (hi : Cond.static y ∈ sr_tbl) (hn : As.length = n) (hst : st' = As.reverse ++ rest) (hrw : sr_rw rest ≤ 8)
    (kk : ∀ (y0 : Y) (h1 : AH), sr_T G d own cc nL ret ini inj (pc + 3) L ((injY y0).toList ++ rest) h1 (K y0 h1)) : sr_T G d own cc nL ret ini inj pc L st' h (cCL x K) := by
  subst hst
  refine sr_T.call (rest := rest) hE hdd hm (fun y0 h1 p e R s m args below meth c' H locs cells slots ls C' hR hS h9 hM hroom hfit hpc => ?_) kk
  obtain ⟨hx, hb, -, hml, hown, hts, -, hK, -⟩ := C'
  have hgw : GoodIn sr_tbl (va_wsS own index y (Cond.code y cy nLy rety :: sr_tbl)) := by
    intro w hw'
    unfold va_wsS at hw'
    rcases List.mem_append.mp hw' with q | q
    · simp only [List.mem_cons, List.not_mem_nil, or_false] at q
      rcases q with rfl | rfl | rfl
      · exact sr_good _ hw
      · exact sr_good _ hi
      · exact sr_good _ hm.1
    · exact sr_gw hm.2.1 w q
  exact va_runS (As := As.map sr_em) (rest := rest.map sr_em) (Ts := sr_tbl) ⟨hx, hb, hml, hown, hts⟩ hM (va_cwS n hts hgw rfl rfl rfl hm.2.2.1 hroom) ⟨sr_blind _ _, hpc⟩ rfl (by rw [List.length_map]; exact hn) h9.1 (by simp [F0]) (lv_room (by rw [sr_rw_eq]; exact hrw)) hd hfit
/-- a private static method of a nest mate -/
theorem tq_callSN {Y : Type} {injY : Y → Option sr_V} {x : Option (Y × AH)} {K : Y → AH → Option (X × AH)} {d' nLy n index : Nat} {y : MethodName} {host : String} {cy : ByteArray} {rety : Option FieldType} {st' : List sr_V} (As rest : List sr_V)
    (hd : decode cc pc = .ok (.invokestatic index, 3)) (hE : sr_E G d' y cy nLy rety injY As h x) (hdd : d' + 1 ≤ d) (hm : sr_mb y cy nLy rety n) (hw : (own, index, y, host) ∈ sr_nws) (hi : Cond.static y ∈ sr_tbl) (hn : As.length = n) (hst : st' = As.reverse ++ rest) (hrw : sr_rw rest ≤ 8)
    (kk : ∀ (y0 : Y) (h1 : AH), sr_T G d own cc nL ret ini inj (pc + 3) L ((injY y0).toList ++ rest) h1 (K y0 h1)) : sr_T G d own cc nL ret ini inj pc L st' h (cCL x K) := by
  subst hst
  refine sr_T.call (rest := rest) hE hdd hm (fun y0 h1 p e R s m args below meth c' H locs cells slots ls C' hR hS h9 hM hroom hfit hpc => ?_) kk
  obtain ⟨hx, hb, -, hml, hown, hts, -, hK, -⟩ := C'
  have hnw : va_Nw (.methodLinkNest own index y host) s := hK.2.2.2.2.1 (own, index, y, host) hw
  exact va_runSN (As := As.map sr_em) (rest := rest.map sr_em) (Ts := sr_tbl) ⟨hx, hb, hml, hown, hts⟩ hM ⟨va_cnB n hts (sr_gw hm.2.1) rfl rfl rfl hnw (hts _ hm.1) hm.2.2.1 hroom, hts _ hi, trivial⟩ ⟨sr_blind _ _, hpc⟩ rfl (by rw [List.length_map]; exact hn) h9.1 (by simp [F0]) (lv_room (by rw [sr_rw_eq]; exact hrw)) hd hfit
/-- constructors -/
theorem tq_callI {r : Option Nat} {x : Option (Unit × AH)} {K : Unit → AH → Option (X × AH)} {d' nLy n c index : Nat} {y : MethodName} {cy : ByteArray} {st' : List sr_V} (As rest : List sr_V)
    (hd : decode cc pc = .ok (.invokespecial index, 3)) (hE : sr_E G d' y cy nLy none jV (vR r :: As) h x) (hdd : d' + 1 ≤ d) (hm : sr_mb y cy nLy none n) (hw : Cond.methodLink own index y ∈ sr_tbl) (hi : Cond.instanceMethod y ∈ sr_tbl) (hy : y.name = "<init>") (hn : As.length = n) (hst : st' = As.reverse ++ vR r :: rest) (hrw : sr_rw rest ≤ 8)
    (kk : ∀ (y0 : Unit) (h1 : AH), sr_T G d own cc nL ret ini inj (pc + 3) L ((jV y0).toList ++ rest) h1 (K y0 h1)) : sr_T G d own cc nL ret ini inj pc L st' h (cCV h c r x K) := by
  subst hst
  refine sr_onobj (fun a hra hka => ?_)
  subst hra
  refine sr_T.call (rest := rest) hE hdd hm (fun y0 h1 p e R s m args below meth c' H locs cells slots ls C' hR hS h9 hM hroom hfit hpc => ?_) kk
  obtain ⟨hx, hb, -, hml, hown, hts, -, hK, -⟩ := C'
  exact va_runI (As := As.map sr_em) (rest := rest.map sr_em) (b := a) (Ts := sr_tbl) ⟨hx, hb, hml, hown, hts⟩ hM (cwI n hts (sr_gw hm.2.1) rfl rfl rfl (hts _ hm.1) (hts _ hw) (hts _ hi) hy hm.2.2.1 hroom) ⟨sr_blind _ _, hpc⟩ rfl (by rw [List.length_map]; exact hn) h9.1 (by simp [F0, sr_em, va_rf]) (lv_room (by rw [sr_rw_eq]; exact hrw)) hd hfit
theorem tq_callIN {r : Option Nat} {x : Option (Unit × AH)} {K : Unit → AH → Option (X × AH)} {d' nLy n c index : Nat} {y : MethodName} {host : String} {cy : ByteArray} {st' : List sr_V} (As rest : List sr_V)
    (hd : decode cc pc = .ok (.invokespecial index, 3)) (hE : sr_E G d' y cy nLy none jV (vR r :: As) h x) (hdd : d' + 1 ≤ d) (hm : sr_mb y cy nLy none n) (hw : (own, index, y, host) ∈ sr_nws) (hi : Cond.instanceMethod y ∈ sr_tbl) (hy : y.name = "<init>") (hn : As.length = n) (hst : st' = As.reverse ++ vR r :: rest) (hrw : sr_rw rest ≤ 8)
    (kk : ∀ (y0 : Unit) (h1 : AH), sr_T G d own cc nL ret ini inj (pc + 3) L ((jV y0).toList ++ rest) h1 (K y0 h1)) : sr_T G d own cc nL ret ini inj pc L st' h (cCV h c r x K) := by
  subst hst
  refine sr_onobj (fun a hra hka => ?_)
  subst hra
  refine sr_T.call (rest := rest) hE hdd hm (fun y0 h1 p e R s m args below meth c' H locs cells slots ls C' hR hS h9 hM hroom hfit hpc => ?_) kk
  obtain ⟨hx, hb, -, hml, hown, hts, -, hK, -⟩ := C'
  have hnw : va_Nw (.methodLinkNest own index y host) s := hK.2.2.2.2.1 (own, index, y, host) hw
  exact va_runIN (As := As.map sr_em) (rest := rest.map sr_em) (b := a) (Ts := sr_tbl) ⟨hx, hb, hml, hown, hts⟩ hM ⟨va_cnB n hts (sr_gw hm.2.1) rfl rfl rfl hnw (hts _ hm.1) hm.2.2.1 hroom, hy, hts _ hi⟩ ⟨sr_blind _ _, hpc⟩ rfl (by rw [List.length_map]; exact hn) h9.1 (by simp [F0, sr_em, va_rf]) (lv_room (by rw [sr_rw_eq]; exact hrw)) hd hfit
/-- Object's own constructor -/
theorem tq_objI {r : Option Nat} {index : Nat} (hd : decode cc pc = .ok (.invokespecial index, 3)) (hdd : 1 ≤ d) (hw : Cond.methodLink own index objectInit ∈ sr_tbl) (hi : Cond.instanceMethod objectInit ∈ sr_tbl) (hc : Cond.code objectInit ⟨#[0xb1]⟩ 1 none ∈ sr_tbl) (hrw : sr_rw st ≤ 8)
    (kk : sr_T G d own cc nL ret ini inj (pc + 3) L st h F) : sr_T G d own cc nL ret ini inj pc L (vR r :: st) h (cNN r F) := by
  intro x h' hF
  cases r with
  | none => cases hF
  | some a =>
    refine sr_T.read (fun p e R s m args below meth c' H locs cells slots ls Q C' hR hS hf hl h9 kk => ?_) kk x h' hF
    obtain ⟨hx, hb, -, hml, hown, hts, -, hK, -⟩ := C'
    refine W.objInit hx hb hown (hts _ hw) (hts _ hi) (hts _ hc) rfl (by rw [hml]; exact h9.1) rfl hd (by omega) ?_ kk
    have := sr_rw_eq st
    show 2 * 0 + _ + 12 ≤ _
    omega
/-- where the arguments stand at a method's entry -/
def sr_args (i : Nat) (l : List sr_V) : List (Nat × sr_V) := match l with
  | [] => []
  | v :: l => (i, v) :: sr_args (match sr_c2 v with
    | true => i + 2
    | false => i + 1) l
theorem sr_args_eq (l : List sr_V) : ∀ i, lv_args i (l.map sr_em) = sr_el (sr_args i l) := by
  induction l with
  | nil => intro i; rfl
  | cons v l ih =>
    intro i
    show (i, sr_em v) :: lv_args (if (sr_em v).category = 2 then i + 2 else i + 1) (l.map sr_em) = (i, sr_em v) :: sr_el (sr_args _ l)
    rw [ih]
    congr 3
    have hq := sr_c2_eq v
    rcases lv_cat (sr_em v) with hc | hc
    · rw [hc] at hq ⊢
      rw [← hq]
      rfl
    · rw [hc] at hq ⊢
      rw [← hq]
      rfl
theorem sr_sl_len (l : List sr_V) : (lg_sl (l.map sr_em)).length = sr_rw l := by
  induction l with
  | nil => rfl
  | cons v l ih =>
    have e1 : lg_sl ((v :: l).map sr_em) = (if (sr_em v).category = 2 then [Slot.val (sr_em v), .second] else [.val (sr_em v)]) ++ lg_sl (l.map sr_em) := by
      simp [lg_sl]
    rw [e1, List.length_append, ih]
    show _ = (match sr_c2 v with
      | true => 2
      | false => 1) + sr_rw l
    congr 1
    have hq := sr_c2_eq v
    rcases lv_cat (sr_em v) with hc | hc
    · rw [hc] at hq ⊢
      rw [← hq]
      rfl
    · rw [hc] at hq ⊢
      rw [← hq]
      rfl
/-- a contract, out of the walk of its body -/
theorem sr_E.of {y : MethodName} {av : List sr_V} (hy : plainName y.cls = true) (ho : y.cls = own) (hin : ini = true → y.name = "<init>") (hL : sr_args 0 av = L) (hnl : sr_rw av ≤ nL) {inj : X → Option sr_V} (k : sr_T G d own cc nL ret ini (sr_M G inj) 0 L [] h F) : sr_E G d y cc nL ret inj av h F := by
  subst ho
  intro x h' hF
  obtain ⟨k1, k2⟩ := k x h' hF
  refine ⟨k1, ?_⟩
  refine Met.ofW (cc := cc) (maxL := nL) (ret := ret) hy rfl ?_
  intro p e s m args below meth c s₁ B hml hv
  obtain ⟨rfl, hR, hK⟩ := hv
  have hts := atoms_spec (ws := Cond.code y cc nL ret :: sr_tbl) B.pre
  have hl := lv_entry (av.map sr_em) (n := nL) (by rw [sr_sl_len]; exact hnl)
  rw [lg_entry_eq]
  generalize (lg_sl (av.map sr_em) ++ List.replicate (nL - (lg_sl (av.map sr_em)).length) Slot.unset).toArray = ls at hl ⊢
  rw [sr_args_eq, hL] at hl
  have hres := k2 p e (headSpec (Cond.code y cc nL ret :: sr_tbl) { frames := d, cells := gN h' - gN h, slots := gS h' - gS h, locals := 64 * d }).room s m (av.map sr_em).toArray below meth c (gN h) (gS h) s.heap [] ls ⟨B.exec, B.bytes, B.returns, hml, findClass_of_methodNamed B.named, fun w hw => hts w (List.mem_cons_of_mem _ hw), B.notSynchronized, hK, fun q => by rw [(name_of_methodNamed B.named B.method).1]; exact hin q⟩ (Nat.le_refl _) (Nat.le_refl _) (Nat.le_refl _) (Nat.le_refl _) (Nat.le_refl _) (Nat.le_refl _) hR va_S.rf hl
  rw [Nat.sub_self, Nat.sub_self] at hres
  exact hres
end INVOKE
section INVOKE2
variable {G : sr_G} {d : Nat} {own : String} {cc : ByteArray} {nL : Nat} {ret : Option FieldType} {ini : Bool} {X : Type} {inj : sr_Z X} {pc : Nat} {L : List (Nat × sr_V)} {st : List sr_V} {h : AH} {F : Option (X × AH)}
theorem tq_none : sr_T G d own cc nL ret ini inj pc L st h (none : Option (X × AH)) := fun _ _ hF => by cases hF
/-- the script's own ints and length -/
def cXL {Y : Type} (G : sr_G) (i : Int32) (K : Int32 → Option Y) : Option Y := if 0 ≤ i.toInt ∧ i.toInt < G.2.2.2.2.2.2.2.1 then K (G.2.2.2.2.2.2.2.2 i.toNatClampNeg) else none
theorem tq_sld {i : Int32} {K : Int32 → Option (X × AH)} (hd : decode cc pc = .ok (.iaload, 1)) (kk : ∀ w, sr_T G d own cc nL ret ini inj (pc + 1) L (vI w :: st) h (K w)) : sr_T G d own cc nL ret ini inj pc L (vI i :: vR (some G.2.2.2.2.2.2.1) :: st) h (cXL G i K) := by
  intro x h' hF
  unfold cXL at hF
  by_cases hc : 0 ≤ i.toInt ∧ i.toInt < G.2.2.2.2.2.2.2.1
  · rw [if_pos hc] at hF
    refine sr_T.read (fun p e R s m args below meth c' H locs cells slots ls Q C' hR hS _ _ h9 kk => ?_) (kk _) x h' hF
    obtain ⟨hx, hb, -, -, -, -, -, hK, -⟩ := C'
    have hX := hK.2.2.2.2.2.2.2
    exact va_sld hx hb hX.1 (Nat.lt_of_lt_of_le hX.2 hK.2.2.1) (Nat.not_le.mpr hX.2) hS (sr_inb hc.1 hc.2) hd kk
  · rw [if_neg hc] at hF
    cases hF
theorem tq_slen (hd : decode cc pc = .ok (.arraylength, 1)) (kk : sr_T G d own cc nL ret ini inj (pc + 1) L (vI (nI G.2.2.2.2.2.2.2.1) :: st) h F) : sr_T G d own cc nL ret ini inj pc L (vR (some G.2.2.2.2.2.2.1) :: st) h F := by
  refine sr_T.read (fun p e R s m args below meth c' H locs cells slots ls Q C' hR hS _ _ h9 kk => ?_) kk
  obtain ⟨hx, hb, -, -, -, -, -, hK, -⟩ := C'
  have hX := hK.2.2.2.2.2.2.2
  exact va_slen hx hb hX.1 (Nat.lt_of_lt_of_le hX.2 hK.2.2.1) (Nat.not_le.mpr hX.2) hS hd kk
end INVOKE2
section INVOKE3
variable {G : sr_G} {d : Nat} {own : String} {cc : ByteArray} {nL : Nat} {ret : Option FieldType} {ini : Bool} {X : Type} {inj : sr_Z X} {pc : Nat} {L : List (Nat × sr_V)} {h : AH}
theorem tq_cVI {r : Option Nat} {x : Option (Int32 × AH)} {K : Int32 → AH → Option (X × AH)} {d' nLy n c N index : Nat} {y : MethodName} {cy : ByteArray} {rety : Option FieldType} {C : String} {T : u_T} {st' : List sr_V} (As rest : List sr_V)
    (hd : decode cc pc = .ok (.invokevirtual index, 3)) (hE : sr_E G d' y cy nLy rety jI (vR r :: As) h x) (hdd : d' + 1 ≤ d) (hm : sr_mb y cy nLy rety n) (cf : sr_cf c C T N) (hC : y.cls = C) (hw : Cond.methodLink own index y ∈ sr_tbl) (hi : Cond.instanceMethod y ∈ sr_tbl) (hsel : Cond.selects C y y ∈ sr_tbl) (hn : As.length = n) (hst : st' = As.reverse ++ vR r :: rest) (hrw : sr_rw rest ≤ 8)
    (kk : ∀ (y0 : Int32) (h1 : AH), sr_T G d own cc nL ret ini inj (pc + 3) L (vI y0 :: rest) h1 (K y0 h1)) : sr_T G d own cc nL ret ini inj pc L st' h (cCV h c r x K) := tq_callV As rest hd hE hdd hm cf hC hw hi hsel hn hst hrw kk
theorem tq_cSI {x : Option (Int32 × AH)} {K : Int32 → AH → Option (X × AH)} {d' nLy n index : Nat} {y : MethodName} {cy : ByteArray} {rety : Option FieldType} {st' : List sr_V} (As rest : List sr_V)
    (hd : decode cc pc = .ok (.invokestatic index, 3)) (hE : sr_E G d' y cy nLy rety jI As h x) (hdd : d' + 1 ≤ d) (hm : sr_mb y cy nLy rety n) (hw : Cond.methodLink own index y ∈ sr_tbl) (hi : Cond.static y ∈ sr_tbl) (hn : As.length = n) (hst : st' = As.reverse ++ rest) (hrw : sr_rw rest ≤ 8)
    (kk : ∀ (y0 : Int32) (h1 : AH), sr_T G d own cc nL ret ini inj (pc + 3) L (vI y0 :: rest) h1 (K y0 h1)) : sr_T G d own cc nL ret ini inj pc L st' h (cCL x K) := tq_callS As rest hd hE hdd hm hw hi hn hst hrw kk
theorem tq_cNI {x : Option (Int32 × AH)} {K : Int32 → AH → Option (X × AH)} {d' nLy n index : Nat} {y : MethodName} {host : String} {cy : ByteArray} {rety : Option FieldType} {st' : List sr_V} (As rest : List sr_V)
    (hd : decode cc pc = .ok (.invokestatic index, 3)) (hE : sr_E G d' y cy nLy rety jI As h x) (hdd : d' + 1 ≤ d) (hm : sr_mb y cy nLy rety n) (hw : (own, index, y, host) ∈ sr_nws) (hi : Cond.static y ∈ sr_tbl) (hn : As.length = n) (hst : st' = As.reverse ++ rest) (hrw : sr_rw rest ≤ 8)
    (kk : ∀ (y0 : Int32) (h1 : AH), sr_T G d own cc nL ret ini inj (pc + 3) L (vI y0 :: rest) h1 (K y0 h1)) : sr_T G d own cc nL ret ini inj pc L st' h (cCL x K) := tq_callSN As rest hd hE hdd hm hw hi hn hst hrw kk
theorem tq_cVL {r : Option Nat} {x : Option (Int64 × AH)} {K : Int64 → AH → Option (X × AH)} {d' nLy n c N index : Nat} {y : MethodName} {cy : ByteArray} {rety : Option FieldType} {C : String} {T : u_T} {st' : List sr_V} (As rest : List sr_V)
    (hd : decode cc pc = .ok (.invokevirtual index, 3)) (hE : sr_E G d' y cy nLy rety jL (vR r :: As) h x) (hdd : d' + 1 ≤ d) (hm : sr_mb y cy nLy rety n) (cf : sr_cf c C T N) (hC : y.cls = C) (hw : Cond.methodLink own index y ∈ sr_tbl) (hi : Cond.instanceMethod y ∈ sr_tbl) (hsel : Cond.selects C y y ∈ sr_tbl) (hn : As.length = n) (hst : st' = As.reverse ++ vR r :: rest) (hrw : sr_rw rest ≤ 8)
    (kk : ∀ (y0 : Int64) (h1 : AH), sr_T G d own cc nL ret ini inj (pc + 3) L (vL y0 :: rest) h1 (K y0 h1)) : sr_T G d own cc nL ret ini inj pc L st' h (cCV h c r x K) := tq_callV As rest hd hE hdd hm cf hC hw hi hsel hn hst hrw kk
theorem tq_cSL {x : Option (Int64 × AH)} {K : Int64 → AH → Option (X × AH)} {d' nLy n index : Nat} {y : MethodName} {cy : ByteArray} {rety : Option FieldType} {st' : List sr_V} (As rest : List sr_V)
    (hd : decode cc pc = .ok (.invokestatic index, 3)) (hE : sr_E G d' y cy nLy rety jL As h x) (hdd : d' + 1 ≤ d) (hm : sr_mb y cy nLy rety n) (hw : Cond.methodLink own index y ∈ sr_tbl) (hi : Cond.static y ∈ sr_tbl) (hn : As.length = n) (hst : st' = As.reverse ++ rest) (hrw : sr_rw rest ≤ 8)
    (kk : ∀ (y0 : Int64) (h1 : AH), sr_T G d own cc nL ret ini inj (pc + 3) L (vL y0 :: rest) h1 (K y0 h1)) : sr_T G d own cc nL ret ini inj pc L st' h (cCL x K) := tq_callS As rest hd hE hdd hm hw hi hn hst hrw kk
theorem tq_cNL {x : Option (Int64 × AH)} {K : Int64 → AH → Option (X × AH)} {d' nLy n index : Nat} {y : MethodName} {host : String} {cy : ByteArray} {rety : Option FieldType} {st' : List sr_V} (As rest : List sr_V)
    (hd : decode cc pc = .ok (.invokestatic index, 3)) (hE : sr_E G d' y cy nLy rety jL As h x) (hdd : d' + 1 ≤ d) (hm : sr_mb y cy nLy rety n) (hw : (own, index, y, host) ∈ sr_nws) (hi : Cond.static y ∈ sr_tbl) (hn : As.length = n) (hst : st' = As.reverse ++ rest) (hrw : sr_rw rest ≤ 8)
    (kk : ∀ (y0 : Int64) (h1 : AH), sr_T G d own cc nL ret ini inj (pc + 3) L (vL y0 :: rest) h1 (K y0 h1)) : sr_T G d own cc nL ret ini inj pc L st' h (cCL x K) := tq_callSN As rest hd hE hdd hm hw hi hn hst hrw kk
theorem tq_cVR {r : Option Nat} {x : Option (Option Nat × AH)} {K : Option Nat → AH → Option (X × AH)} {d' nLy n c N index : Nat} {y : MethodName} {cy : ByteArray} {rety : Option FieldType} {C : String} {T : u_T} {st' : List sr_V} (As rest : List sr_V)
    (hd : decode cc pc = .ok (.invokevirtual index, 3)) (hE : sr_E G d' y cy nLy rety jR (vR r :: As) h x) (hdd : d' + 1 ≤ d) (hm : sr_mb y cy nLy rety n) (cf : sr_cf c C T N) (hC : y.cls = C) (hw : Cond.methodLink own index y ∈ sr_tbl) (hi : Cond.instanceMethod y ∈ sr_tbl) (hsel : Cond.selects C y y ∈ sr_tbl) (hn : As.length = n) (hst : st' = As.reverse ++ vR r :: rest) (hrw : sr_rw rest ≤ 8)
    (kk : ∀ (y0 : Option Nat) (h1 : AH), sr_T G d own cc nL ret ini inj (pc + 3) L (vR y0 :: rest) h1 (K y0 h1)) : sr_T G d own cc nL ret ini inj pc L st' h (cCV h c r x K) := tq_callV As rest hd hE hdd hm cf hC hw hi hsel hn hst hrw kk
theorem tq_cSR {x : Option (Option Nat × AH)} {K : Option Nat → AH → Option (X × AH)} {d' nLy n index : Nat} {y : MethodName} {cy : ByteArray} {rety : Option FieldType} {st' : List sr_V} (As rest : List sr_V)
    (hd : decode cc pc = .ok (.invokestatic index, 3)) (hE : sr_E G d' y cy nLy rety jR As h x) (hdd : d' + 1 ≤ d) (hm : sr_mb y cy nLy rety n) (hw : Cond.methodLink own index y ∈ sr_tbl) (hi : Cond.static y ∈ sr_tbl) (hn : As.length = n) (hst : st' = As.reverse ++ rest) (hrw : sr_rw rest ≤ 8)
    (kk : ∀ (y0 : Option Nat) (h1 : AH), sr_T G d own cc nL ret ini inj (pc + 3) L (vR y0 :: rest) h1 (K y0 h1)) : sr_T G d own cc nL ret ini inj pc L st' h (cCL x K) := tq_callS As rest hd hE hdd hm hw hi hn hst hrw kk
theorem tq_cNR {x : Option (Option Nat × AH)} {K : Option Nat → AH → Option (X × AH)} {d' nLy n index : Nat} {y : MethodName} {host : String} {cy : ByteArray} {rety : Option FieldType} {st' : List sr_V} (As rest : List sr_V)
    (hd : decode cc pc = .ok (.invokestatic index, 3)) (hE : sr_E G d' y cy nLy rety jR As h x) (hdd : d' + 1 ≤ d) (hm : sr_mb y cy nLy rety n) (hw : (own, index, y, host) ∈ sr_nws) (hi : Cond.static y ∈ sr_tbl) (hn : As.length = n) (hst : st' = As.reverse ++ rest) (hrw : sr_rw rest ≤ 8)
    (kk : ∀ (y0 : Option Nat) (h1 : AH), sr_T G d own cc nL ret ini inj (pc + 3) L (vR y0 :: rest) h1 (K y0 h1)) : sr_T G d own cc nL ret ini inj pc L st' h (cCL x K) := tq_callSN As rest hd hE hdd hm hw hi hn hst hrw kk
theorem tq_cVV {r : Option Nat} {x : Option (Unit × AH)} {K : Unit → AH → Option (X × AH)} {d' nLy n c N index : Nat} {y : MethodName} {cy : ByteArray} {rety : Option FieldType} {C : String} {T : u_T} {st' : List sr_V} (As rest : List sr_V)
    (hd : decode cc pc = .ok (.invokevirtual index, 3)) (hE : sr_E G d' y cy nLy rety jV (vR r :: As) h x) (hdd : d' + 1 ≤ d) (hm : sr_mb y cy nLy rety n) (cf : sr_cf c C T N) (hC : y.cls = C) (hw : Cond.methodLink own index y ∈ sr_tbl) (hi : Cond.instanceMethod y ∈ sr_tbl) (hsel : Cond.selects C y y ∈ sr_tbl) (hn : As.length = n) (hst : st' = As.reverse ++ vR r :: rest) (hrw : sr_rw rest ≤ 8)
    (kk : ∀ (y0 : Unit) (h1 : AH), sr_T G d own cc nL ret ini inj (pc + 3) L (rest) h1 (K y0 h1)) : sr_T G d own cc nL ret ini inj pc L st' h (cCV h c r x K) := tq_callV As rest hd hE hdd hm cf hC hw hi hsel hn hst hrw kk
theorem tq_cSV {x : Option (Unit × AH)} {K : Unit → AH → Option (X × AH)} {d' nLy n index : Nat} {y : MethodName} {cy : ByteArray} {rety : Option FieldType} {st' : List sr_V} (As rest : List sr_V)
    (hd : decode cc pc = .ok (.invokestatic index, 3)) (hE : sr_E G d' y cy nLy rety jV As h x) (hdd : d' + 1 ≤ d) (hm : sr_mb y cy nLy rety n) (hw : Cond.methodLink own index y ∈ sr_tbl) (hi : Cond.static y ∈ sr_tbl) (hn : As.length = n) (hst : st' = As.reverse ++ rest) (hrw : sr_rw rest ≤ 8)
    (kk : ∀ (y0 : Unit) (h1 : AH), sr_T G d own cc nL ret ini inj (pc + 3) L (rest) h1 (K y0 h1)) : sr_T G d own cc nL ret ini inj pc L st' h (cCL x K) := tq_callS As rest hd hE hdd hm hw hi hn hst hrw kk
theorem tq_cNV {x : Option (Unit × AH)} {K : Unit → AH → Option (X × AH)} {d' nLy n index : Nat} {y : MethodName} {host : String} {cy : ByteArray} {rety : Option FieldType} {st' : List sr_V} (As rest : List sr_V)
    (hd : decode cc pc = .ok (.invokestatic index, 3)) (hE : sr_E G d' y cy nLy rety jV As h x) (hdd : d' + 1 ≤ d) (hm : sr_mb y cy nLy rety n) (hw : (own, index, y, host) ∈ sr_nws) (hi : Cond.static y ∈ sr_tbl) (hn : As.length = n) (hst : st' = As.reverse ++ rest) (hrw : sr_rw rest ≤ 8)
    (kk : ∀ (y0 : Unit) (h1 : AH), sr_T G d own cc nL ret ini inj (pc + 3) L (rest) h1 (K y0 h1)) : sr_T G d own cc nL ret ini inj pc L st' h (cCL x K) := tq_callSN As rest hd hE hdd hm hw hi hn hst hrw kk
end INVOKE3
end
