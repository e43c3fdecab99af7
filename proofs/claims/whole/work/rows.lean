section
-- ===== PART A: goes FIRST, ahead of the names: the tables' words, and 'selects' of the private methods out of them =====
/-- a private method of a class that the tables say can be made, by its rows of tables_1 -/
def lw_okq (q : MethodName × Nat) : Prop := (q.1.cls ≠ "java/lang/invoke/MethodHandle" ∧ q.1.cls ≠ "java/lang/invoke/VarHandle") ∧ Cond.instantiable q.1.cls q.2 ∈ tables_1 ∧ Cond.privateMethod q.1 ∈ tables_1 ∧ Cond.instanceMethod q.1 ∈ tables_1
theorem lw_p0 : lw_okq (⟨"SoupReader$Tape", "pushByte", "(I)V"⟩, 2) := ⟨⟨by decide +kernel, by decide +kernel⟩, List.mem_of_getElem? (i := 24) (by decide +kernel), List.mem_of_getElem? (i := 244) (by decide +kernel), List.mem_of_getElem? (i := 245) (by decide +kernel)⟩
theorem lw_p1 : lw_okq (⟨"SoupReader$PageReader", "tagOpenAt", "(I)I"⟩, 8) := ⟨⟨by decide +kernel, by decide +kernel⟩, List.mem_of_getElem? (i := 186) (by decide +kernel), List.mem_of_getElem? (i := 280) (by decide +kernel), List.mem_of_getElem? (i := 281) (by decide +kernel)⟩
theorem lw_p2 : lw_okq (⟨"SoupReader$PageReader", "openAt", "(I)LSoupReader$Node;"⟩, 8) := ⟨⟨by decide +kernel, by decide +kernel⟩, List.mem_of_getElem? (i := 186) (by decide +kernel), List.mem_of_getElem? (i := 284) (by decide +kernel), List.mem_of_getElem? (i := 285) (by decide +kernel)⟩
theorem lw_p3 : lw_okq (⟨"SoupReader$PageReader", "skipRun", "(Z)V"⟩, 8) := ⟨⟨by decide +kernel, by decide +kernel⟩, List.mem_of_getElem? (i := 186) (by decide +kernel), List.mem_of_getElem? (i := 288) (by decide +kernel), List.mem_of_getElem? (i := 289) (by decide +kernel)⟩
theorem lw_p4 : lw_okq (⟨"SoupReader$PageReader", "endsRun", "(IZ)Z"⟩, 8) := ⟨⟨by decide +kernel, by decide +kernel⟩, List.mem_of_getElem? (i := 186) (by decide +kernel), List.mem_of_getElem? (i := 292) (by decide +kernel), List.mem_of_getElem? (i := 293) (by decide +kernel)⟩
theorem lw_p5 : lw_okq (⟨"SoupReader$PageReader", "startsTag", "(I)Z"⟩, 8) := ⟨⟨by decide +kernel, by decide +kernel⟩, List.mem_of_getElem? (i := 186) (by decide +kernel), List.mem_of_getElem? (i := 350) (by decide +kernel), List.mem_of_getElem? (i := 351) (by decide +kernel)⟩
theorem lw_p6 : lw_okq (⟨"SoupReader$PageReader", "takeRun", "(IIZ)V"⟩, 8) := ⟨⟨by decide +kernel, by decide +kernel⟩, List.mem_of_getElem? (i := 186) (by decide +kernel), List.mem_of_getElem? (i := 361) (by decide +kernel), List.mem_of_getElem? (i := 362) (by decide +kernel)⟩
theorem lw_p7 : lw_okq (⟨"SoupReader$PageReader", "textFor", "(II)LSoupReader$Node;"⟩, 8) := ⟨⟨by decide +kernel, by decide +kernel⟩, List.mem_of_getElem? (i := 186) (by decide +kernel), List.mem_of_getElem? (i := 365) (by decide +kernel), List.mem_of_getElem? (i := 366) (by decide +kernel)⟩
theorem lw_p8 : lw_okq (⟨"SoupReader$PageReader", "innermost", "()LSoupReader$Node;"⟩, 8) := ⟨⟨by decide +kernel, by decide +kernel⟩, List.mem_of_getElem? (i := 186) (by decide +kernel), List.mem_of_getElem? (i := 369) (by decide +kernel), List.mem_of_getElem? (i := 370) (by decide +kernel)⟩
theorem lw_p9 : lw_okq (⟨"SoupReader$PageReader", "isAllBlank", "(II)Z"⟩, 8) := ⟨⟨by decide +kernel, by decide +kernel⟩, List.mem_of_getElem? (i := 186) (by decide +kernel), List.mem_of_getElem? (i := 373) (by decide +kernel), List.mem_of_getElem? (i := 374) (by decide +kernel)⟩
theorem lw_p10 : lw_okq (⟨"SoupReader$Tree", "leastFree", "()I"⟩, 3) := ⟨⟨by decide +kernel, by decide +kernel⟩, List.mem_of_getElem? (i := 74) (by decide +kernel), List.mem_of_getElem? (i := 384) (by decide +kernel), List.mem_of_getElem? (i := 385) (by decide +kernel)⟩
theorem lw_p11 : lw_okq (⟨"SoupReader$PageReader", "entityAt", "(I)I"⟩, 8) := ⟨⟨by decide +kernel, by decide +kernel⟩, List.mem_of_getElem? (i := 186) (by decide +kernel), List.mem_of_getElem? (i := 399) (by decide +kernel), List.mem_of_getElem? (i := 400) (by decide +kernel)⟩
theorem lw_p12 : lw_okq (⟨"SoupReader$PageReader", "tellTooLong", "(LSoupReader$Node;I)V"⟩, 8) := ⟨⟨by decide +kernel, by decide +kernel⟩, List.mem_of_getElem? (i := 186) (by decide +kernel), List.mem_of_getElem? (i := 411) (by decide +kernel), List.mem_of_getElem? (i := 412) (by decide +kernel)⟩
theorem lw_p13 : lw_okq (⟨"SoupReader$PageReader", "readComment", "()V"⟩, 8) := ⟨⟨by decide +kernel, by decide +kernel⟩, List.mem_of_getElem? (i := 186) (by decide +kernel), List.mem_of_getElem? (i := 419) (by decide +kernel), List.mem_of_getElem? (i := 420) (by decide +kernel)⟩
theorem lw_p14 : lw_okq (⟨"SoupReader$PageReader", "readTag", "()V"⟩, 8) := ⟨⟨by decide +kernel, by decide +kernel⟩, List.mem_of_getElem? (i := 186) (by decide +kernel), List.mem_of_getElem? (i := 424) (by decide +kernel), List.mem_of_getElem? (i := 425) (by decide +kernel)⟩
theorem lw_p15 : lw_okq (⟨"SoupReader$PageReader", "readTagName", "()J"⟩, 8) := ⟨⟨by decide +kernel, by decide +kernel⟩, List.mem_of_getElem? (i := 186) (by decide +kernel), List.mem_of_getElem? (i := 428) (by decide +kernel), List.mem_of_getElem? (i := 429) (by decide +kernel)⟩
def lw_privs_1 : List (MethodName × Nat) := [(⟨"SoupReader$Tape", "pushByte", "(I)V"⟩, 2), (⟨"SoupReader$PageReader", "tagOpenAt", "(I)I"⟩, 8), (⟨"SoupReader$PageReader", "openAt", "(I)LSoupReader$Node;"⟩, 8), (⟨"SoupReader$PageReader", "skipRun", "(Z)V"⟩, 8), (⟨"SoupReader$PageReader", "endsRun", "(IZ)Z"⟩, 8), (⟨"SoupReader$PageReader", "startsTag", "(I)Z"⟩, 8), (⟨"SoupReader$PageReader", "takeRun", "(IIZ)V"⟩, 8), (⟨"SoupReader$PageReader", "textFor", "(II)LSoupReader$Node;"⟩, 8), (⟨"SoupReader$PageReader", "innermost", "()LSoupReader$Node;"⟩, 8), (⟨"SoupReader$PageReader", "isAllBlank", "(II)Z"⟩, 8), (⟨"SoupReader$Tree", "leastFree", "()I"⟩, 3), (⟨"SoupReader$PageReader", "entityAt", "(I)I"⟩, 8), (⟨"SoupReader$PageReader", "tellTooLong", "(LSoupReader$Node;I)V"⟩, 8), (⟨"SoupReader$PageReader", "readComment", "()V"⟩, 8), (⟨"SoupReader$PageReader", "readTag", "()V"⟩, 8), (⟨"SoupReader$PageReader", "readTagName", "()J"⟩, 8)]
theorem lw_r1 : ∀ q ∈ lw_privs_1, lw_okq q := List.forall_mem_cons.mpr ⟨lw_p0, List.forall_mem_cons.mpr ⟨lw_p1, List.forall_mem_cons.mpr ⟨lw_p2, List.forall_mem_cons.mpr ⟨lw_p3, List.forall_mem_cons.mpr ⟨lw_p4, List.forall_mem_cons.mpr ⟨lw_p5, List.forall_mem_cons.mpr ⟨lw_p6, List.forall_mem_cons.mpr ⟨lw_p7, List.forall_mem_cons.mpr ⟨lw_p8, List.forall_mem_cons.mpr ⟨lw_p9, List.forall_mem_cons.mpr ⟨lw_p10, List.forall_mem_cons.mpr ⟨lw_p11, List.forall_mem_cons.mpr ⟨lw_p12, List.forall_mem_cons.mpr ⟨lw_p13, List.forall_mem_cons.mpr ⟨lw_p14, List.forall_mem_cons.mpr ⟨lw_p15, fun _ h => absurd h List.not_mem_nil⟩⟩⟩⟩⟩⟩⟩⟩⟩⟩⟩⟩⟩⟩⟩⟩
theorem lw_p16 : lw_okq (⟨"SoupReader$PageReader", "readAttribute", "(Z)V"⟩, 8) := ⟨⟨by decide +kernel, by decide +kernel⟩, List.mem_of_getElem? (i := 186) (by decide +kernel), List.mem_of_getElem? (i := 441) (by decide +kernel), List.mem_of_getElem? (i := 442) (by decide +kernel)⟩
theorem lw_p17 : lw_okq (⟨"SoupReader$PageReader", "readAttributeName", "()J"⟩, 8) := ⟨⟨by decide +kernel, by decide +kernel⟩, List.mem_of_getElem? (i := 186) (by decide +kernel), List.mem_of_getElem? (i := 445) (by decide +kernel), List.mem_of_getElem? (i := 446) (by decide +kernel)⟩
theorem lw_p18 : lw_okq (⟨"SoupReader$PageReader", "takeAttribute", "(JI)LSoupReader$Attribute;"⟩, 8) := ⟨⟨by decide +kernel, by decide +kernel⟩, List.mem_of_getElem? (i := 186) (by decide +kernel), List.mem_of_getElem? (i := 452) (by decide +kernel), List.mem_of_getElem? (i := 453) (by decide +kernel)⟩
theorem lw_p19 : lw_okq (⟨"SoupReader$PageReader", "readValue", "(LSoupReader$Attribute;)V"⟩, 8) := ⟨⟨by decide +kernel, by decide +kernel⟩, List.mem_of_getElem? (i := 186) (by decide +kernel), List.mem_of_getElem? (i := 491) (by decide +kernel), List.mem_of_getElem? (i := 492) (by decide +kernel)⟩
theorem lw_p20 : lw_okq (⟨"SoupReader$PageReader", "takeEndTag", "(JI)V"⟩, 8) := ⟨⟨by decide +kernel, by decide +kernel⟩, List.mem_of_getElem? (i := 186) (by decide +kernel), List.mem_of_getElem? (i := 502) (by decide +kernel), List.mem_of_getElem? (i := 503) (by decide +kernel)⟩
theorem lw_p21 : lw_okq (⟨"SoupReader$PageReader", "innermostNamed", "(J)I"⟩, 8) := ⟨⟨by decide +kernel, by decide +kernel⟩, List.mem_of_getElem? (i := 186) (by decide +kernel), List.mem_of_getElem? (i := 516) (by decide +kernel), List.mem_of_getElem? (i := 517) (by decide +kernel)⟩
theorem lw_p22 : lw_okq (⟨"SoupReader$PageReader", "closeDownTo", "(I)V"⟩, 8) := ⟨⟨by decide +kernel, by decide +kernel⟩, List.mem_of_getElem? (i := 186) (by decide +kernel), List.mem_of_getElem? (i := 520) (by decide +kernel), List.mem_of_getElem? (i := 521) (by decide +kernel)⟩
theorem lw_p23 : lw_okq (⟨"SoupReader$PageReader", "placeOpenAt", "(I)I"⟩, 8) := ⟨⟨by decide +kernel, by decide +kernel⟩, List.mem_of_getElem? (i := 186) (by decide +kernel), List.mem_of_getElem? (i := 524) (by decide +kernel), List.mem_of_getElem? (i := 525) (by decide +kernel)⟩
theorem lw_p24 : lw_okq (⟨"SoupReader$PageReader", "takeStartTag", "(JI)V"⟩, 8) := ⟨⟨by decide +kernel, by decide +kernel⟩, List.mem_of_getElem? (i := 186) (by decide +kernel), List.mem_of_getElem? (i := 528) (by decide +kernel), List.mem_of_getElem? (i := 529) (by decide +kernel)⟩
theorem lw_p25 : lw_okq (⟨"SoupReader$PageReader", "closeBefore", "(II)V"⟩, 8) := ⟨⟨by decide +kernel, by decide +kernel⟩, List.mem_of_getElem? (i := 186) (by decide +kernel), List.mem_of_getElem? (i := 532) (by decide +kernel), List.mem_of_getElem? (i := 533) (by decide +kernel)⟩
theorem lw_p26 : lw_okq (⟨"SoupReader$PageReader", "innermostOf", "(I)I"⟩, 8) := ⟨⟨by decide +kernel, by decide +kernel⟩, List.mem_of_getElem? (i := 186) (by decide +kernel), List.mem_of_getElem? (i := 539) (by decide +kernel), List.mem_of_getElem? (i := 540) (by decide +kernel)⟩
theorem lw_p27 : lw_okq (⟨"SoupReader$PageReader", "push", "(LSoupReader$Node;I)V"⟩, 8) := ⟨⟨by decide +kernel, by decide +kernel⟩, List.mem_of_getElem? (i := 186) (by decide +kernel), List.mem_of_getElem? (i := 553) (by decide +kernel), List.mem_of_getElem? (i := 554) (by decide +kernel)⟩
theorem lw_p28 : lw_okq (⟨"SoupReader", "writeValue", "(I)I"⟩, 5) := ⟨⟨by decide +kernel, by decide +kernel⟩, List.mem_of_getElem? (i := 16) (by decide +kernel), List.mem_of_getElem? (i := 597) (by decide +kernel), List.mem_of_getElem? (i := 598) (by decide +kernel)⟩
theorem lw_p29 : lw_okq (⟨"SoupReader", "writeNode", "(LSoupReader$Node;I)V"⟩, 5) := ⟨⟨by decide +kernel, by decide +kernel⟩, List.mem_of_getElem? (i := 16) (by decide +kernel), List.mem_of_getElem? (i := 630) (by decide +kernel), List.mem_of_getElem? (i := 631) (by decide +kernel)⟩
theorem lw_p30 : lw_okq (⟨"SoupReader", "writeText", "(LSoupReader$Node;)V"⟩, 5) := ⟨⟨by decide +kernel, by decide +kernel⟩, List.mem_of_getElem? (i := 16) (by decide +kernel), List.mem_of_getElem? (i := 634) (by decide +kernel), List.mem_of_getElem? (i := 635) (by decide +kernel)⟩
theorem lw_p31 : lw_okq (⟨"SoupReader", "writeStartTag", "(LSoupReader$Node;)V"⟩, 5) := ⟨⟨by decide +kernel, by decide +kernel⟩, List.mem_of_getElem? (i := 16) (by decide +kernel), List.mem_of_getElem? (i := 652) (by decide +kernel), List.mem_of_getElem? (i := 653) (by decide +kernel)⟩
def lw_privs_2 : List (MethodName × Nat) := [(⟨"SoupReader$PageReader", "readAttribute", "(Z)V"⟩, 8), (⟨"SoupReader$PageReader", "readAttributeName", "()J"⟩, 8), (⟨"SoupReader$PageReader", "takeAttribute", "(JI)LSoupReader$Attribute;"⟩, 8), (⟨"SoupReader$PageReader", "readValue", "(LSoupReader$Attribute;)V"⟩, 8), (⟨"SoupReader$PageReader", "takeEndTag", "(JI)V"⟩, 8), (⟨"SoupReader$PageReader", "innermostNamed", "(J)I"⟩, 8), (⟨"SoupReader$PageReader", "closeDownTo", "(I)V"⟩, 8), (⟨"SoupReader$PageReader", "placeOpenAt", "(I)I"⟩, 8), (⟨"SoupReader$PageReader", "takeStartTag", "(JI)V"⟩, 8), (⟨"SoupReader$PageReader", "closeBefore", "(II)V"⟩, 8), (⟨"SoupReader$PageReader", "innermostOf", "(I)I"⟩, 8), (⟨"SoupReader$PageReader", "push", "(LSoupReader$Node;I)V"⟩, 8), (⟨"SoupReader", "writeValue", "(I)I"⟩, 5), (⟨"SoupReader", "writeNode", "(LSoupReader$Node;I)V"⟩, 5), (⟨"SoupReader", "writeText", "(LSoupReader$Node;)V"⟩, 5), (⟨"SoupReader", "writeStartTag", "(LSoupReader$Node;)V"⟩, 5)]
theorem lw_r2 : ∀ q ∈ lw_privs_2, lw_okq q := List.forall_mem_cons.mpr ⟨lw_p16, List.forall_mem_cons.mpr ⟨lw_p17, List.forall_mem_cons.mpr ⟨lw_p18, List.forall_mem_cons.mpr ⟨lw_p19, List.forall_mem_cons.mpr ⟨lw_p20, List.forall_mem_cons.mpr ⟨lw_p21, List.forall_mem_cons.mpr ⟨lw_p22, List.forall_mem_cons.mpr ⟨lw_p23, List.forall_mem_cons.mpr ⟨lw_p24, List.forall_mem_cons.mpr ⟨lw_p25, List.forall_mem_cons.mpr ⟨lw_p26, List.forall_mem_cons.mpr ⟨lw_p27, List.forall_mem_cons.mpr ⟨lw_p28, List.forall_mem_cons.mpr ⟨lw_p29, List.forall_mem_cons.mpr ⟨lw_p30, List.forall_mem_cons.mpr ⟨lw_p31, fun _ h => absurd h List.not_mem_nil⟩⟩⟩⟩⟩⟩⟩⟩⟩⟩⟩⟩⟩⟩⟩⟩
theorem lw_p32 : lw_okq (⟨"SoupReader", "addElement", "(I)I"⟩, 5) := ⟨⟨by decide +kernel, by decide +kernel⟩, List.mem_of_getElem? (i := 16) (by decide +kernel), List.mem_of_getElem? (i := 679) (by decide +kernel), List.mem_of_getElem? (i := 680) (by decide +kernel)⟩
theorem lw_p33 : lw_okq (⟨"SoupReader", "replaceByText", "(I)I"⟩, 5) := ⟨⟨by decide +kernel, by decide +kernel⟩, List.mem_of_getElem? (i := 16) (by decide +kernel), List.mem_of_getElem? (i := 689) (by decide +kernel), List.mem_of_getElem? (i := 690) (by decide +kernel)⟩
theorem lw_p34 : lw_okq (⟨"SoupReader$Tree", "release", "(LSoupReader$Node;I)V"⟩, 3) := ⟨⟨by decide +kernel, by decide +kernel⟩, List.mem_of_getElem? (i := 74) (by decide +kernel), List.mem_of_getElem? (i := 697) (by decide +kernel), List.mem_of_getElem? (i := 698) (by decide +kernel)⟩
theorem lw_p35 : lw_okq (⟨"SoupReader", "setAttribute", "(I)I"⟩, 5) := ⟨⟨by decide +kernel, by decide +kernel⟩, List.mem_of_getElem? (i := 16) (by decide +kernel), List.mem_of_getElem? (i := 710) (by decide +kernel), List.mem_of_getElem? (i := 711) (by decide +kernel)⟩
theorem lw_p36 : lw_okq (⟨"SoupReader", "findElement", "(I)I"⟩, 5) := ⟨⟨by decide +kernel, by decide +kernel⟩, List.mem_of_getElem? (i := 16) (by decide +kernel), List.mem_of_getElem? (i := 738) (by decide +kernel), List.mem_of_getElem? (i := 739) (by decide +kernel)⟩
theorem lw_p37 : lw_okq (⟨"SoupReaderModel", "there", "(I)Z"⟩, 45) := ⟨⟨by decide +kernel, by decide +kernel⟩, List.mem_of_getElem? (i := 752) (by decide +kernel), List.mem_of_getElem? (i := 750) (by decide +kernel), List.mem_of_getElem? (i := 751) (by decide +kernel)⟩
theorem lw_p38 : lw_okq (⟨"SoupReaderModel", "sayEscaped", "([BIIZ)V"⟩, 45) := ⟨⟨by decide +kernel, by decide +kernel⟩, List.mem_of_getElem? (i := 752) (by decide +kernel), List.mem_of_getElem? (i := 755) (by decide +kernel), List.mem_of_getElem? (i := 756) (by decide +kernel)⟩
theorem lw_p39 : lw_okq (⟨"SoupReaderModel", "say", "(I)V"⟩, 45) := ⟨⟨by decide +kernel, by decide +kernel⟩, List.mem_of_getElem? (i := 752) (by decide +kernel), List.mem_of_getElem? (i := 759) (by decide +kernel), List.mem_of_getElem? (i := 760) (by decide +kernel)⟩
theorem lw_p40 : lw_okq (⟨"SoupReaderModel", "sayBegin", "(I)V"⟩, 45) := ⟨⟨by decide +kernel, by decide +kernel⟩, List.mem_of_getElem? (i := 752) (by decide +kernel), List.mem_of_getElem? (i := 763) (by decide +kernel), List.mem_of_getElem? (i := 764) (by decide +kernel)⟩
theorem lw_p41 : lw_okq (⟨"SoupReaderModel", "sayAll", "([BII)V"⟩, 45) := ⟨⟨by decide +kernel, by decide +kernel⟩, List.mem_of_getElem? (i := 752) (by decide +kernel), List.mem_of_getElem? (i := 767) (by decide +kernel), List.mem_of_getElem? (i := 768) (by decide +kernel)⟩
theorem lw_p42 : lw_okq (⟨"SoupReaderModel", "sayEnd", "(I)V"⟩, 45) := ⟨⟨by decide +kernel, by decide +kernel⟩, List.mem_of_getElem? (i := 752) (by decide +kernel), List.mem_of_getElem? (i := 771) (by decide +kernel), List.mem_of_getElem? (i := 772) (by decide +kernel)⟩
theorem lw_p43 : lw_okq (⟨"SoupReaderModel", "emptyTree", "()V"⟩, 45) := ⟨⟨by decide +kernel, by decide +kernel⟩, List.mem_of_getElem? (i := 752) (by decide +kernel), List.mem_of_getElem? (i := 796) (by decide +kernel), List.mem_of_getElem? (i := 797) (by decide +kernel)⟩
theorem lw_p44 : lw_okq (⟨"SoupReaderModel", "fresh", "(I)I"⟩, 45) := ⟨⟨by decide +kernel, by decide +kernel⟩, List.mem_of_getElem? (i := 752) (by decide +kernel), List.mem_of_getElem? (i := 800) (by decide +kernel), List.mem_of_getElem? (i := 801) (by decide +kernel)⟩
theorem lw_p45 : lw_okq (⟨"SoupReaderModel", "putFour", "(I)V"⟩, 45) := ⟨⟨by decide +kernel, by decide +kernel⟩, List.mem_of_getElem? (i := 752) (by decide +kernel), List.mem_of_getElem? (i := 945) (by decide +kernel), List.mem_of_getElem? (i := 946) (by decide +kernel)⟩
theorem lw_p46 : lw_okq (⟨"SoupReaderModel", "take", "()I"⟩, 45) := ⟨⟨by decide +kernel, by decide +kernel⟩, List.mem_of_getElem? (i := 752) (by decide +kernel), List.mem_of_getElem? (i := 961) (by decide +kernel), List.mem_of_getElem? (i := 962) (by decide +kernel)⟩
theorem lw_p47 : lw_okq (⟨"SoupReaderModel", "readPage", "()V"⟩, 45) := ⟨⟨by decide +kernel, by decide +kernel⟩, List.mem_of_getElem? (i := 752) (by decide +kernel), List.mem_of_getElem? (i := 968) (by decide +kernel), List.mem_of_getElem? (i := 969) (by decide +kernel)⟩
def lw_privs_3 : List (MethodName × Nat) := [(⟨"SoupReader", "addElement", "(I)I"⟩, 5), (⟨"SoupReader", "replaceByText", "(I)I"⟩, 5), (⟨"SoupReader$Tree", "release", "(LSoupReader$Node;I)V"⟩, 3), (⟨"SoupReader", "setAttribute", "(I)I"⟩, 5), (⟨"SoupReader", "findElement", "(I)I"⟩, 5), (⟨"SoupReaderModel", "there", "(I)Z"⟩, 45), (⟨"SoupReaderModel", "sayEscaped", "([BIIZ)V"⟩, 45), (⟨"SoupReaderModel", "say", "(I)V"⟩, 45), (⟨"SoupReaderModel", "sayBegin", "(I)V"⟩, 45), (⟨"SoupReaderModel", "sayAll", "([BII)V"⟩, 45), (⟨"SoupReaderModel", "sayEnd", "(I)V"⟩, 45), (⟨"SoupReaderModel", "emptyTree", "()V"⟩, 45), (⟨"SoupReaderModel", "fresh", "(I)I"⟩, 45), (⟨"SoupReaderModel", "putFour", "(I)V"⟩, 45), (⟨"SoupReaderModel", "take", "()I"⟩, 45), (⟨"SoupReaderModel", "readPage", "()V"⟩, 45)]
theorem lw_r3 : ∀ q ∈ lw_privs_3, lw_okq q := List.forall_mem_cons.mpr ⟨lw_p32, List.forall_mem_cons.mpr ⟨lw_p33, List.forall_mem_cons.mpr ⟨lw_p34, List.forall_mem_cons.mpr ⟨lw_p35, List.forall_mem_cons.mpr ⟨lw_p36, List.forall_mem_cons.mpr ⟨lw_p37, List.forall_mem_cons.mpr ⟨lw_p38, List.forall_mem_cons.mpr ⟨lw_p39, List.forall_mem_cons.mpr ⟨lw_p40, List.forall_mem_cons.mpr ⟨lw_p41, List.forall_mem_cons.mpr ⟨lw_p42, List.forall_mem_cons.mpr ⟨lw_p43, List.forall_mem_cons.mpr ⟨lw_p44, List.forall_mem_cons.mpr ⟨lw_p45, List.forall_mem_cons.mpr ⟨lw_p46, List.forall_mem_cons.mpr ⟨lw_p47, fun _ h => absurd h List.not_mem_nil⟩⟩⟩⟩⟩⟩⟩⟩⟩⟩⟩⟩⟩⟩⟩⟩
theorem lw_p48 : lw_okq (⟨"SoupReaderModel", "endsStyle", "(I)Z"⟩, 45) := ⟨⟨by decide +kernel, by decide +kernel⟩, List.mem_of_getElem? (i := 752) (by decide +kernel), List.mem_of_getElem? (i := 972) (by decide +kernel), List.mem_of_getElem? (i := 973) (by decide +kernel)⟩
theorem lw_p49 : lw_okq (⟨"SoupReaderModel", "isAt", "(IIII)Z"⟩, 45) := ⟨⟨by decide +kernel, by decide +kernel⟩, List.mem_of_getElem? (i := 752) (by decide +kernel), List.mem_of_getElem? (i := 976) (by decide +kernel), List.mem_of_getElem? (i := 977) (by decide +kernel)⟩
theorem lw_p50 : lw_okq (⟨"SoupReaderModel", "run", "(IZ)I"⟩, 45) := ⟨⟨by decide +kernel, by decide +kernel⟩, List.mem_of_getElem? (i := 752) (by decide +kernel), List.mem_of_getElem? (i := 1002) (by decide +kernel), List.mem_of_getElem? (i := 1003) (by decide +kernel)⟩
theorem lw_p51 : lw_okq (⟨"SoupReaderModel", "isNote", "(I)Z"⟩, 45) := ⟨⟨by decide +kernel, by decide +kernel⟩, List.mem_of_getElem? (i := 752) (by decide +kernel), List.mem_of_getElem? (i := 1009) (by decide +kernel), List.mem_of_getElem? (i := 1010) (by decide +kernel)⟩
theorem lw_p52 : lw_okq (⟨"SoupReaderModel", "isTag", "(I)Z"⟩, 45) := ⟨⟨by decide +kernel, by decide +kernel⟩, List.mem_of_getElem? (i := 752) (by decide +kernel), List.mem_of_getElem? (i := 1013) (by decide +kernel), List.mem_of_getElem? (i := 1014) (by decide +kernel)⟩
theorem lw_p53 : lw_okq (⟨"SoupReaderModel", "tellFault", "(II)V"⟩, 45) := ⟨⟨by decide +kernel, by decide +kernel⟩, List.mem_of_getElem? (i := 752) (by decide +kernel), List.mem_of_getElem? (i := 1023) (by decide +kernel), List.mem_of_getElem? (i := 1024) (by decide +kernel)⟩
theorem lw_p54 : lw_okq (⟨"SoupReaderModel", "entity", "([BII)I"⟩, 45) := ⟨⟨by decide +kernel, by decide +kernel⟩, List.mem_of_getElem? (i := 752) (by decide +kernel), List.mem_of_getElem? (i := 1027) (by decide +kernel), List.mem_of_getElem? (i := 1028) (by decide +kernel)⟩
theorem lw_p55 : lw_okq (⟨"SoupReaderModel", "note", "(I)I"⟩, 45) := ⟨⟨by decide +kernel, by decide +kernel⟩, List.mem_of_getElem? (i := 752) (by decide +kernel), List.mem_of_getElem? (i := 1031) (by decide +kernel), List.mem_of_getElem? (i := 1032) (by decide +kernel)⟩
theorem lw_p56 : lw_okq (⟨"SoupReaderModel", "readTag", "(I)I"⟩, 45) := ⟨⟨by decide +kernel, by decide +kernel⟩, List.mem_of_getElem? (i := 752) (by decide +kernel), List.mem_of_getElem? (i := 1035) (by decide +kernel), List.mem_of_getElem? (i := 1036) (by decide +kernel)⟩
theorem lw_p57 : lw_okq (⟨"SoupReaderModel", "readAttribute", "(I)I"⟩, 45) := ⟨⟨by decide +kernel, by decide +kernel⟩, List.mem_of_getElem? (i := 752) (by decide +kernel), List.mem_of_getElem? (i := 1045) (by decide +kernel), List.mem_of_getElem? (i := 1046) (by decide +kernel)⟩
theorem lw_p58 : lw_okq (⟨"SoupReaderModel", "endTag", "(II)V"⟩, 45) := ⟨⟨by decide +kernel, by decide +kernel⟩, List.mem_of_getElem? (i := 752) (by decide +kernel), List.mem_of_getElem? (i := 1058) (by decide +kernel), List.mem_of_getElem? (i := 1059) (by decide +kernel)⟩
theorem lw_p59 : lw_okq (⟨"SoupReaderModel", "closeTo", "(III)V"⟩, 45) := ⟨⟨by decide +kernel, by decide +kernel⟩, List.mem_of_getElem? (i := 752) (by decide +kernel), List.mem_of_getElem? (i := 1062) (by decide +kernel), List.mem_of_getElem? (i := 1063) (by decide +kernel)⟩
theorem lw_p60 : lw_okq (⟨"SoupReaderModel", "startTag", "(II)V"⟩, 45) := ⟨⟨by decide +kernel, by decide +kernel⟩, List.mem_of_getElem? (i := 752) (by decide +kernel), List.mem_of_getElem? (i := 1066) (by decide +kernel), List.mem_of_getElem? (i := 1067) (by decide +kernel)⟩
theorem lw_p61 : lw_okq (⟨"SoupReaderModel", "element", "(II)V"⟩, 45) := ⟨⟨by decide +kernel, by decide +kernel⟩, List.mem_of_getElem? (i := 752) (by decide +kernel), List.mem_of_getElem? (i := 1073) (by decide +kernel), List.mem_of_getElem? (i := 1074) (by decide +kernel)⟩
theorem lw_p62 : lw_okq (⟨"SoupReaderModel", "takeName", "()I"⟩, 45) := ⟨⟨by decide +kernel, by decide +kernel⟩, List.mem_of_getElem? (i := 752) (by decide +kernel), List.mem_of_getElem? (i := 1081) (by decide +kernel), List.mem_of_getElem? (i := 1082) (by decide +kernel)⟩
theorem lw_p63 : lw_okq (⟨"SoupReaderModel", "wrongName", "(I)I"⟩, 45) := ⟨⟨by decide +kernel, by decide +kernel⟩, List.mem_of_getElem? (i := 752) (by decide +kernel), List.mem_of_getElem? (i := 1085) (by decide +kernel), List.mem_of_getElem? (i := 1086) (by decide +kernel)⟩
def lw_privs_4 : List (MethodName × Nat) := [(⟨"SoupReaderModel", "endsStyle", "(I)Z"⟩, 45), (⟨"SoupReaderModel", "isAt", "(IIII)Z"⟩, 45), (⟨"SoupReaderModel", "run", "(IZ)I"⟩, 45), (⟨"SoupReaderModel", "isNote", "(I)Z"⟩, 45), (⟨"SoupReaderModel", "isTag", "(I)Z"⟩, 45), (⟨"SoupReaderModel", "tellFault", "(II)V"⟩, 45), (⟨"SoupReaderModel", "entity", "([BII)I"⟩, 45), (⟨"SoupReaderModel", "note", "(I)I"⟩, 45), (⟨"SoupReaderModel", "readTag", "(I)I"⟩, 45), (⟨"SoupReaderModel", "readAttribute", "(I)I"⟩, 45), (⟨"SoupReaderModel", "endTag", "(II)V"⟩, 45), (⟨"SoupReaderModel", "closeTo", "(III)V"⟩, 45), (⟨"SoupReaderModel", "startTag", "(II)V"⟩, 45), (⟨"SoupReaderModel", "element", "(II)V"⟩, 45), (⟨"SoupReaderModel", "takeName", "()I"⟩, 45), (⟨"SoupReaderModel", "wrongName", "(I)I"⟩, 45)]
theorem lw_r4 : ∀ q ∈ lw_privs_4, lw_okq q := List.forall_mem_cons.mpr ⟨lw_p48, List.forall_mem_cons.mpr ⟨lw_p49, List.forall_mem_cons.mpr ⟨lw_p50, List.forall_mem_cons.mpr ⟨lw_p51, List.forall_mem_cons.mpr ⟨lw_p52, List.forall_mem_cons.mpr ⟨lw_p53, List.forall_mem_cons.mpr ⟨lw_p54, List.forall_mem_cons.mpr ⟨lw_p55, List.forall_mem_cons.mpr ⟨lw_p56, List.forall_mem_cons.mpr ⟨lw_p57, List.forall_mem_cons.mpr ⟨lw_p58, List.forall_mem_cons.mpr ⟨lw_p59, List.forall_mem_cons.mpr ⟨lw_p60, List.forall_mem_cons.mpr ⟨lw_p61, List.forall_mem_cons.mpr ⟨lw_p62, List.forall_mem_cons.mpr ⟨lw_p63, fun _ h => absurd h List.not_mem_nil⟩⟩⟩⟩⟩⟩⟩⟩⟩⟩⟩⟩⟩⟩⟩⟩
theorem lw_p64 : lw_okq (⟨"SoupReaderModel", "isElement", "(I)Z"⟩, 45) := ⟨⟨by decide +kernel, by decide +kernel⟩, List.mem_of_getElem? (i := 752) (by decide +kernel), List.mem_of_getElem? (i := 1089) (by decide +kernel), List.mem_of_getElem? (i := 1090) (by decide +kernel)⟩
theorem lw_p65 : lw_okq (⟨"SoupReaderModel", "attributeNamed", "(II)I"⟩, 45) := ⟨⟨by decide +kernel, by decide +kernel⟩, List.mem_of_getElem? (i := 752) (by decide +kernel), List.mem_of_getElem? (i := 1093) (by decide +kernel), List.mem_of_getElem? (i := 1094) (by decide +kernel)⟩
theorem lw_p66 : lw_okq (⟨"SoupReaderModel", "remove0", "(I)V"⟩, 45) := ⟨⟨by decide +kernel, by decide +kernel⟩, List.mem_of_getElem? (i := 752) (by decide +kernel), List.mem_of_getElem? (i := 1113) (by decide +kernel), List.mem_of_getElem? (i := 1114) (by decide +kernel)⟩
theorem lw_p67 : lw_okq (⟨"SoupReaderModel", "after", "(II)I"⟩, 45) := ⟨⟨by decide +kernel, by decide +kernel⟩, List.mem_of_getElem? (i := 752) (by decide +kernel), List.mem_of_getElem? (i := 1117) (by decide +kernel), List.mem_of_getElem? (i := 1118) (by decide +kernel)⟩
theorem lw_p68 : lw_okq (⟨"SoupReaderModel", "behind", "(II)I"⟩, 45) := ⟨⟨by decide +kernel, by decide +kernel⟩, List.mem_of_getElem? (i := 752) (by decide +kernel), List.mem_of_getElem? (i := 1121) (by decide +kernel), List.mem_of_getElem? (i := 1122) (by decide +kernel)⟩
def lw_privs_5 : List (MethodName × Nat) := [(⟨"SoupReaderModel", "isElement", "(I)Z"⟩, 45), (⟨"SoupReaderModel", "attributeNamed", "(II)I"⟩, 45), (⟨"SoupReaderModel", "remove0", "(I)V"⟩, 45), (⟨"SoupReaderModel", "after", "(II)I"⟩, 45), (⟨"SoupReaderModel", "behind", "(II)I"⟩, 45)]
theorem lw_r5 : ∀ q ∈ lw_privs_5, lw_okq q := List.forall_mem_cons.mpr ⟨lw_p64, List.forall_mem_cons.mpr ⟨lw_p65, List.forall_mem_cons.mpr ⟨lw_p66, List.forall_mem_cons.mpr ⟨lw_p67, List.forall_mem_cons.mpr ⟨lw_p68, fun _ h => absurd h List.not_mem_nil⟩⟩⟩⟩⟩
def lw_privs : List (MethodName × Nat) := lw_privs_1 ++ (lw_privs_2 ++ (lw_privs_3 ++ (lw_privs_4 ++ (lw_privs_5))))
def lw_tbl : List Cond := k2_sels lw_privs ++ tables_1
theorem lw_privs_ok : ∀ q ∈ lw_privs, lw_okq q := by
  show ∀ q ∈ lw_privs_1 ++ (lw_privs_2 ++ (lw_privs_3 ++ (lw_privs_4 ++ (lw_privs_5)))), lw_okq q
  exact List.forall_mem_append.mpr ⟨lw_r1, List.forall_mem_append.mpr ⟨lw_r2, List.forall_mem_append.mpr ⟨lw_r3, List.forall_mem_append.mpr ⟨lw_r4, lw_r5⟩⟩⟩⟩
-- ===== end of PART A; then your names; then what follows =====
end
section
/-! ===== BEGIN words of one list among another's, by their places ===== -/
theorem goodIn_r {big : List Cond} (ws : List Cond) (ps : List Nat) (hp : ws = ps.filterMap (fun i => big[i]?)) (h : ws.all goodWord = true) : GoodIn big ws := by
  intro w hw
  have h1 := List.all_eq_true.mp h w hw
  rw [hp] at hw
  obtain ⟨i, -, hi⟩ := List.mem_filterMap.mp hw
  have hm : w ∈ big := by first | exact List.mem_of_getElem? hi | exact List.getElem?_mem hi
  exact ⟨hm, good_of_word h1⟩
theorem goodIn_app {big a b : List Cond} (ha : GoodIn big a) (hb : GoodIn big b) : GoodIn big (a ++ b) := fun w h => (List.mem_append.mp h).elim (ha w) (hb w)
theorem goodIn_ca {big a b : List Cond} {c : Cond} (ha : GoodIn big (c :: a)) (hb : GoodIn big b) : GoodIn big (c :: (a ++ b)) := fun w h => (List.mem_cons.mp h).elim (fun e => ha w (List.mem_cons.mpr (Or.inl e))) (fun h => (List.mem_append.mp h).elim (fun h => ha w (List.mem_cons.mpr (Or.inr h))) (hb w))
theorem goodIn_sub {big ws : List Cond} (hm : ∀ w ∈ ws, w ∈ big) (h : ws.all goodWord = true) : GoodIn big ws := fun w hw => ⟨hm w hw, good_of_word (List.all_eq_true.mp h w hw)⟩
/-! ===== END ===== -/

/-! ===== BEGIN printed: names, fields, word lists, decode rows ===== -/
def RX0 : String := "SoupReader$Attribute"
def TX0 : u_T := fun k => match k with
  | 0 => ("SoupReader$Attribute", "attributeName", "J", false)
  | 1 => ("SoupReader$Attribute", "value", "[B", true)
  | _ => ("SoupReader$Attribute", "length", "I", false)
def tyX0 : Nat → FieldType := fun k => match k with
  | 0 => .long
  | 1 => .array .byte
  | _ => .int
abbrev wsX00 : List Cond := u_ws RX0 TX0 3
theorem nmX0 : ∀ a, a < 3 → ∀ b, b < 3 → a ≠ b → (TX0 a).2.1 ≠ (TX0 b).2.1 := by decide +kernel
theorem tyX0_ok : ∀ k, k < 3 → parseFieldDescriptor (TX0 k).2.2.1 = some (tyX0 k) := by decide +kernel
abbrev cX0_init : ByteArray := prog_2_method_1_code
def yX0_init : MethodName := ⟨RX0, "<init>", "()V"⟩
abbrev cX0_begin : ByteArray := prog_2_method_2_code
def yX0_begin : MethodName := ⟨RX0, "begin", "(J)V"⟩
abbrev cX0_put : ByteArray := prog_2_method_3_code
def yX0_put : MethodName := ⟨RX0, "put", "(I)V"⟩
abbrev cX0_takeValueOf : ByteArray := prog_2_method_4_code
def yX0_takeValueOf : MethodName := ⟨RX0, "takeValueOf", "(LSoupReader$Attribute;)V"⟩
def RX1 : String := "SoupReader$Attributes"
def TX1 : u_T := fun k => match k with
  | 0 => ("SoupReader$Attributes", "items", "[LSoupReader$Attribute;", true)
  | _ => ("SoupReader$Attributes", "count", "I", false)
def tyX1 : Nat → FieldType := fun k => match k with
  | 0 => .array (.object "SoupReader$Attribute")
  | _ => .int
abbrev wsX10 : List Cond := u_ws RX1 TX1 2
theorem nmX1 : ∀ a, a < 2 → ∀ b, b < 2 → a ≠ b → (TX1 a).2.1 ≠ (TX1 b).2.1 := by decide +kernel
theorem tyX1_ok : ∀ k, k < 2 → parseFieldDescriptor (TX1 k).2.2.1 = some (tyX1 k) := by decide +kernel
abbrev cX1_init : ByteArray := prog_3_method_1_code
def yX1_init : MethodName := ⟨RX1, "<init>", "()V"⟩
abbrev cX1_itemAt : ByteArray := prog_3_method_2_code
def yX1_itemAt : MethodName := ⟨RX1, "itemAt", "(I)LSoupReader$Attribute;"⟩
abbrev cX1_named : ByteArray := prog_3_method_3_code
def yX1_named : MethodName := ⟨RX1, "named", "(J)LSoupReader$Attribute;"⟩
abbrev cX1_grow : ByteArray := prog_3_method_4_code
def yX1_grow : MethodName := ⟨RX1, "grow", "(J)LSoupReader$Attribute;"⟩
abbrev cX1_copyFrom : ByteArray := prog_3_method_5_code
def yX1_copyFrom : MethodName := ⟨RX1, "copyFrom", "(LSoupReader$Attributes;)V"⟩
def RX2 : String := "SoupReader$Faults"
def TX2 : u_T := fun k => match k with
  | 0 => ("SoupReader$Faults", "kinds", "[I", true)
  | 1 => ("SoupReader$Faults", "places", "[I", true)
  | _ => ("SoupReader$Faults", "count", "I", false)
def tyX2 : Nat → FieldType := fun k => match k with
  | 0 => .array .int
  | 1 => .array .int
  | _ => .int
abbrev wsX20 : List Cond := u_ws RX2 TX2 3
theorem nmX2 : ∀ a, a < 3 → ∀ b, b < 3 → a ≠ b → (TX2 a).2.1 ≠ (TX2 b).2.1 := by decide +kernel
theorem tyX2_ok : ∀ k, k < 3 → parseFieldDescriptor (TX2 k).2.2.1 = some (tyX2 k) := by decide +kernel
abbrev cX2_init : ByteArray := prog_4_method_1_code
def yX2_init : MethodName := ⟨RX2, "<init>", "()V"⟩
abbrev cX2_tell : ByteArray := prog_4_method_2_code
def yX2_tell : MethodName := ⟨RX2, "tell", "(II)V"⟩
abbrev cX2_kindOf : ByteArray := prog_4_method_3_code
def yX2_kindOf : MethodName := ⟨RX2, "kindOf", "(I)I"⟩
abbrev cX2_placeOf : ByteArray := prog_4_method_4_code
def yX2_placeOf : MethodName := ⟨RX2, "placeOf", "(I)I"⟩
abbrev cX2_isKept : ByteArray := prog_4_method_5_code
def yX2_isKept : MethodName := ⟨RX2, "isKept", "(I)Z"⟩
def RX3 : String := "SoupReader$Node"
def TX3 : u_T := fun k => match k with
  | 0 => ("SoupReader$Node", "number", "I", true)
  | 1 => ("SoupReader$Node", "attributes", "LSoupReader$Attributes;", true)
  | 2 => ("SoupReader$Node", "used", "Z", false)
  | 3 => ("SoupReader$Node", "tag", "I", false)
  | 4 => ("SoupReader$Node", "tagName", "J", false)
  | 5 => ("SoupReader$Node", "depth", "I", false)
  | 6 => ("SoupReader$Node", "up", "LSoupReader$Node;", false)
  | 7 => ("SoupReader$Node", "before", "LSoupReader$Node;", false)
  | 8 => ("SoupReader$Node", "next", "LSoupReader$Node;", false)
  | 9 => ("SoupReader$Node", "first", "LSoupReader$Node;", false)
  | 10 => ("SoupReader$Node", "last", "LSoupReader$Node;", false)
  | 11 => ("SoupReader$Node", "bytes", "[B", false)
  | 12 => ("SoupReader$Node", "length", "I", false)
  | _ => ("SoupReader$Node", "toldTooLong", "Z", false)
def tyX3 : Nat → FieldType := fun k => match k with
  | 0 => .int
  | 1 => .object "SoupReader$Attributes"
  | 2 => .boolean
  | 3 => .int
  | 4 => .long
  | 5 => .int
  | 6 => .object "SoupReader$Node"
  | 7 => .object "SoupReader$Node"
  | 8 => .object "SoupReader$Node"
  | 9 => .object "SoupReader$Node"
  | 10 => .object "SoupReader$Node"
  | 11 => .array .byte
  | 12 => .int
  | _ => .boolean
abbrev wsX30 : List Cond := u_ws RX3 TX3 14
theorem nmX3 : ∀ a, a < 14 → ∀ b, b < 14 → a ≠ b → (TX3 a).2.1 ≠ (TX3 b).2.1 := by decide +kernel
theorem tyX3_ok : ∀ k, k < 14 → parseFieldDescriptor (TX3 k).2.2.1 = some (tyX3 k) := by decide +kernel
abbrev cX3_init : ByteArray := prog_5_method_1_code
def yX3_init : MethodName := ⟨RX3, "<init>", "(I)V"⟩
abbrev cX3_begin : ByteArray := prog_5_method_2_code
def yX3_begin : MethodName := ⟨RX3, "begin", "(IJ)V"⟩
abbrev cX3_putByte : ByteArray := prog_5_method_3_code
def yX3_putByte : MethodName := ⟨RX3, "putByte", "(I)Z"⟩
abbrev cX3_takeBytes : ByteArray := prog_5_method_4_code
def yX3_takeBytes : MethodName := ⟨RX3, "takeBytes", "([BI)V"⟩
abbrev cX3_linkLast : ByteArray := prog_5_method_5_code
def yX3_linkLast : MethodName := ⟨RX3, "linkLast", "(LSoupReader$Node;)V"⟩
abbrev cX3_unlink : ByteArray := prog_5_method_6_code
def yX3_unlink : MethodName := ⟨RX3, "unlink", "()V"⟩
abbrev cX3_kidCount : ByteArray := prog_5_method_7_code
def yX3_kidCount : MethodName := ⟨RX3, "kidCount", "()I"⟩
abbrev cX3_rank : ByteArray := prog_5_method_8_code
def yX3_rank : MethodName := ⟨RX3, "rank", "()I"⟩
abbrev cX3_nextInTree : ByteArray := prog_5_method_9_code
def yX3_nextInTree : MethodName := ⟨RX3, "nextInTree", "()LSoupReader$Node;"⟩
def RX4 : String := "SoupReader$Out"
def TX4 : u_T := fun k => match k with
  | 0 => ("SoupReader$Out", "bytes", "[B", true)
  | _ => ("SoupReader$Out", "length", "I", false)
def tyX4 : Nat → FieldType := fun k => match k with
  | 0 => .array .byte
  | _ => .int
abbrev wsX40 : List Cond := u_ws RX4 TX4 2
theorem nmX4 : ∀ a, a < 2 → ∀ b, b < 2 → a ≠ b → (TX4 a).2.1 ≠ (TX4 b).2.1 := by decide +kernel
theorem tyX4_ok : ∀ k, k < 2 → parseFieldDescriptor (TX4 k).2.2.1 = some (tyX4 k) := by decide +kernel
abbrev cX4_init : ByteArray := prog_6_method_1_code
def yX4_init : MethodName := ⟨RX4, "<init>", "()V"⟩
abbrev cX4_byteAt : ByteArray := prog_6_method_2_code
def yX4_byteAt : MethodName := ⟨RX4, "byteAt", "(I)I"⟩
abbrev cX4_put : ByteArray := prog_6_method_3_code
def yX4_put : MethodName := ⟨RX4, "put", "(I)V"⟩
abbrev cX4_putWord : ByteArray := prog_6_method_4_code
def yX4_putWord : MethodName := ⟨RX4, "putWord", "(Ljava/lang/String;)V"⟩
abbrev cX4_putName : ByteArray := prog_6_method_5_code
def yX4_putName : MethodName := ⟨RX4, "putName", "(J)V"⟩
abbrev cX4_putBytes : ByteArray := prog_6_method_6_code
def yX4_putBytes : MethodName := ⟨RX4, "putBytes", "([BI)V"⟩
abbrev cX4_putEscaped : ByteArray := prog_6_method_7_code
def yX4_putEscaped : MethodName := ⟨RX4, "putEscaped", "([BI)V"⟩
def RX5 : String := "SoupReader$PageReader"
def TX5 : u_T := fun k => match k with
  | 0 => ("SoupReader$PageReader", "page", "LSoupReader$Tape;", true)
  | 1 => ("SoupReader$PageReader", "tree", "LSoupReader$Tree;", true)
  | 2 => ("SoupReader$PageReader", "faults", "LSoupReader$Faults;", true)
  | 3 => ("SoupReader$PageReader", "seen", "LSoupReader$Attributes;", true)
  | 4 => ("SoupReader$PageReader", "open", "[LSoupReader$Node;", true)
  | 5 => ("SoupReader$PageReader", "places", "[I", true)
  | 6 => ("SoupReader$PageReader", "openCount", "I", false)
  | _ => ("SoupReader$PageReader", "at", "I", false)
def tyX5 : Nat → FieldType := fun k => match k with
  | 0 => .object "SoupReader$Tape"
  | 1 => .object "SoupReader$Tree"
  | 2 => .object "SoupReader$Faults"
  | 3 => .object "SoupReader$Attributes"
  | 4 => .array (.object "SoupReader$Node")
  | 5 => .array .int
  | 6 => .int
  | _ => .int
abbrev wsX50 : List Cond := u_ws RX5 TX5 8
theorem nmX5 : ∀ a, a < 8 → ∀ b, b < 8 → a ≠ b → (TX5 a).2.1 ≠ (TX5 b).2.1 := by decide +kernel
theorem tyX5_ok : ∀ k, k < 8 → parseFieldDescriptor (TX5 k).2.2.1 = some (tyX5 k) := by decide +kernel
abbrev cX5_init : ByteArray := prog_7_method_1_code
def yX5_init : MethodName := ⟨RX5, "<init>", "(LSoupReader$Tape;LSoupReader$Tree;LSoupReader$Faults;)V"⟩
abbrev cX5_readAll : ByteArray := prog_7_method_2_code
def yX5_readAll : MethodName := ⟨RX5, "readAll", "()V"⟩
abbrev cX5_skipRun : ByteArray := prog_7_method_3_code
def yX5_skipRun : MethodName := ⟨RX5, "skipRun", "(Z)V"⟩
abbrev cX5_endsRun : ByteArray := prog_7_method_4_code
def yX5_endsRun : MethodName := ⟨RX5, "endsRun", "(IZ)Z"⟩
abbrev cX5_startsTag : ByteArray := prog_7_method_5_code
def yX5_startsTag : MethodName := ⟨RX5, "startsTag", "(I)Z"⟩
abbrev cX5_takeRun : ByteArray := prog_7_method_6_code
def yX5_takeRun : MethodName := ⟨RX5, "takeRun", "(IIZ)V"⟩
abbrev cX5_textFor : ByteArray := prog_7_method_7_code
def yX5_textFor : MethodName := ⟨RX5, "textFor", "(II)LSoupReader$Node;"⟩
abbrev cX5_isAllBlank : ByteArray := prog_7_method_8_code
def yX5_isAllBlank : MethodName := ⟨RX5, "isAllBlank", "(II)Z"⟩
abbrev cX5_tellTooLong : ByteArray := prog_7_method_9_code
def yX5_tellTooLong : MethodName := ⟨RX5, "tellTooLong", "(LSoupReader$Node;I)V"⟩
abbrev cX5_readComment : ByteArray := prog_7_method_10_code
def yX5_readComment : MethodName := ⟨RX5, "readComment", "()V"⟩
abbrev cX5_readTag : ByteArray := prog_7_method_11_code
def yX5_readTag : MethodName := ⟨RX5, "readTag", "()V"⟩
abbrev cX5_readTagName : ByteArray := prog_7_method_12_code
def yX5_readTagName : MethodName := ⟨RX5, "readTagName", "()J"⟩
abbrev cX5_partsAttributes : ByteArray := prog_7_method_13_code
def yX5_partsAttributes : MethodName := ⟨RX5, "partsAttributes", "(I)Z"⟩
abbrev cX5_readAttribute : ByteArray := prog_7_method_14_code
def yX5_readAttribute : MethodName := ⟨RX5, "readAttribute", "(Z)V"⟩
abbrev cX5_takeAttribute : ByteArray := prog_7_method_15_code
def yX5_takeAttribute : MethodName := ⟨RX5, "takeAttribute", "(JI)LSoupReader$Attribute;"⟩
abbrev cX5_readAttributeName : ByteArray := prog_7_method_16_code
def yX5_readAttributeName : MethodName := ⟨RX5, "readAttributeName", "()J"⟩
abbrev cX5_endsAttributeName : ByteArray := prog_7_method_17_code
def yX5_endsAttributeName : MethodName := ⟨RX5, "endsAttributeName", "(I)Z"⟩
abbrev cX5_readValue : ByteArray := prog_7_method_18_code
def yX5_readValue : MethodName := ⟨RX5, "readValue", "(LSoupReader$Attribute;)V"⟩
abbrev cX5_endsValue : ByteArray := prog_7_method_19_code
def yX5_endsValue : MethodName := ⟨RX5, "endsValue", "(IZI)Z"⟩
abbrev cX5_entityAt : ByteArray := prog_7_method_20_code
def yX5_entityAt : MethodName := ⟨RX5, "entityAt", "(I)I"⟩
abbrev cX5_widthOf : ByteArray := prog_7_method_21_code
def yX5_widthOf : MethodName := ⟨RX5, "widthOf", "(I)I"⟩
abbrev cX5_takeEndTag : ByteArray := prog_7_method_22_code
def yX5_takeEndTag : MethodName := ⟨RX5, "takeEndTag", "(JI)V"⟩
abbrev cX5_takeStartTag : ByteArray := prog_7_method_23_code
def yX5_takeStartTag : MethodName := ⟨RX5, "takeStartTag", "(JI)V"⟩
abbrev cX5_closeBefore : ByteArray := prog_7_method_24_code
def yX5_closeBefore : MethodName := ⟨RX5, "closeBefore", "(II)V"⟩
abbrev cX5_closeDownTo : ByteArray := prog_7_method_25_code
def yX5_closeDownTo : MethodName := ⟨RX5, "closeDownTo", "(I)V"⟩
abbrev cX5_push : ByteArray := prog_7_method_26_code
def yX5_push : MethodName := ⟨RX5, "push", "(LSoupReader$Node;I)V"⟩
abbrev cX5_innermostOf : ByteArray := prog_7_method_27_code
def yX5_innermostOf : MethodName := ⟨RX5, "innermostOf", "(I)I"⟩
abbrev cX5_innermostNamed : ByteArray := prog_7_method_28_code
def yX5_innermostNamed : MethodName := ⟨RX5, "innermostNamed", "(J)I"⟩
abbrev cX5_innermost : ByteArray := prog_7_method_29_code
def yX5_innermost : MethodName := ⟨RX5, "innermost", "()LSoupReader$Node;"⟩
abbrev cX5_tagOpenAt : ByteArray := prog_7_method_30_code
def yX5_tagOpenAt : MethodName := ⟨RX5, "tagOpenAt", "(I)I"⟩
abbrev cX5_placeOpenAt : ByteArray := prog_7_method_31_code
def yX5_placeOpenAt : MethodName := ⟨RX5, "placeOpenAt", "(I)I"⟩
abbrev cX5_openAt : ByteArray := prog_7_method_32_code
def yX5_openAt : MethodName := ⟨RX5, "openAt", "(I)LSoupReader$Node;"⟩
def RX6 : String := "SoupReader$Tape"
def TX6 : u_T := fun k => match k with
  | 0 => ("SoupReader$Tape", "bytes", "[B", true)
  | _ => ("SoupReader$Tape", "length", "I", false)
def tyX6 : Nat → FieldType := fun k => match k with
  | 0 => .array .byte
  | _ => .int
abbrev wsX60 : List Cond := u_ws RX6 TX6 2
theorem nmX6 : ∀ a, a < 2 → ∀ b, b < 2 → a ≠ b → (TX6 a).2.1 ≠ (TX6 b).2.1 := by decide +kernel
theorem tyX6_ok : ∀ k, k < 2 → parseFieldDescriptor (TX6 k).2.2.1 = some (tyX6 k) := by decide +kernel
abbrev cX6_init : ByteArray := prog_8_method_1_code
def yX6_init : MethodName := ⟨RX6, "<init>", "()V"⟩
abbrev cX6_pushInt : ByteArray := prog_8_method_2_code
def yX6_pushInt : MethodName := ⟨RX6, "pushInt", "(I)V"⟩
abbrev cX6_pushByte : ByteArray := prog_8_method_3_code
def yX6_pushByte : MethodName := ⟨RX6, "pushByte", "(I)V"⟩
abbrev cX6_byteAt : ByteArray := prog_8_method_4_code
def yX6_byteAt : MethodName := ⟨RX6, "byteAt", "(I)I"⟩
abbrev cX6_holds : ByteArray := prog_8_method_5_code
def yX6_holds : MethodName := ⟨RX6, "holds", "(Ljava/lang/String;I)Z"⟩
abbrev cX6_badPlace : ByteArray := prog_8_method_6_code
def yX6_badPlace : MethodName := ⟨RX6, "badPlace", "()I"⟩
abbrev cX6_nameLength : ByteArray := prog_8_method_7_code
def yX6_nameLength : MethodName := ⟨RX6, "nameLength", "()I"⟩
abbrev cX6_canBeInName : ByteArray := prog_8_method_8_code
def yX6_canBeInName : MethodName := ⟨RX6, "canBeInName", "(II)Z"⟩
abbrev cX6_wrongAsName : ByteArray := prog_8_method_9_code
def yX6_wrongAsName : MethodName := ⟨RX6, "wrongAsName", "()I"⟩
abbrev cX6_wrongAsSetting : ByteArray := prog_8_method_10_code
def yX6_wrongAsSetting : MethodName := ⟨RX6, "wrongAsSetting", "()I"⟩
abbrev cX6_packed : ByteArray := prog_8_method_11_code
def yX6_packed : MethodName := ⟨RX6, "packed", "(I)J"⟩
def RX7 : String := "SoupReader$Tree"
def TX7 : u_T := fun k => match k with
  | 0 => ("SoupReader$Tree", "nodes", "[LSoupReader$Node;", true)
  | 1 => ("SoupReader$Tree", "root", "LSoupReader$Node;", true)
  | _ => ("SoupReader$Tree", "count", "I", false)
def tyX7 : Nat → FieldType := fun k => match k with
  | 0 => .array (.object "SoupReader$Node")
  | 1 => .object "SoupReader$Node"
  | _ => .int
abbrev wsX70 : List Cond := u_ws RX7 TX7 3
theorem nmX7 : ∀ a, a < 3 → ∀ b, b < 3 → a ≠ b → (TX7 a).2.1 ≠ (TX7 b).2.1 := by decide +kernel
theorem tyX7_ok : ∀ k, k < 3 → parseFieldDescriptor (TX7 k).2.2.1 = some (tyX7 k) := by decide +kernel
abbrev cX7_init : ByteArray := prog_9_method_1_code
def yX7_init : MethodName := ⟨RX7, "<init>", "()V"⟩
abbrev cX7_restart : ByteArray := prog_9_method_2_code
def yX7_restart : MethodName := ⟨RX7, "restart", "()V"⟩
abbrev cX7_nodeAt : ByteArray := prog_9_method_3_code
def yX7_nodeAt : MethodName := ⟨RX7, "nodeAt", "(I)LSoupReader$Node;"⟩
abbrev cX7_elementAt : ByteArray := prog_9_method_4_code
def yX7_elementAt : MethodName := ⟨RX7, "elementAt", "(I)LSoupReader$Node;"⟩
abbrev cX7_grow : ByteArray := prog_9_method_5_code
def yX7_grow : MethodName := ⟨RX7, "grow", "(LSoupReader$Node;IJ)LSoupReader$Node;"⟩
abbrev cX7_leastFree : ByteArray := prog_9_method_6_code
def yX7_leastFree : MethodName := ⟨RX7, "leastFree", "()I"⟩
abbrev cX7_drop : ByteArray := prog_9_method_7_code
def yX7_drop : MethodName := ⟨RX7, "drop", "(LSoupReader$Node;)V"⟩
abbrev cX7_dropAllIn : ByteArray := prog_9_method_8_code
def yX7_dropAllIn : MethodName := ⟨RX7, "dropAllIn", "(LSoupReader$Node;)V"⟩
abbrev cX7_release : ByteArray := prog_9_method_9_code
def yX7_release : MethodName := ⟨RX7, "release", "(LSoupReader$Node;I)V"⟩
def RX8 : String := "SoupReader"
def TX8 : u_T := fun k => match k with
  | 0 => ("SoupReader", "tape", "LSoupReader$Tape;", true)
  | 1 => ("SoupReader", "written", "LSoupReader$Out;", true)
  | 2 => ("SoupReader", "told", "LSoupReader$Faults;", true)
  | 3 => ("SoupReader", "tree", "LSoupReader$Tree;", true)
  | _ => ("SoupReader", "reader", "LSoupReader$PageReader;", true)
def tyX8 : Nat → FieldType := fun k => match k with
  | 0 => .object "SoupReader$Tape"
  | 1 => .object "SoupReader$Out"
  | 2 => .object "SoupReader$Faults"
  | 3 => .object "SoupReader$Tree"
  | _ => .object "SoupReader$PageReader"
abbrev wsX80 : List Cond := u_ws RX8 TX8 5
theorem nmX8 : ∀ a, a < 5 → ∀ b, b < 5 → a ≠ b → (TX8 a).2.1 ≠ (TX8 b).2.1 := by decide +kernel
theorem tyX8_ok : ∀ k, k < 5 → parseFieldDescriptor (TX8 k).2.2.1 = some (tyX8 k) := by decide +kernel
abbrev cX8_init : ByteArray := prog_1_method_1_code
def yX8_init : MethodName := ⟨RX8, "<init>", "()V"⟩
abbrev cX8_feed : ByteArray := prog_1_method_2_code
def yX8_feed : MethodName := ⟨RX8, "feed", "(IIIII)I"⟩
abbrev cX8_end : ByteArray := prog_1_method_3_code
def yX8_end : MethodName := ⟨RX8, "end", "(I)I"⟩
abbrev cX8_out : ByteArray := prog_1_method_4_code
def yX8_out : MethodName := ⟨RX8, "out", "(I)I"⟩
abbrev cX8_page : ByteArray := prog_1_method_5_code
def yX8_page : MethodName := ⟨RX8, "page", "()I"⟩
abbrev cX8_node : ByteArray := prog_1_method_6_code
def yX8_node : MethodName := ⟨RX8, "node", "(II)I"⟩
abbrev cX8_kid : ByteArray := prog_1_method_7_code
def yX8_kid : MethodName := ⟨RX8, "kid", "(II)I"⟩
abbrev cX8_name : ByteArray := prog_1_method_8_code
def yX8_name : MethodName := ⟨RX8, "name", "(I)I"⟩
abbrev cX8_attribute : ByteArray := prog_1_method_9_code
def yX8_attribute : MethodName := ⟨RX8, "attribute", "(I)I"⟩
abbrev cX8_serialise : ByteArray := prog_1_method_10_code
def yX8_serialise : MethodName := ⟨RX8, "serialise", "(I)I"⟩
abbrev cX8_fault : ByteArray := prog_1_method_11_code
def yX8_fault : MethodName := ⟨RX8, "fault", "(II)I"⟩
abbrev cX8_faults : ByteArray := prog_1_method_12_code
def yX8_faults : MethodName := ⟨RX8, "faults", "()I"⟩
abbrev cX8_add : ByteArray := prog_1_method_13_code
def yX8_add : MethodName := ⟨RX8, "add", "(I)I"⟩
abbrev cX8_text : ByteArray := prog_1_method_14_code
def yX8_text : MethodName := ⟨RX8, "text", "(I)I"⟩
abbrev cX8_set : ByteArray := prog_1_method_15_code
def yX8_set : MethodName := ⟨RX8, "set", "(I)I"⟩
abbrev cX8_remove : ByteArray := prog_1_method_16_code
def yX8_remove : MethodName := ⟨RX8, "remove", "(I)I"⟩
abbrev cX8_find : ByteArray := prog_1_method_17_code
def yX8_find : MethodName := ⟨RX8, "find", "(I)I"⟩
abbrev cX8_writeValue : ByteArray := prog_1_method_18_code
def yX8_writeValue : MethodName := ⟨RX8, "writeValue", "(I)I"⟩
abbrev cX8_addElement : ByteArray := prog_1_method_19_code
def yX8_addElement : MethodName := ⟨RX8, "addElement", "(I)I"⟩
abbrev cX8_replaceByText : ByteArray := prog_1_method_20_code
def yX8_replaceByText : MethodName := ⟨RX8, "replaceByText", "(I)I"⟩
abbrev cX8_setAttribute : ByteArray := prog_1_method_21_code
def yX8_setAttribute : MethodName := ⟨RX8, "setAttribute", "(I)I"⟩
abbrev cX8_findElement : ByteArray := prog_1_method_22_code
def yX8_findElement : MethodName := ⟨RX8, "findElement", "(I)I"⟩
abbrev cX8_writeNode : ByteArray := prog_1_method_23_code
def yX8_writeNode : MethodName := ⟨RX8, "writeNode", "(LSoupReader$Node;I)V"⟩
abbrev cX8_writeText : ByteArray := prog_1_method_24_code
def yX8_writeText : MethodName := ⟨RX8, "writeText", "(LSoupReader$Node;)V"⟩
abbrev cX8_writeStartTag : ByteArray := prog_1_method_25_code
def yX8_writeStartTag : MethodName := ⟨RX8, "writeStartTag", "(LSoupReader$Node;)V"⟩
abbrev cX8_isEmptyTag : ByteArray := prog_1_method_26_code
def yX8_isEmptyTag : MethodName := ⟨RX8, "isEmptyTag", "(I)Z"⟩
abbrev cX8_isBlockTag : ByteArray := prog_1_method_27_code
def yX8_isBlockTag : MethodName := ⟨RX8, "isBlockTag", "(I)Z"⟩
abbrev cX8_tagOf : ByteArray := prog_1_method_28_code
def yX8_tagOf : MethodName := ⟨RX8, "tagOf", "(J)I"⟩
abbrev cX8_longer : ByteArray := prog_1_method_29_code
def yX8_longer : MethodName := ⟨RX8, "longer", "(JI)J"⟩
abbrev cX8_isSmallLetter : ByteArray := prog_1_method_30_code
def yX8_isSmallLetter : MethodName := ⟨RX8, "isSmallLetter", "(I)Z"⟩
abbrev cX8_isDigit : ByteArray := prog_1_method_31_code
def yX8_isDigit : MethodName := ⟨RX8, "isDigit", "(I)Z"⟩
abbrev cX8_isBlank : ByteArray := prog_1_method_32_code
def yX8_isBlank : MethodName := ⟨RX8, "isBlank", "(I)Z"⟩
abbrev cX8_asSmall : ByteArray := prog_1_method_33_code
def yX8_asSmall : MethodName := ⟨RX8, "asSmall", "(I)I"⟩
def RX9 : String := "SoupReaderModel"
def TX9 : u_T := fun k => match k with
  | 0 => ("SoupReaderModel", "tape", "[B", true)
  | 1 => ("SoupReaderModel", "taped", "I", false)
  | 2 => ("SoupReaderModel", "text", "[B", true)
  | 3 => ("SoupReaderModel", "tn", "I", false)
  | 4 => ("SoupReaderModel", "out", "[B", true)
  | 5 => ("SoupReaderModel", "outSize", "I", false)
  | 6 => ("SoupReaderModel", "is", "[Z", true)
  | 7 => ("SoupReaderModel", "tag", "[I", true)
  | 8 => ("SoupReaderModel", "name", "[B", true)
  | 9 => ("SoupReaderModel", "nameSize", "[I", true)
  | 10 => ("SoupReaderModel", "parent", "[I", true)
  | 11 => ("SoupReaderModel", "firstKid", "[I", true)
  | 12 => ("SoupReaderModel", "lastKid", "[I", true)
  | 13 => ("SoupReaderModel", "next", "[I", true)
  | 14 => ("SoupReaderModel", "before", "[I", true)
  | 15 => ("SoupReaderModel", "depth", "[I", true)
  | 16 => ("SoupReaderModel", "attributes", "[I", true)
  | 17 => ("SoupReaderModel", "attributeName", "[B", true)
  | 18 => ("SoupReaderModel", "attributeNameSize", "[I", true)
  | 19 => ("SoupReaderModel", "attributeValue", "[B", true)
  | 20 => ("SoupReaderModel", "attributeSize", "[I", true)
  | 21 => ("SoupReaderModel", "bytes", "[B", true)
  | 22 => ("SoupReaderModel", "byteCount", "[I", true)
  | 23 => ("SoupReaderModel", "isLong", "[Z", true)
  | 24 => ("SoupReaderModel", "begun", "[I", true)
  | 25 => ("SoupReaderModel", "nodes", "I", false)
  | 26 => ("SoupReaderModel", "faults", "I", false)
  | 27 => ("SoupReaderModel", "faultWhat", "[I", true)
  | 28 => ("SoupReaderModel", "faultPlace", "[I", true)
  | 29 => ("SoupReaderModel", "open", "[I", true)
  | 30 => ("SoupReaderModel", "opened", "I", false)
  | 31 => ("SoupReaderModel", "source", "[B", true)
  | 32 => ("SoupReaderModel", "sourceSize", "I", false)
  | 33 => ("SoupReaderModel", "entitySize", "I", false)
  | 34 => ("SoupReaderModel", "tagName", "[B", true)
  | 35 => ("SoupReaderModel", "tagSize", "I", false)
  | 36 => ("SoupReaderModel", "many", "I", false)
  | 37 => ("SoupReaderModel", "readName", "[B", true)
  | 38 => ("SoupReaderModel", "readNameSize", "[I", true)
  | 39 => ("SoupReaderModel", "readValue", "[B", true)
  | 40 => ("SoupReaderModel", "readSize", "[I", true)
  | 41 => ("SoupReaderModel", "twice", "I", false)
  | 42 => ("SoupReaderModel", "twiceAt", "[I", true)
  | 43 => ("SoupReaderModel", "oneName", "[B", true)
  | _ => ("SoupReaderModel", "oneValue", "[B", true)
def tyX9 : Nat → FieldType := fun k => match k with
  | 0 => .array .byte
  | 1 => .int
  | 2 => .array .byte
  | 3 => .int
  | 4 => .array .byte
  | 5 => .int
  | 6 => .array .boolean
  | 7 => .array .int
  | 8 => .array .byte
  | 9 => .array .int
  | 10 => .array .int
  | 11 => .array .int
  | 12 => .array .int
  | 13 => .array .int
  | 14 => .array .int
  | 15 => .array .int
  | 16 => .array .int
  | 17 => .array .byte
  | 18 => .array .int
  | 19 => .array .byte
  | 20 => .array .int
  | 21 => .array .byte
  | 22 => .array .int
  | 23 => .array .boolean
  | 24 => .array .int
  | 25 => .int
  | 26 => .int
  | 27 => .array .int
  | 28 => .array .int
  | 29 => .array .int
  | 30 => .int
  | 31 => .array .byte
  | 32 => .int
  | 33 => .int
  | 34 => .array .byte
  | 35 => .int
  | 36 => .int
  | 37 => .array .byte
  | 38 => .array .int
  | 39 => .array .byte
  | 40 => .array .int
  | 41 => .int
  | 42 => .array .int
  | 43 => .array .byte
  | _ => .array .byte
abbrev wsX90 : List Cond := u_ws RX9 TX9 45
theorem nmX9 : ∀ a, a < 45 → ∀ b, b < 45 → a ≠ b → (TX9 a).2.1 ≠ (TX9 b).2.1 := by decide +kernel
theorem tyX9_ok : ∀ k, k < 45 → parseFieldDescriptor (TX9 k).2.2.1 = some (tyX9 k) := by decide +kernel
abbrev cX9_say : ByteArray := prog_11_method_1_code
def yX9_say : MethodName := ⟨RX9, "say", "(I)V"⟩
abbrev cX9_sayAll : ByteArray := prog_11_method_2_code
def yX9_sayAll : MethodName := ⟨RX9, "sayAll", "([BII)V"⟩
abbrev cX9_take : ByteArray := prog_11_method_3_code
def yX9_take : MethodName := ⟨RX9, "take", "()I"⟩
abbrev cX9_wrong : ByteArray := prog_11_method_4_code
def yX9_wrong : MethodName := ⟨RX9, "wrong", "(I)I"⟩
abbrev cX9_isSmall : ByteArray := prog_11_method_5_code
def yX9_isSmall : MethodName := ⟨RX9, "isSmall", "(I)Z"⟩
abbrev cX9_isDigit : ByteArray := prog_11_method_6_code
def yX9_isDigit : MethodName := ⟨RX9, "isDigit", "(I)Z"⟩
abbrev cX9_isLetter : ByteArray := prog_11_method_7_code
def yX9_isLetter : MethodName := ⟨RX9, "isLetter", "(I)Z"⟩
abbrev cX9_small : ByteArray := prog_11_method_8_code
def yX9_small : MethodName := ⟨RX9, "small", "(I)I"⟩
abbrev cX9_isBlank : ByteArray := prog_11_method_9_code
def yX9_isBlank : MethodName := ⟨RX9, "isBlank", "(I)Z"⟩
abbrev cX9_same : ByteArray := prog_11_method_10_code
def yX9_same : MethodName := ⟨RX9, "same", "([BI[BII)Z"⟩
abbrev cX9_isWord : ByteArray := prog_11_method_11_code
def yX9_isWord : MethodName := ⟨RX9, "isWord", "([BIIJ)Z"⟩
abbrev cX9_lengthOf : ByteArray := prog_11_method_12_code
def yX9_lengthOf : MethodName := ⟨RX9, "lengthOf", "(J)I"⟩
abbrev cX9_isEmptyTag : ByteArray := prog_11_method_13_code
def yX9_isEmptyTag : MethodName := ⟨RX9, "isEmptyTag", "(I)Z"⟩
abbrev cX9_isBlockTag : ByteArray := prog_11_method_14_code
def yX9_isBlockTag : MethodName := ⟨RX9, "isBlockTag", "(I)Z"⟩
abbrev cX9_tagOf : ByteArray := prog_11_method_15_code
def yX9_tagOf : MethodName := ⟨RX9, "tagOf", "([BII)I"⟩
abbrev cX9_tagWord : ByteArray := prog_11_method_16_code
def yX9_tagWord : MethodName := ⟨RX9, "tagWord", "(I)J"⟩
abbrev cX9_emptyTree : ByteArray := prog_11_method_17_code
def yX9_emptyTree : MethodName := ⟨RX9, "emptyTree", "()V"⟩
abbrev cX9_fresh : ByteArray := prog_11_method_18_code
def yX9_fresh : MethodName := ⟨RX9, "fresh", "(I)I"⟩
abbrev cX9_after : ByteArray := prog_11_method_19_code
def yX9_after : MethodName := ⟨RX9, "after", "(II)I"⟩
abbrev cX9_behind : ByteArray := prog_11_method_20_code
def yX9_behind : MethodName := ⟨RX9, "behind", "(II)I"⟩
abbrev cX9_remove0 : ByteArray := prog_11_method_21_code
def yX9_remove0 : MethodName := ⟨RX9, "remove0", "(I)V"⟩
abbrev cX9_tellFault : ByteArray := prog_11_method_22_code
def yX9_tellFault : MethodName := ⟨RX9, "tellFault", "(II)V"⟩
abbrev cX9_isAt : ByteArray := prog_11_method_23_code
def yX9_isAt : MethodName := ⟨RX9, "isAt", "(IIII)Z"⟩
abbrev cX9_isNote : ByteArray := prog_11_method_24_code
def yX9_isNote : MethodName := ⟨RX9, "isNote", "(I)Z"⟩
abbrev cX9_isTag : ByteArray := prog_11_method_25_code
def yX9_isTag : MethodName := ⟨RX9, "isTag", "(I)Z"⟩
abbrev cX9_endsStyle : ByteArray := prog_11_method_26_code
def yX9_endsStyle : MethodName := ⟨RX9, "endsStyle", "(I)Z"⟩
abbrev cX9_readPage : ByteArray := prog_11_method_27_code
def yX9_readPage : MethodName := ⟨RX9, "readPage", "()V"⟩
abbrev cX9_note : ByteArray := prog_11_method_28_code
def yX9_note : MethodName := ⟨RX9, "note", "(I)I"⟩
abbrev cX9_entity : ByteArray := prog_11_method_29_code
def yX9_entity : MethodName := ⟨RX9, "entity", "([BII)I"⟩
abbrev cX9_run : ByteArray := prog_11_method_30_code
def yX9_run : MethodName := ⟨RX9, "run", "(IZ)I"⟩
abbrev cX9_readTag : ByteArray := prog_11_method_31_code
def yX9_readTag : MethodName := ⟨RX9, "readTag", "(I)I"⟩
abbrev cX9_readAttribute : ByteArray := prog_11_method_32_code
def yX9_readAttribute : MethodName := ⟨RX9, "readAttribute", "(I)I"⟩
abbrev cX9_closeTo : ByteArray := prog_11_method_33_code
def yX9_closeTo : MethodName := ⟨RX9, "closeTo", "(III)V"⟩
abbrev cX9_endTag : ByteArray := prog_11_method_34_code
def yX9_endTag : MethodName := ⟨RX9, "endTag", "(II)V"⟩
abbrev cX9_startTag : ByteArray := prog_11_method_35_code
def yX9_startTag : MethodName := ⟨RX9, "startTag", "(II)V"⟩
abbrev cX9_element : ByteArray := prog_11_method_36_code
def yX9_element : MethodName := ⟨RX9, "element", "(II)V"⟩
abbrev cX9_sayEscaped : ByteArray := prog_11_method_37_code
def yX9_sayEscaped : MethodName := ⟨RX9, "sayEscaped", "([BIIZ)V"⟩
abbrev cX9_sayBegin : ByteArray := prog_11_method_38_code
def yX9_sayBegin : MethodName := ⟨RX9, "sayBegin", "(I)V"⟩
abbrev cX9_sayEnd : ByteArray := prog_11_method_39_code
def yX9_sayEnd : MethodName := ⟨RX9, "sayEnd", "(I)V"⟩
abbrev cX9_serialise : ByteArray := prog_11_method_40_code
def yX9_serialise : MethodName := ⟨RX9, "serialise", "(I)I"⟩
abbrev cX9_there : ByteArray := prog_11_method_41_code
def yX9_there : MethodName := ⟨RX9, "there", "(I)Z"⟩
abbrev cX9_node : ByteArray := prog_11_method_42_code
def yX9_node : MethodName := ⟨RX9, "node", "(II)I"⟩
abbrev cX9_kid : ByteArray := prog_11_method_43_code
def yX9_kid : MethodName := ⟨RX9, "kid", "(II)I"⟩
abbrev cX9_name : ByteArray := prog_11_method_44_code
def yX9_name : MethodName := ⟨RX9, "name", "(I)I"⟩
abbrev cX9_init : ByteArray := prog_11_method_45_code
def yX9_init : MethodName := ⟨RX9, "<init>", "()V"⟩
abbrev cX9_putFour : ByteArray := prog_11_method_46_code
def yX9_putFour : MethodName := ⟨RX9, "putFour", "(I)V"⟩
abbrev cX9_feed : ByteArray := prog_11_method_47_code
def yX9_feed : MethodName := ⟨RX9, "feed", "(IIIII)I"⟩
abbrev cX9_end : ByteArray := prog_11_method_48_code
def yX9_end : MethodName := ⟨RX9, "end", "(I)I"⟩
abbrev cX9_out : ByteArray := prog_11_method_49_code
def yX9_out : MethodName := ⟨RX9, "out", "(I)I"⟩
abbrev cX9_page : ByteArray := prog_11_method_50_code
def yX9_page : MethodName := ⟨RX9, "page", "()I"⟩
abbrev cX9_wrongName : ByteArray := prog_11_method_51_code
def yX9_wrongName : MethodName := ⟨RX9, "wrongName", "(I)I"⟩
abbrev cX9_takeName : ByteArray := prog_11_method_52_code
def yX9_takeName : MethodName := ⟨RX9, "takeName", "()I"⟩
abbrev cX9_isElement : ByteArray := prog_11_method_53_code
def yX9_isElement : MethodName := ⟨RX9, "isElement", "(I)Z"⟩
abbrev cX9_attributeNamed : ByteArray := prog_11_method_54_code
def yX9_attributeNamed : MethodName := ⟨RX9, "attributeNamed", "(II)I"⟩
abbrev cX9_attribute : ByteArray := prog_11_method_55_code
def yX9_attribute : MethodName := ⟨RX9, "attribute", "(I)I"⟩
abbrev cX9_fault : ByteArray := prog_11_method_56_code
def yX9_fault : MethodName := ⟨RX9, "fault", "(II)I"⟩
abbrev cX9_faults : ByteArray := prog_11_method_57_code
def yX9_faults : MethodName := ⟨RX9, "faults", "()I"⟩
abbrev cX9_add : ByteArray := prog_11_method_58_code
def yX9_add : MethodName := ⟨RX9, "add", "(I)I"⟩
abbrev cX9_text : ByteArray := prog_11_method_59_code
def yX9_text : MethodName := ⟨RX9, "text", "(I)I"⟩
abbrev cX9_set : ByteArray := prog_11_method_60_code
def yX9_set : MethodName := ⟨RX9, "set", "(I)I"⟩
abbrev cX9_remove : ByteArray := prog_11_method_61_code
def yX9_remove : MethodName := ⟨RX9, "remove", "(I)I"⟩
abbrev cX9_find : ByteArray := prog_11_method_62_code
def yX9_find : MethodName := ⟨RX9, "find", "(I)I"⟩
abbrev cX9_less : ByteArray := prog_11_method_63_code
def yX9_less : MethodName := ⟨RX9, "less", "(II)I"⟩
def RJ0 : String := "java/lang/String"
def TJ0 : u_T := fun k => match k with
  | _ => ("", "", "", false)
def tyJ0 : Nat → FieldType := fun k => match k with
  | _ => .int
abbrev wsJ00 : List Cond := u_ws RJ0 TJ0 0
theorem nmJ0 : ∀ a, a < 0 → ∀ b, b < 0 → a ≠ b → (TJ0 a).2.1 ≠ (TJ0 b).2.1 := by decide +kernel
theorem tyJ0_ok : ∀ k, k < 0 → parseFieldDescriptor (TJ0 k).2.2.1 = some (tyJ0 k) := by decide +kernel
abbrev cJ0_length_8abf5 : ByteArray := prog_12_method_54_code
def yJ0_length_8abf5 : MethodName := ⟨RJ0, "length", "()I"⟩
abbrev cJ0_charAt_5068e : ByteArray := prog_12_method_56_code
def yJ0_charAt_5068e : MethodName := ⟨RJ0, "charAt", "(I)C"⟩
abbrev cJ0_coder_7d493 : ByteArray := prog_12_method_152_code
def yJ0_coder_7d493 : MethodName := ⟨RJ0, "coder", "()B"⟩
abbrev cJ0_isLatin1_aae02 : ByteArray := prog_12_method_154_code
def yJ0_isLatin1_aae02 : MethodName := ⟨RJ0, "isLatin1", "()Z"⟩
abbrev cJ0_checkIndex_df160 : ByteArray := prog_12_method_155_code
def yJ0_checkIndex_df160 : MethodName := ⟨RJ0, "checkIndex", "(II)V"⟩
def RJ1 : String := "java/lang/StringLatin1"
def TJ1 : u_T := fun k => match k with
  | _ => ("", "", "", false)
def tyJ1 : Nat → FieldType := fun k => match k with
  | _ => .int
abbrev wsJ10 : List Cond := u_ws RJ1 TJ1 0
theorem nmJ1 : ∀ a, a < 0 → ∀ b, b < 0 → a ≠ b → (TJ1 a).2.1 ≠ (TJ1 b).2.1 := by decide +kernel
theorem tyJ1_ok : ∀ k, k < 0 → parseFieldDescriptor (TJ1 k).2.2.1 = some (tyJ1 k) := by decide +kernel
abbrev cJ1_charAt_3b067 : ByteArray := prog_13_method_2_code
def yJ1_charAt_3b067 : MethodName := ⟨RJ1, "charAt", "([BI)C"⟩
def RJ2 : String := "java/lang/StringUTF16"
def TJ2 : u_T := fun k => match k with
  | _ => ("", "", "", false)
def tyJ2 : Nat → FieldType := fun k => match k with
  | _ => .int
abbrev wsJ20 : List Cond := u_ws RJ2 TJ2 0
theorem nmJ2 : ∀ a, a < 0 → ∀ b, b < 0 → a ≠ b → (TJ2 a).2.1 ≠ (TJ2 b).2.1 := by decide +kernel
theorem tyJ2_ok : ∀ k, k < 0 → parseFieldDescriptor (TJ2 k).2.2.1 = some (tyJ2 k) := by decide +kernel
abbrev cJ2_getChar_3b067 : ByteArray := prog_14_method_5_code
def yJ2_getChar_3b067 : MethodName := ⟨RJ2, "getChar", "([BI)C"⟩
abbrev cJ2_length_9d52b : ByteArray := prog_14_method_6_code
def yJ2_length_9d52b : MethodName := ⟨RJ2, "length", "([B)I"⟩
abbrev cJ2_charAt_3b067 : ByteArray := prog_14_method_83_code
def yJ2_charAt_3b067 : MethodName := ⟨RJ2, "charAt", "([BI)C"⟩
abbrev cJ2_checkIndex_2214a : ByteArray := prog_14_method_91_code
def yJ2_checkIndex_2214a : MethodName := ⟨RJ2, "checkIndex", "(I[B)V"⟩
def RJ3 : String := "jdk/internal/util/Preconditions"
def TJ3 : u_T := fun k => match k with
  | _ => ("", "", "", false)
def tyJ3 : Nat → FieldType := fun k => match k with
  | _ => .int
abbrev wsJ30 : List Cond := u_ws RJ3 TJ3 0
theorem nmJ3 : ∀ a, a < 0 → ∀ b, b < 0 → a ≠ b → (TJ3 a).2.1 ≠ (TJ3 b).2.1 := by decide +kernel
theorem tyJ3_ok : ∀ k, k < 0 → parseFieldDescriptor (TJ3 k).2.2.1 = some (tyJ3 k) := by decide +kernel
abbrev cJ3_checkIndex_8e157 : ByteArray := prog_15_method_11_code
def yJ3_checkIndex_8e157 : MethodName := ⟨RJ3, "checkIndex", "(IILjava/util/function/BiFunction;)I"⟩
def RL : String := "SoupReaderLaw"
abbrev cL_law : ByteArray := code
def yL_law : MethodName := ⟨RL, "law", "([I)Z"⟩
/-! ===== END ===== -/
end
section
/-! THE CORE. An abstract heap (a map a kind of field, and of array places), its picture in the machine's heap, and a judgement T over it: 'the frame at pc goes on, and the method ends as F says'. -/
abbrev AH : Type := (Nat → Nat → Int32) × (Nat → Nat → Int64) × (Nat → Nat → Option Nat) × (Nat → Nat → Int32) × (Nat → Nat → Option Nat) × (Nat → Nat × Nat) × Nat × Nat
def gI (h : AH) : Nat → Nat → Int32 := h.1
def gL (h : AH) : Nat → Nat → Int64 := h.2.1
def gR (h : AH) : Nat → Nat → Option Nat := h.2.2.1
def gA (h : AH) : Nat → Nat → Int32 := h.2.2.2.1
def gQ (h : AH) : Nat → Nat → Option Nat := h.2.2.2.2.1
def gK (h : AH) : Nat → Nat × Nat := h.2.2.2.2.2.1
def gN (h : AH) : Nat := h.2.2.2.2.2.2.1
def gS (h : AH) : Nat := h.2.2.2.2.2.2.2
def u2 {α : Type} (f : Nat → Nat → α) (i j : Nat) (v : α) : Nat → Nat → α := fun x y => if x = i ∧ y = j then v else f x y
def pI (h : AH) (f a : Nat) (v : Int32) : AH := (u2 h.1 f a v, h.2)
def pL (h : AH) (f a : Nat) (v : Int64) : AH := (h.1, u2 h.2.1 f a v, h.2.2)
def pR (h : AH) (f a : Nat) (v : Option Nat) : AH := (h.1, h.2.1, u2 h.2.2.1 f a v, h.2.2.2)
def pA (h : AH) (a i : Nat) (v : Int32) : AH := (h.1, h.2.1, h.2.2.1, u2 h.2.2.2.1 a i v, h.2.2.2.2)
def pQ (h : AH) (a i : Nat) (v : Option Nat) : AH := (h.1, h.2.1, h.2.2.1, h.2.2.2.1, u2 h.2.2.2.2.1 a i v, h.2.2.2.2.2)
/-- a new cell, of a kind, with n slots, all of them 0 or null -/
def mkC (h : AH) (k : Nat × Nat) (n : Nat) : AH := (fun f a => if a = gN h then 0 else gI h f a, fun f a => if a = gN h then 0 else gL h f a, fun f a => if a = gN h then none else gR h f a, fun a i => if a = gN h then 0 else gA h a i, fun a i => if a = gN h then none else gQ h a i, fun a => if a = gN h then k else gK h a, gN h + 1, gS h + n)
theorem u2_s {α : Type} (f : Nat → Nat → α) (i j : Nat) (v : α) : u2 f i j v i j = v := if_pos ⟨rfl, rfl⟩
theorem u2_n {α : Type} (f : Nat → Nat → α) {i j x y : Nat} (v : α) (hn : ¬ (x = i ∧ y = j)) : u2 f i j v x y = f x y := if_neg hn
abbrev sr_cl : List vw_C := [(RX0, TX0, 3), (RX1, TX1, 2), (RX2, TX2, 3), (RX3, TX3, 14), (RX4, TX4, 2), (RX5, TX5, 8), (RX6, TX6, 2), (RX7, TX7, 3), (RX8, TX8, 5), (RX9, TX9, 45)]
def sr_ty (ci k : Nat) : FieldType := match ci with
  | 0 => tyX0 k
  | 1 => tyX1 k
  | 2 => tyX2 k
  | 3 => tyX3 k
  | 4 => tyX4 k
  | 5 => tyX5 k
  | 6 => tyX6 k
  | 7 => tyX7 k
  | 8 => tyX8 k
  | _ => tyX9 k
/-- what kind of value a field holds: 0 an int, 1 a long, 2 a reference -/
def sr_tk (t : FieldType) : Nat := match t with
  | .long => 1
  | .object _ => 2
  | .array _ => 2
  | _ => 0
def sr_v (h : AH) (kind f a : Nat) : Value := match kind with
  | 0 => .int (gI h f a)
  | 1 => .long (gL h f a)
  | _ => va_rf (gR h f a)
def sr_fv (h : AH) (ci k a : Nat) : Value := sr_v h (sr_tk (sr_ty ci k)) (50 * ci + k) a
def sr_aty (t : Nat) : FieldType := match t with
  | 0 => .int
  | 1 => .byte
  | 2 => .boolean
  | 3 => .object "SoupReader$Node"
  | _ => .object "SoupReader$Attribute"
def sr_ev (h : AH) (t a j : Nat) : Value := if t < 3 then .int (gA h a j) else va_rf (gQ h a j)
/-- launch, the classes' numbers and slots, the array classes, the String constants' cells and byte arrays, the first cell that is ours -/
abbrev sr_G : Type := Launch × va_G × (Nat → ClassId) × (Nat → Nat) × (Nat → Nat) × Nat
def sr_A (G : sr_G) : Nat → Prop := fun q => G.2.2.2.2.2 ≤ q
def sr_Rep (G : sr_G) (h : AH) (H : Heap) : Prop :=
  H.size = gN h ∧ (∀ a, (gK h a).1 ≠ 0 → sr_A G a) ∧
  (∀ (a ci : Nat) (r : vw_C), (gK h a).1 = ci + 1 → sr_cl[ci]? = some r → t_OB a (G.2.1.1 ci) r.2.2 (G.2.1.2 ci) H (fun k => sr_fv h ci k a)) ∧
  ∀ a t : Nat, (gK h a).1 = 100 + t → t < 5 → H[a]? = some (arrV (G.2.2.1 t) (gK h a).2 (fun j => sr_ev h t a j))
/-- the String constants: owner, entry, text, place -/
def sr_lits : List (String × Nat × String × Nat) := [("SoupReader", 226, "div p h1 ul li form span a b i br hr img input button style ", 0), ("SoupReader$Out", 32, "&lt;", 1), ("SoupReader$Out", 38, "&gt;", 2), ("SoupReader$Out", 40, "&amp;", 3), ("SoupReader$Out", 42, "&quot;", 4), ("SoupReader$PageReader", 220, "&lt;", 1), ("SoupReader$PageReader", 222, "&gt;", 2), ("SoupReader$PageReader", 224, "&amp;", 3), ("SoupReader$PageReader", 226, "&quot;", 4), ("SoupReader$PageReader", 78, "<!--", 5), ("SoupReader$PageReader", 164, "-->", 6), ("SoupReader$PageReader", 98, "</style", 7)]
def sr_txt : List (List Int32) := ["div p h1 ul li form span a b i br hr img input button style ", "&lt;", "&gt;", "&amp;", "&quot;", "<!--", "-->", "</style"].map (fun t => t.toList.map (fun c => Int32.ofNat c.toNat))
def sr_len : List Nat := sr_txt.map List.length
def sr_J (G : sr_G) (U : State) : Prop :=
  vk_S 8 sr_len sr_txt G.2.2.2.1 G.2.2.2.2.1 (sr_A G) U U.heap ∧ (∀ q ∈ sr_lits, vk_R q.1 q.2.1 q.2.2.1 (G.2.2.2.1 q.2.2.2) U) ∧
  va_Z "java/lang/String" "COMPACT_STRINGS" "Z" (.int 1) (sr_A G) U U.heap ∧ va_Zq "jdk/internal/util/Preconditions" "SIOOBE_FORMATTER" "Ljava/util/function/BiFunction;" (sr_A G) U U.heap
def sr_K (G : sr_G) (U : State) : Prop :=
  va_K G.2.1 sr_cl [] U ∧ (∀ t, t < 5 → ArrOfT U (G.2.2.1 t) (sr_aty t) ∧ va_RA U (G.2.2.1 t) (sr_aty t)) ∧ G.2.2.2.2.2 ≤ U.heap.size ∧ sr_J G U
theorem sr_J.go {G : sr_G} {s U : State} (h : sr_J G s) (hW : s.WarmedH U.vm) (hq : ∀ q : Nat, q < s.heap.size → ¬ sr_A G q → U.heap[q]? = s.heap[q]?) : sr_J G U := by
  obtain ⟨h1, h2, h3, h4⟩ := h
  refine ⟨(h1.moved hW.alike).kept hq, fun q hm => (h2 q hm).warm hW, (h3.moved hW.alike).kept hq, ?_⟩
  rcases h4 with h4 | ⟨t, h4⟩
  · exact Or.inl ((h4.moved hW.alike).kept hq)
  · exact Or.inr ⟨t, (h4.moved hW.alike).kept hq⟩
theorem sr_K.go {G : sr_G} {s U : State} (h : sr_K G s) (hW : s.WarmedH U.vm) (hz : s.heap.size ≤ U.heap.size) (hq : ∀ q : Nat, q < s.heap.size → ¬ sr_A G q → U.heap[q]? = s.heap[q]?) : sr_K G U := by
  obtain ⟨h1, h2, h3, h4⟩ := h
  exact ⟨h1.moved hW.alike, fun t ht => ⟨arrOfT_moved hW.alike (h2 t ht).1, (h2 t ht).2.moved hW.alike⟩, Nat.le_trans h3 hz, h4.go hW hq⟩
theorem sr_K.same {G : sr_G} {s U : State} (h : sr_K G s) (hv : U.vm = s.vm) (hh : U.heap = s.heap) : sr_K G U := by
  have hal : s.vm.Alike U.vm := by rw [hv]; exact Vm.Alike.refl _
  have hq : ∀ q : Nat, q < s.heap.size → ¬ sr_A G q → U.heap[q]? = s.heap[q]? := fun q _ _ => by rw [hh]
  obtain ⟨h1, h2, h3, h4, h5, h6, h7⟩ := h
  refine ⟨h1.moved hal, fun t ht => ⟨arrOfT_moved hal (h2 t ht).1, (h2 t ht).2.moved hal⟩, by rw [hh]; exact h3, by rw [hh]; exact h4.moved hal, fun q hm => (h5 q hm).same hv, by rw [hh]; exact h6.moved hal, ?_⟩
  rcases h7 with h7 | ⟨t, h7⟩
  · exact Or.inl (by rw [hh]; exact h7.moved hal)
  · exact Or.inr ⟨t, by rw [hh]; exact h7.moved hal⟩
/-- the tables' words that any state later on keeps -/
def sr_tbl : List Cond := lw_tbl.filter goodWord
theorem sr_w {w : Cond} (i : Nat) (h : lw_tbl[i]? = some w) (hg : goodWord w = true) : w ∈ sr_tbl := List.mem_filter.mpr ⟨List.mem_of_getElem? h, hg⟩
theorem sr_good : GoodIn sr_tbl sr_tbl := fun w h => ⟨h, good_of_word (List.mem_filter.mp h).2⟩
/-- what holds in a frame of a method of class 'own', with the code cc -/
def sr_Cx (G : sr_G) (own : String) (cc : ByteArray) (nL : Nat) (ret : Option FieldType) (ini : Bool) (p : Program) (s : State) (m : MethodId) (args : Array Value) (meth : Method) (c : Code) : Prop :=
  p.tables.exec = Jvm.exec ∧ c.code = cc ∧ meth.sig.returnType = ret ∧ c.maxLocals = nL ∧ s.vm.findClass own = some m.cls ∧ (∀ w ∈ sr_tbl, w.before args s = true) ∧ meth.locks = false ∧ sr_K G s ∧ (ini = true → meth.name = "<init>")
/-- what a local or a stack place holds: an int, a long, or a reference -/
abbrev sr_V : Type := Int32 ⊕ Int64 ⊕ Option Nat
abbrev vI (x : Int32) : sr_V := .inl x
abbrev vL (x : Int64) : sr_V := .inr (.inl x)
abbrev vR (x : Option Nat) : sr_V := .inr (.inr x)
def sr_em (v : sr_V) : Value := match v with
  | .inl x => .int x
  | .inr (.inl x) => .long x
  | .inr (.inr r) => va_rf r
abbrev sr_el (L : List (Nat × sr_V)) : List (Nat × Value) := L.map (fun q => (q.1, sr_em q.2))
def sr_Q {X : Type} (G : sr_G) (inj : X → Option sr_V) (x : X) (h : AH) : Array Value → State → Outcome → State → Prop := fun _ st oc t => oc = .returned ((inj x).map sr_em) ∧ sr_Rep G h t.heap ∧ va_F (sr_A G) st t
/-- THE JUDGEMENT: if F says that the method ends with x and the heap h', then from this frame it does -/
def sr_T {X : Type} (G : sr_G) (d : Nat) (own : String) (cc : ByteArray) (nL : Nat) (ret : Option FieldType) (ini : Bool) (inj : X → Option sr_V) (pc : Nat) (L : List (Nat × sr_V)) (st : List sr_V) (h : AH) (F : Option (X × AH)) : Prop :=
  ∀ (x : X) (h' : AH), F = some (x, h') → (gN h ≤ gN h' ∧ gS h ≤ gS h') ∧
    ∀ (p : Program) (e : Env) (R : Room) (s : State) (m : MethodId) (args : Array Value) (below : List Frame) (meth : Method) (c : Code) (n0 s0 : Nat) (H : Heap) (locs : List Loc) (ls : Array Slot),
      sr_Cx G own cc nL ret ini p s m args meth c → d ≤ R.frames → 64 * d ≤ R.locals → n0 ≤ gN h → s0 ≤ gS h → gN h' - n0 ≤ R.cells → gS h' - s0 ≤ R.slots →
      sr_Rep G h H → va_S (sr_A G) s.heap H locs → lv_has ls nL (sr_el L) →
      W p G.1 e R s m args below meth c H locs (gN h - n0) (gS h - s0) (MQ below (sr_Q G inj x h') args s (gN h' - n0) (gS h' - s0) (sr_A G)) (F0 m pc ls (st.map sr_em))
/-- a method, as a contract, for every F that is known to end -/
def sr_E {X : Type} (G : sr_G) (d : Nat) (y : MethodName) (cc : ByteArray) (nL : Nat) (ret : Option FieldType) (inj : X → Option sr_V) (av : List sr_V) (h : AH) (F : Option (X × AH)) : Prop :=
  ∀ (x : X) (h' : AH), F = some (x, h') → (gN h ≤ gN h' ∧ gS h ≤ gS h') ∧
    Met G.1 y (Cond.code y cc nL ret :: sr_tbl) { frames := d, cells := gN h' - gN h, slots := gS h' - gS h, locals := 64 * d } (va_Pc (av.map sr_em) (fun U => sr_Rep G h U.heap ∧ sr_K G U)) (sr_Q G inj x h') (gN h' - gN h) (gS h' - gS h) (sr_A G)
abbrev jI : Int32 → Option sr_V := fun v => some (vI v)
abbrev jL : Int64 → Option sr_V := fun v => some (vL v)
abbrev jR : Option Nat → Option sr_V := fun v => some (vR v)
abbrev jV : Unit → Option sr_V := fun _ => none
/-- the pieces that F is made of -/
def cGI {Y : Type} (h : AH) (c f : Nat) (r : Option Nat) (K : Int32 → Option Y) : Option Y := match r with
  | none => none
  | some a => if (gK h a).1 = c + 1 then K (gI h f a) else none
def cGL {Y : Type} (h : AH) (c f : Nat) (r : Option Nat) (K : Int64 → Option Y) : Option Y := match r with
  | none => none
  | some a => if (gK h a).1 = c + 1 then K (gL h f a) else none
def cGR {Y : Type} (h : AH) (c f : Nat) (r : Option Nat) (K : Option Nat → Option Y) : Option Y := match r with
  | none => none
  | some a => if (gK h a).1 = c + 1 then K (gR h f a) else none
def cPI {Y : Type} (h : AH) (c f : Nat) (r : Option Nat) (v : Int32) (K : AH → Option Y) : Option Y := match r with
  | none => none
  | some a => if (gK h a).1 = c + 1 then K (pI h f a v) else none
def cPL {Y : Type} (h : AH) (c f : Nat) (r : Option Nat) (v : Int64) (K : AH → Option Y) : Option Y := match r with
  | none => none
  | some a => if (gK h a).1 = c + 1 then K (pL h f a v) else none
def cPR {Y : Type} (h : AH) (c f : Nat) (r : Option Nat) (v : Option Nat) (K : AH → Option Y) : Option Y := match r with
  | none => none
  | some a => if (gK h a).1 = c + 1 then K (pR h f a v) else none
def cAL {Y : Type} (h : AH) (t : Nat) (r : Option Nat) (i : Int32) (K : Int32 → Option Y) : Option Y := match r with
  | none => none
  | some a => if (gK h a).1 = 100 + t ∧ 0 ≤ i.toInt ∧ i.toInt < (gK h a).2 then K (gA h a i.toNatClampNeg) else none
def cQL {Y : Type} (h : AH) (t : Nat) (r : Option Nat) (i : Int32) (K : Option Nat → Option Y) : Option Y := match r with
  | none => none
  | some a => if (gK h a).1 = 100 + t ∧ 0 ≤ i.toInt ∧ i.toInt < (gK h a).2 then K (gQ h a i.toNatClampNeg) else none
def cAS {Y : Type} (h : AH) (t : Nat) (r : Option Nat) (i v : Int32) (K : AH → Option Y) : Option Y := match r with
  | none => none
  | some a => if (gK h a).1 = 100 + t ∧ 0 ≤ i.toInt ∧ i.toInt < (gK h a).2 then K (pA h a i.toNatClampNeg (vp_nar (sr_aty t) v)) else none
def cQS {Y : Type} (h : AH) (t c : Nat) (r : Option Nat) (i : Int32) (v : Option Nat) (K : AH → Option Y) : Option Y := match r, v with
  | some a, some b => if ((gK h a).1 = 100 + t ∧ 0 ≤ i.toInt ∧ i.toInt < (gK h a).2) ∧ (gK h b).1 = c + 1 then K (pQ h a i.toNatClampNeg (some b)) else none
  | _, _ => none
def cAN {Y : Type} (h : AH) (t : Nat) (r : Option Nat) (K : Int32 → Option Y) : Option Y := match r with
  | none => none
  | some a => if (gK h a).1 = 100 + t then K (nI (gK h a).2) else none
def cNO {Y : Type} (h : AH) (c N : Nat) (K : Option Nat → AH → Option Y) : Option Y := K (some (gN h)) (mkC h (c + 1, 0) N)
def cNA {Y : Type} (h : AH) (t : Nat) (n : Int32) (K : Option Nat → AH → Option Y) : Option Y := if 0 ≤ n.toInt ∧ n.toInt < 100000 then K (some (gN h)) (mkC h (100 + t, n.toNatClampNeg) n.toNatClampNeg) else none
def cCL {X Y : Type} (x : Option (X × AH)) (K : X → AH → Option Y) : Option Y := match x with
  | none => none
  | some q => K q.1 q.2
def cZ {Y : Type} (v : Int32) (K : Option Y) : Option Y := if v = 0 ∨ v = 1 then K else none
end
section
section RULES
variable {G : sr_G} {d : Nat} {own : String} {cc : ByteArray} {nL : Nat} {ret : Option FieldType} {ini : Bool} {X : Type} {inj : X → Option sr_V} {pc : Nat} {L : List (Nat × sr_V)} {st : List sr_V} {h : AH} {F : Option (X × AH)}
theorem sr_T.step {pc' : Nat} {L' : List (Nat × sr_V)} {st' : List sr_V}
    (hs : ∀ (p : Program) (e : Env) (R : Room) (s : State) (m : MethodId) (args : Array Value) (below : List Frame) (meth : Method) (c : Code) (H : Heap) (locs : List Loc) (cells slots : Nat) (ls : Array Slot) (Q : State → Prop), sr_Cx G own cc nL ret ini p s m args meth c → lv_has ls nL (sr_el L) →
      (∀ ls' : Array Slot, lv_has ls' nL (sr_el L') → W p G.1 e R s m args below meth c H locs cells slots Q (F0 m pc' ls' (st'.map sr_em))) → W p G.1 e R s m args below meth c H locs cells slots Q (F0 m pc ls (st.map sr_em)))
    (k : sr_T G d own cc nL ret ini inj pc' L' st' h F) : sr_T G d own cc nL ret ini inj pc L st h F := by
  intro x h' hF
  obtain ⟨k1, k2⟩ := k x h' hF
  refine ⟨k1, ?_⟩
  intro p e R s m args below meth c n0 s0 H locs ls C h1 h2 h3 h4 h5 h6 h7 h8 h9
  exact hs p e R s m args below meth c H locs _ _ ls _ C h9 (fun ls' h9' => k2 p e R s m args below meth c n0 s0 H locs ls' C h1 h2 h3 h4 h5 h6 h7 h8 h9')
/-- two roads -/
theorem sr_T.fork {c : Prop} (hc : Decidable c) {p1 p2 : Nat} {st' : List sr_V} {F1 F2 : Option (X × AH)}
    (hs : ∀ (p : Program) (e : Env) (R : Room) (s : State) (m : MethodId) (args : Array Value) (below : List Frame) (meth : Method) (cd : Code) (H : Heap) (locs : List Loc) (cells slots : Nat) (ls : Array Slot) (Q : State → Prop), sr_Cx G own cc nL ret ini p s m args meth cd → lv_has ls nL (sr_el L) →
      (c → W p G.1 e R s m args below meth cd H locs cells slots Q (F0 m p1 ls (st'.map sr_em))) → (¬ c → W p G.1 e R s m args below meth cd H locs cells slots Q (F0 m p2 ls (st'.map sr_em))) → W p G.1 e R s m args below meth cd H locs cells slots Q (F0 m pc ls (st.map sr_em)))
    (k1 : c → sr_T G d own cc nL ret ini inj p1 L st' h F1) (k2 : ¬ c → sr_T G d own cc nL ret ini inj p2 L st' h F2) : sr_T G d own cc nL ret ini inj pc L st h (if c then F1 else F2) := by
  intro x h' hF
  by_cases hx : c
  · rw [if_pos hx] at hF
    obtain ⟨q1, q2⟩ := k1 hx x h' hF
    refine ⟨q1, ?_⟩
    intro p e R s m args below meth cd n0 s0 H locs ls C h1 h2 h3 h4 h5 h6 h7 h8 h9
    exact hs p e R s m args below meth cd H locs _ _ ls _ C h9 (fun _ => q2 p e R s m args below meth cd n0 s0 H locs ls C h1 h2 h3 h4 h5 h6 h7 h8 h9) (fun z => absurd hx z)
  · rw [if_neg hx] at hF
    obtain ⟨q1, q2⟩ := k2 hx x h' hF
    refine ⟨q1, ?_⟩
    intro p e R s m args below meth cd n0 s0 H locs ls C h1 h2 h3 h4 h5 h6 h7 h8 h9
    exact hs p e R s m args below meth cd H locs _ _ ls _ C h9 (fun z => absurd z hx) (fun _ => q2 p e R s m args below meth cd n0 s0 H locs ls C h1 h2 h3 h4 h5 h6 h7 h8 h9)
/-- fewer locals -/
theorem tq_sub {L' : List (Nat × sr_V)} (ks : List Nat) (hl : ks.filterMap (fun k => L[k]?) = L') (k : sr_T G d own cc nL ret ini inj pc L' st h F) : sr_T G d own cc nL ret ini inj pc L st h F := by
  refine sr_T.step (fun p e R s m args below meth c H locs cells slots ls Q C h9 kk => kk ls ?_) k
  refine lv_sub h9 ks ?_
  subst hl
  simp [lv_pick, List.map_filterMap, List.filterMap_map]
  try rfl
theorem tq_sub0 {L' : List (Nat × sr_V)} (ks : List Nat) (k : sr_T G d own cc nL ret ini inj pc L' st h F) (hl : ks.filterMap (fun k => L[k]?) = L') : sr_T G d own cc nL ret ini inj pc L st h F := tq_sub ks hl k
theorem tq_F {F' : Option (X × AH)} (e : F = F') (k : sr_T G d own cc nL ret ini inj pc L st h F') : sr_T G d own cc nL ret ini inj pc L st h F := e ▸ k
theorem tq_iconst {n : Int} (v : Int32) (hd : decode cc pc = .ok (.iconst n, 1)) (hv : Int32.ofInt n = v) (k : sr_T G d own cc nL ret ini inj (pc + 1) L (vI v :: st) h F) : sr_T G d own cc nL ret ini inj pc L st h F :=
  sr_T.step (fun _ _ _ _ _ _ _ _ _ _ _ _ _ ls _ C h9 kk => lv_iconst C.1 C.2.1 hd hv (kk ls h9)) k
theorem tq_bipush {n : Int} (v : Int32) (hd : decode cc pc = .ok (.bipush n, 2)) (hv : (Int8.ofInt n).toInt32 = v) (k : sr_T G d own cc nL ret ini inj (pc + 2) L (vI v :: st) h F) : sr_T G d own cc nL ret ini inj pc L st h F :=
  sr_T.step (fun _ _ _ _ _ _ _ _ _ _ _ _ _ ls _ C h9 kk => lv_bipush C.1 C.2.1 hd hv (kk ls h9)) k
theorem tq_sipush {n : Int} (v : Int32) (hd : decode cc pc = .ok (.sipush n, 3)) (hv : (Int16.ofInt n).toInt32 = v) (k : sr_T G d own cc nL ret ini inj (pc + 3) L (vI v :: st) h F) : sr_T G d own cc nL ret ini inj pc L st h F :=
  sr_T.step (fun _ _ _ _ _ _ _ _ _ _ _ _ _ ls _ C h9 kk => lv_sipush C.1 C.2.1 hd hv (kk ls h9)) k
theorem tq_lconst {n : Fin 2} (v : Int64) (hd : decode cc pc = .ok (.lconst n, 1)) (hv : Int64.ofNat (n : Nat) = v) (k : sr_T G d own cc nL ret ini inj (pc + 1) L (vL v :: st) h F) : sr_T G d own cc nL ret ini inj pc L st h F :=
  sr_T.step (fun _ _ _ _ _ _ _ _ _ _ _ _ _ ls _ C h9 kk => lv_lconst C.1 C.2.1 hd hv (kk ls h9)) k
theorem tq_ldc {index : Nat} (v : Int32) (hd : decode cc pc = .ok (.ldc index, 2)) (hw : Cond.constant own index v ∈ sr_tbl) (k : sr_T G d own cc nL ret ini inj (pc + 2) L (vI v :: st) h F) : sr_T G d own cc nL ret ini inj pc L st h F :=
  sr_T.step (fun _ _ _ _ _ _ _ _ _ _ _ _ _ ls _ C h9 kk => lv_ldc C.1 C.2.1 C.2.2.2.2.1 (C.2.2.2.2.2.1 _ hw) hd (kk ls h9)) k
theorem tq_ldc2 {index : Nat} (v : Int64) (hd : decode cc pc = .ok (.ldc2_w index, 3)) (hw : Cond.constantLong own index v ∈ sr_tbl) (k : sr_T G d own cc nL ret ini inj (pc + 3) L (vL v :: st) h F) : sr_T G d own cc nL ret ini inj pc L st h F :=
  sr_T.step (fun _ _ _ _ _ _ _ _ _ _ _ _ _ ls _ C h9 kk => lv_ldc2 C.1 C.2.1 C.2.2.2.2.1 (C.2.2.2.2.2.1 _ hw) hd (kk ls h9)) k
theorem tq_ldcS {index : Nat} {tx : String} (i : Nat) (hd : decode cc pc = .ok (.ldc index, 2)) (hw : (own, index, tx, i) ∈ sr_lits) (k : sr_T G d own cc nL ret ini inj (pc + 2) L (vR (some (G.2.2.2.1 i)) :: st) h F) : sr_T G d own cc nL ret ini inj pc L st h F :=
  sr_T.step (fun _ _ _ _ _ _ _ _ _ _ _ _ _ ls _ C h9 kk => va_ldcS C.1 C.2.1 C.2.2.2.2.1 (C.2.2.2.2.2.2.2.1.2.2.2.2.1 _ hw) hd (kk ls h9)) k
theorem tq_null (hd : decode cc pc = .ok (.aconst_null, 1)) (k : sr_T G d own cc nL ret ini inj (pc + 1) L (vR none :: st) h F) : sr_T G d own cc nL ret ini inj pc L st h F :=
  sr_T.step (fun _ _ _ _ _ _ _ _ _ _ _ _ _ ls _ C h9 kk => lv_null C.1 C.2.1 hd (kk ls h9)) k
theorem sr_lat {L : List (Nat × sr_V)} {ls : Array Slot} {nL : Nat} (hl : lv_has ls nL (sr_el L)) (k : Nat) {i : Nat} {v : sr_V} (hk : L[k]? = some (i, v)) : ls[i]? = some (.val (sr_em v)) := by
  refine lv_at hl k ?_
  rw [List.getElem?_map, hk]
  rfl
def sr_c2 (v : sr_V) : Bool := match v with
  | .inr (.inl _) => true
  | _ => false
theorem sr_c2_eq (v : sr_V) : ((sr_em v).category == 2) = sr_c2 v := by
  rcases v with v | v | v
  · rfl
  · rfl
  · cases v <;> rfl
theorem sr_cat1 (r : Option Nat) : (va_rf r).category = 1 := by cases r <;> rfl
theorem sr_fil1 (i : Nat) (L : List (Nat × sr_V)) : (sr_el L).filter (fun q => !(q.1 == i) && !(q.1 + 1 == i && q.2.category == 2)) = sr_el (L.filter (fun q => !(q.1 == i) && !(q.1 + 1 == i && sr_c2 q.2))) := by
  rw [sr_el, List.filter_map]
  congr 2
  funext q
  show (!(q.1 == i) && !(q.1 + 1 == i && (sr_em q.2).category == 2)) = _
  rw [sr_c2_eq]
theorem sr_fil2 (i : Nat) (L : List (Nat × sr_V)) : (sr_el L).filter (fun q => !(q.1 == i) && (!(q.1 == i + 1) && !(q.1 + 1 == i && q.2.category == 2))) = sr_el (L.filter (fun q => !(q.1 == i) && (!(q.1 == i + 1) && !(q.1 + 1 == i && sr_c2 q.2)))) := by
  rw [sr_el, List.filter_map]
  congr 2
  funext q
  show (!(q.1 == i) && (!(q.1 == i + 1) && !(q.1 + 1 == i && (sr_em q.2).category == 2))) = _
  rw [sr_c2_eq]

theorem tq_iload_n {kf : Fin 4} (i k : Nat) (hd : decode cc pc = .ok (.iload_n kf, 1)) (hi : (kf : Nat) = i) {x : Int32} (hk : L[k]? = some (i, vI x)) (kk : sr_T G d own cc nL ret ini inj (pc + 1) L (vI x :: st) h F) : sr_T G d own cc nL ret ini inj pc L st h F :=
  sr_T.step (fun _ _ _ _ _ _ _ _ _ _ _ _ _ ls _ C h9 kk => lv_iload_n C.1 C.2.1 hd hi (sr_lat h9 k hk) (kk ls h9)) kk
theorem tq_iload {i : Nat} (k : Nat) (hd : decode cc pc = .ok (.iload i, 2)) {x : Int32} (hk : L[k]? = some (i, vI x)) (kk : sr_T G d own cc nL ret ini inj (pc + 2) L (vI x :: st) h F) : sr_T G d own cc nL ret ini inj pc L st h F :=
  sr_T.step (fun _ _ _ _ _ _ _ _ _ _ _ _ _ ls _ C h9 kk => lv_iload C.1 C.2.1 hd (sr_lat h9 k hk) (kk ls h9)) kk
theorem tq_lload_n {kf : Fin 4} (i k : Nat) (hd : decode cc pc = .ok (.lload_n kf, 1)) (hi : (kf : Nat) = i) {x : Int64} (hk : L[k]? = some (i, vL x)) (kk : sr_T G d own cc nL ret ini inj (pc + 1) L (vL x :: st) h F) : sr_T G d own cc nL ret ini inj pc L st h F :=
  sr_T.step (fun _ _ _ _ _ _ _ _ _ _ _ _ _ ls _ C h9 kk => lv_lload_n C.1 C.2.1 hd hi (sr_lat h9 k hk) (kk ls h9)) kk
theorem tq_lload {i : Nat} (k : Nat) (hd : decode cc pc = .ok (.lload i, 2)) {x : Int64} (hk : L[k]? = some (i, vL x)) (kk : sr_T G d own cc nL ret ini inj (pc + 2) L (vL x :: st) h F) : sr_T G d own cc nL ret ini inj pc L st h F :=
  sr_T.step (fun _ _ _ _ _ _ _ _ _ _ _ _ _ ls _ C h9 kk => lv_lload C.1 C.2.1 hd (sr_lat h9 k hk) (kk ls h9)) kk
theorem tq_aload_n {kf : Fin 4} (i k : Nat) (hd : decode cc pc = .ok (.aload_n kf, 1)) (hi : (kf : Nat) = i) {x : Option Nat} (hk : L[k]? = some (i, vR x)) (kk : sr_T G d own cc nL ret ini inj (pc + 1) L (vR x :: st) h F) : sr_T G d own cc nL ret ini inj pc L st h F := by
  cases x with
  | none => exact sr_T.step (fun _ _ _ _ _ _ _ _ _ _ _ _ _ ls _ C h9 kk => lv_aload_nN C.1 C.2.1 hd hi (sr_lat h9 k hk) (kk ls h9)) kk
  | some a => exact sr_T.step (fun _ _ _ _ _ _ _ _ _ _ _ _ _ ls _ C h9 kk => lv_aload_n C.1 C.2.1 hd hi (sr_lat h9 k hk) (kk ls h9)) kk
theorem tq_aload {i : Nat} (k : Nat) (hd : decode cc pc = .ok (.aload i, 2)) {x : Option Nat} (hk : L[k]? = some (i, vR x)) (kk : sr_T G d own cc nL ret ini inj (pc + 2) L (vR x :: st) h F) : sr_T G d own cc nL ret ini inj pc L st h F := by
  cases x with
  | none => exact sr_T.step (fun _ _ _ _ _ _ _ _ _ _ _ _ _ ls _ C h9 kk => lv_aloadN C.1 C.2.1 hd (sr_lat h9 k hk) (kk ls h9)) kk
  | some a => exact sr_T.step (fun _ _ _ _ _ _ _ _ _ _ _ _ _ ls _ C h9 kk => lv_aload C.1 C.2.1 hd (sr_lat h9 k hk) (kk ls h9)) kk
theorem tq_istore_n {kf : Fin 4} (i : Nat) {x : Int32} {L' : List (Nat × sr_V)} (hd : decode cc pc = .ok (.istore_n kf, 1)) (hi : (kf : Nat) = i) (hn : i < nL) (hl : (i, vI x) :: L.filter (fun q => !(q.1 == i) && !(q.1 + 1 == i && sr_c2 q.2)) = L') (kk : sr_T G d own cc nL ret ini inj (pc + 1) L' st h F) : sr_T G d own cc nL ret ini inj pc L (vI x :: st) h F :=
  sr_T.step (fun _ _ _ _ _ _ _ _ _ _ _ _ _ ls _ C h9 kk => lv_istore_n C.1 C.2.1 hd hi h9 hn (lv' := sr_el L') (by rw [sr_fil1, ← hl]; rfl) (fun ls' h' => kk ls' h')) kk
theorem tq_istore {i : Nat} {x : Int32} {L' : List (Nat × sr_V)} (hd : decode cc pc = .ok (.istore i, 2)) (hn : i < nL) (hl : (i, vI x) :: L.filter (fun q => !(q.1 == i) && !(q.1 + 1 == i && sr_c2 q.2)) = L') (kk : sr_T G d own cc nL ret ini inj (pc + 2) L' st h F) : sr_T G d own cc nL ret ini inj pc L (vI x :: st) h F :=
  sr_T.step (fun _ _ _ _ _ _ _ _ _ _ _ _ _ ls _ C h9 kk => lv_istore C.1 C.2.1 hd h9 hn (lv' := sr_el L') (by rw [sr_fil1, ← hl]; rfl) (fun ls' h' => kk ls' h')) kk
theorem tq_lstore_n {kf : Fin 4} (i : Nat) {x : Int64} {L' : List (Nat × sr_V)} (hd : decode cc pc = .ok (.lstore_n kf, 1)) (hi : (kf : Nat) = i) (hn : i + 1 < nL) (hl : (i, vL x) :: L.filter (fun q => !(q.1 == i) && (!(q.1 == i + 1) && !(q.1 + 1 == i && sr_c2 q.2))) = L') (kk : sr_T G d own cc nL ret ini inj (pc + 1) L' st h F) : sr_T G d own cc nL ret ini inj pc L (vL x :: st) h F :=
  sr_T.step (fun _ _ _ _ _ _ _ _ _ _ _ _ _ ls _ C h9 kk => lv_lstore_n C.1 C.2.1 hd hi h9 hn (lv' := sr_el L') (by rw [sr_fil2, ← hl]; rfl) (fun ls' h' => kk ls' h')) kk
theorem tq_lstore {i : Nat} {x : Int64} {L' : List (Nat × sr_V)} (hd : decode cc pc = .ok (.lstore i, 2)) (hn : i + 1 < nL) (hl : (i, vL x) :: L.filter (fun q => !(q.1 == i) && (!(q.1 == i + 1) && !(q.1 + 1 == i && sr_c2 q.2))) = L') (kk : sr_T G d own cc nL ret ini inj (pc + 2) L' st h F) : sr_T G d own cc nL ret ini inj pc L (vL x :: st) h F :=
  sr_T.step (fun _ _ _ _ _ _ _ _ _ _ _ _ _ ls _ C h9 kk => lv_lstore C.1 C.2.1 hd h9 hn (lv' := sr_el L') (by rw [sr_fil2, ← hl]; rfl) (fun ls' h' => kk ls' h')) kk
theorem tq_astore_n {kf : Fin 4} (i : Nat) {x : Option Nat} {L' : List (Nat × sr_V)} (hd : decode cc pc = .ok (.astore_n kf, 1)) (hi : (kf : Nat) = i) (hn : i < nL) (hl : (i, vR x) :: L.filter (fun q => !(q.1 == i) && !(q.1 + 1 == i && sr_c2 q.2)) = L') (kk : sr_T G d own cc nL ret ini inj (pc + 1) L' st h F) : sr_T G d own cc nL ret ini inj pc L (vR x :: st) h F := by
  cases x with
  | none => exact sr_T.step (fun _ _ _ _ _ _ _ _ _ _ _ _ _ ls _ C h9 kk => lv_astore_nN C.1 C.2.1 hd hi h9 hn (lv' := sr_el L') (by rw [sr_fil1, ← hl]; rfl) (fun ls' h' => kk ls' h')) kk
  | some a => exact sr_T.step (fun _ _ _ _ _ _ _ _ _ _ _ _ _ ls _ C h9 kk => lv_astore_n C.1 C.2.1 hd hi h9 hn (lv' := sr_el L') (by rw [sr_fil1, ← hl]; rfl) (fun ls' h' => kk ls' h')) kk
theorem tq_astore {i : Nat} {x : Option Nat} {L' : List (Nat × sr_V)} (hd : decode cc pc = .ok (.astore i, 2)) (hn : i < nL) (hl : (i, vR x) :: L.filter (fun q => !(q.1 == i) && !(q.1 + 1 == i && sr_c2 q.2)) = L') (kk : sr_T G d own cc nL ret ini inj (pc + 2) L' st h F) : sr_T G d own cc nL ret ini inj pc L (vR x :: st) h F := by
  cases x with
  | none => exact sr_T.step (fun _ _ _ _ _ _ _ _ _ _ _ _ _ ls _ C h9 kk => lv_astoreN C.1 C.2.1 hd h9 hn (lv' := sr_el L') (by rw [sr_fil1, ← hl]; rfl) (fun ls' h' => kk ls' h')) kk
  | some a => exact sr_T.step (fun _ _ _ _ _ _ _ _ _ _ _ _ _ ls _ C h9 kk => lv_astore C.1 C.2.1 hd h9 hn (lv' := sr_el L') (by rw [sr_fil1, ← hl]; rfl) (fun ls' h' => kk ls' h')) kk
theorem tq_iinc {i : Nat} {n : Int} (k : Nat) {x : Int32} (w : Int32) {L' : List (Nat × sr_V)} (hd : decode cc pc = .ok (.iinc i n, 3)) (hk : L[k]? = some (i, vI x)) (hw : Int32.ofInt n = w) (hn : i < nL) (hl : (i, vI (x + w)) :: L.filter (fun q => !(q.1 == i) && !(q.1 + 1 == i && sr_c2 q.2)) = L') (kk : sr_T G d own cc nL ret ini inj (pc + 3) L' st h F) : sr_T G d own cc nL ret ini inj pc L st h F :=
  sr_T.step (fun _ _ _ _ _ _ _ _ _ _ _ _ _ ls _ C h9 kk => lv_iinc (k := k) (x := x) (v := x + w) C.1 C.2.1 hd h9 (by rw [List.getElem?_map, hk]; rfl) (by rw [hw]) hn (lv' := sr_el L') (by rw [sr_fil1, ← hl]; rfl) (fun ls' h' => kk ls' h')) kk
theorem tq_iadd {x y : Int32} (hd : decode cc pc = .ok (.iadd, 1)) (k : sr_T G d own cc nL ret ini inj (pc + 1) L (vI (x + y) :: st) h F) : sr_T G d own cc nL ret ini inj pc L (vI y :: vI x :: st) h F :=
  sr_T.step (fun _ _ _ _ _ _ _ _ _ _ _ _ _ ls _ C h9 kk => lv_iadd C.1 C.2.1 hd (kk ls h9)) k
theorem tq_isub {x y : Int32} (hd : decode cc pc = .ok (.isub, 1)) (k : sr_T G d own cc nL ret ini inj (pc + 1) L (vI (x - y) :: st) h F) : sr_T G d own cc nL ret ini inj pc L (vI y :: vI x :: st) h F :=
  sr_T.step (fun _ _ _ _ _ _ _ _ _ _ _ _ _ ls _ C h9 kk => lv_isub C.1 C.2.1 hd (kk ls h9)) k
theorem tq_imul {x y : Int32} (hd : decode cc pc = .ok (.imul, 1)) (k : sr_T G d own cc nL ret ini inj (pc + 1) L (vI (x * y) :: st) h F) : sr_T G d own cc nL ret ini inj pc L (vI y :: vI x :: st) h F :=
  sr_T.step (fun _ _ _ _ _ _ _ _ _ _ _ _ _ ls _ C h9 kk => lv_imul C.1 C.2.1 hd (kk ls h9)) k
theorem tq_iand {x y : Int32} (hd : decode cc pc = .ok (.iand, 1)) (k : sr_T G d own cc nL ret ini inj (pc + 1) L (vI (x &&& y) :: st) h F) : sr_T G d own cc nL ret ini inj pc L (vI y :: vI x :: st) h F :=
  sr_T.step (fun _ _ _ _ _ _ _ _ _ _ _ _ _ ls _ C h9 kk => lv_iand C.1 C.2.1 hd (kk ls h9)) k
theorem tq_ishr {x y : Int32} (hd : decode cc pc = .ok (.ishr, 1)) (k : sr_T G d own cc nL ret ini inj (pc + 1) L (vI (x >>> (y &&& 31)) :: st) h F) : sr_T G d own cc nL ret ini inj pc L (vI y :: vI x :: st) h F :=
  sr_T.step (fun _ _ _ _ _ _ _ _ _ _ _ _ _ ls _ C h9 kk => lv_ishr C.1 C.2.1 hd (kk ls h9)) k
theorem tq_iushr {x y : Int32} (hd : decode cc pc = .ok (.iushr, 1)) (k : sr_T G d own cc nL ret ini inj (pc + 1) L (vI ((x.toUInt32 >>> (y.toUInt32 &&& Int32.toUInt32 31)).toInt32) :: st) h F) : sr_T G d own cc nL ret ini inj pc L (vI y :: vI x :: st) h F :=
  sr_T.step (fun _ _ _ _ _ _ _ _ _ _ _ _ _ ls _ C h9 kk => lv_iushr C.1 C.2.1 hd rfl (kk ls h9)) k
theorem tq_land {x y : Int64} (hd : decode cc pc = .ok (.land, 1)) (k : sr_T G d own cc nL ret ini inj (pc + 1) L (vL (x &&& y) :: st) h F) : sr_T G d own cc nL ret ini inj pc L (vL y :: vL x :: st) h F :=
  sr_T.step (fun _ _ _ _ _ _ _ _ _ _ _ _ _ ls _ C h9 kk => lv_land C.1 C.2.1 hd (kk ls h9)) k
theorem tq_lor {x y : Int64} (hd : decode cc pc = .ok (.lor, 1)) (k : sr_T G d own cc nL ret ini inj (pc + 1) L (vL (x ||| y) :: st) h F) : sr_T G d own cc nL ret ini inj pc L (vL y :: vL x :: st) h F :=
  sr_T.step (fun _ _ _ _ _ _ _ _ _ _ _ _ _ ls _ C h9 kk => lv_lor C.1 C.2.1 hd (kk ls h9)) k
theorem tq_lushr {x : Int64} {y : Int32} (hd : decode cc pc = .ok (.lushr, 1)) (k : sr_T G d own cc nL ret ini inj (pc + 1) L (vL ((x.toUInt64 >>> (y.toInt64.toUInt64 &&& Int64.toUInt64 63)).toInt64) :: st) h F) : sr_T G d own cc nL ret ini inj pc L (vI y :: vL x :: st) h F :=
  sr_T.step (fun _ _ _ _ _ _ _ _ _ _ _ _ _ ls _ C h9 kk => lv_lushr C.1 C.2.1 hd rfl (kk ls h9)) k
theorem tq_lshl {x : Int64} {y : Int32} (hd : decode cc pc = .ok (.lshl, 1)) (k : sr_T G d own cc nL ret ini inj (pc + 1) L (vL (x <<< (y.toInt64 &&& 63)) :: st) h F) : sr_T G d own cc nL ret ini inj pc L (vI y :: vL x :: st) h F :=
  sr_T.step (fun _ _ _ _ _ _ _ _ _ _ _ _ _ ls _ C h9 kk => lv_lshl C.1 C.2.1 hd rfl (kk ls h9)) k
theorem tq_lshr {x : Int64} {y : Int32} (hd : decode cc pc = .ok (.lshr, 1)) (k : sr_T G d own cc nL ret ini inj (pc + 1) L (vL (x >>> (y.toInt64 &&& 63)) :: st) h F) : sr_T G d own cc nL ret ini inj pc L (vI y :: vL x :: st) h F :=
  sr_T.step (fun _ _ _ _ _ _ _ _ _ _ _ _ _ ls _ C h9 kk => lv_lshr C.1 C.2.1 hd rfl (kk ls h9)) k
theorem tq_i2l {x : Int32} (hd : decode cc pc = .ok (.i2l, 1)) (k : sr_T G d own cc nL ret ini inj (pc + 1) L (vL x.toInt64 :: st) h F) : sr_T G d own cc nL ret ini inj pc L (vI x :: st) h F :=
  sr_T.step (fun _ _ _ _ _ _ _ _ _ _ _ _ _ ls _ C h9 kk => lv_i2l C.1 C.2.1 hd rfl (kk ls h9)) k
theorem tq_l2i {x : Int64} (hd : decode cc pc = .ok (.l2i, 1)) (k : sr_T G d own cc nL ret ini inj (pc + 1) L (vI x.toInt32 :: st) h F) : sr_T G d own cc nL ret ini inj pc L (vL x :: st) h F :=
  sr_T.step (fun _ _ _ _ _ _ _ _ _ _ _ _ _ ls _ C h9 kk => lv_l2i C.1 C.2.1 hd rfl (kk ls h9)) k
theorem tq_i2b {x : Int32} (hd : decode cc pc = .ok (.i2b, 1)) (k : sr_T G d own cc nL ret ini inj (pc + 1) L (vI x.toInt8.toInt32 :: st) h F) : sr_T G d own cc nL ret ini inj pc L (vI x :: st) h F :=
  sr_T.step (fun _ _ _ _ _ _ _ _ _ _ _ _ _ ls _ C h9 kk => lv_i2b C.1 C.2.1 hd rfl (kk ls h9)) k
theorem tq_lcmp {x y : Int64} (hd : decode cc pc = .ok (.lcmp, 1)) (k : sr_T G d own cc nL ret ini inj (pc + 1) L (vI (lg_cmp x y) :: st) h F) : sr_T G d own cc nL ret ini inj pc L (vL y :: vL x :: st) h F :=
  sr_T.step (fun _ _ _ _ _ _ _ _ _ _ _ _ _ ls _ C h9 kk => W.lcmp C.1 C.2.1 hd (kk ls h9)) k
theorem tq_dupI {x : Int32} (hd : decode cc pc = .ok (.dup, 1)) (k : sr_T G d own cc nL ret ini inj (pc + 1) L (vI x :: vI x :: st) h F) : sr_T G d own cc nL ret ini inj pc L (vI x :: st) h F :=
  sr_T.step (fun _ _ _ _ _ _ _ _ _ _ _ _ _ ls _ C h9 kk => lv_dup C.1 C.2.1 hd rfl (kk ls h9)) k
theorem tq_dupR {x : Option Nat} (hd : decode cc pc = .ok (.dup, 1)) (k : sr_T G d own cc nL ret ini inj (pc + 1) L (vR x :: vR x :: st) h F) : sr_T G d own cc nL ret ini inj pc L (vR x :: st) h F :=
  sr_T.step (fun _ _ _ _ _ _ _ _ _ _ _ _ _ ls _ C h9 kk => lv_dup C.1 C.2.1 hd (sr_cat1 x) (kk ls h9)) k
theorem tq_dup2 {x : Option Nat} {i : Int32} (hd : decode cc pc = .ok (.dup2, 1)) (k : sr_T G d own cc nL ret ini inj (pc + 1) L (vI i :: vR x :: vI i :: vR x :: st) h F) : sr_T G d own cc nL ret ini inj pc L (vI i :: vR x :: st) h F :=
  sr_T.step (fun _ _ _ _ _ _ _ _ _ _ _ _ _ ls _ C h9 kk => lv_dup2_11 C.1 C.2.1 hd rfl (sr_cat1 x) (kk ls h9)) k
theorem tq_popI {x : Int32} (hd : decode cc pc = .ok (.pop, 1)) (k : sr_T G d own cc nL ret ini inj (pc + 1) L st h F) : sr_T G d own cc nL ret ini inj pc L (vI x :: st) h F :=
  sr_T.step (fun _ _ _ _ _ _ _ _ _ _ _ _ _ ls _ C h9 kk => lv_pop C.1 C.2.1 hd rfl (kk ls h9)) k
theorem tq_popR {x : Option Nat} (hd : decode cc pc = .ok (.pop, 1)) (k : sr_T G d own cc nL ret ini inj (pc + 1) L st h F) : sr_T G d own cc nL ret ini inj pc L (vR x :: st) h F :=
  sr_T.step (fun _ _ _ _ _ _ _ _ _ _ _ _ _ ls _ C h9 kk => lv_pop C.1 C.2.1 hd (sr_cat1 x) (kk ls h9)) k
theorem tq_goto {off : Int} (tgt : Nat) (hd : decode cc pc = .ok (.goto off, 3)) (ht : (pc : Int) + off = (tgt : Int)) (k : sr_T G d own cc nL ret ini inj tgt L st h F) : sr_T G d own cc nL ret ini inj pc L st h F :=
  sr_T.step (fun _ _ _ _ _ _ _ _ _ _ _ _ _ ls _ C h9 kk => lv_goto C.1 C.2.1 hd ht (kk ls h9)) k
theorem tq_if_eq {x : Int32} {off : Int} (tgt : Nat) {F1 F2 : Option (X × AH)} (hd : decode cc pc = .ok (.ifCond .eq off, 3)) (ht : (pc : Int) + off = (tgt : Int)) (k1 : x = 0 → sr_T G d own cc nL ret ini inj tgt L st h F1) (k2 : ¬ (x = 0) → sr_T G d own cc nL ret ini inj (pc + 3) L st h F2) : sr_T G d own cc nL ret ini inj pc L (vI x :: st) h (if x = 0 then F1 else F2) :=
  sr_T.fork _ (fun _ _ _ _ _ _ _ _ _ _ _ _ _ ls _ C h9 k1 k2 => lv_if_eq C.1 C.2.1 hd ht k1 k2) k1 k2
theorem tq_icmp_eq {x y : Int32} {off : Int} (tgt : Nat) {F1 F2 : Option (X × AH)} (hd : decode cc pc = .ok (.if_icmp .eq off, 3)) (ht : (pc : Int) + off = (tgt : Int)) (k1 : x = y → sr_T G d own cc nL ret ini inj tgt L st h F1) (k2 : ¬ (x = y) → sr_T G d own cc nL ret ini inj (pc + 3) L st h F2) : sr_T G d own cc nL ret ini inj pc L (vI y :: vI x :: st) h (if x = y then F1 else F2) :=
  sr_T.fork _ (fun _ _ _ _ _ _ _ _ _ _ _ _ _ ls _ C h9 k1 k2 => lv_icmp_eq C.1 C.2.1 hd ht k1 k2) k1 k2
theorem tq_if_lt {x : Int32} {off : Int} (tgt : Nat) {F1 F2 : Option (X × AH)} (hd : decode cc pc = .ok (.ifCond .lt off, 3)) (ht : (pc : Int) + off = (tgt : Int)) (k1 : x < 0 → sr_T G d own cc nL ret ini inj tgt L st h F1) (k2 : ¬ (x < 0) → sr_T G d own cc nL ret ini inj (pc + 3) L st h F2) : sr_T G d own cc nL ret ini inj pc L (vI x :: st) h (if x < 0 then F1 else F2) :=
  sr_T.fork _ (fun _ _ _ _ _ _ _ _ _ _ _ _ _ ls _ C h9 k1 k2 => lv_if_lt C.1 C.2.1 hd ht k1 k2) k1 k2
theorem tq_icmp_lt {x y : Int32} {off : Int} (tgt : Nat) {F1 F2 : Option (X × AH)} (hd : decode cc pc = .ok (.if_icmp .lt off, 3)) (ht : (pc : Int) + off = (tgt : Int)) (k1 : x < y → sr_T G d own cc nL ret ini inj tgt L st h F1) (k2 : ¬ (x < y) → sr_T G d own cc nL ret ini inj (pc + 3) L st h F2) : sr_T G d own cc nL ret ini inj pc L (vI y :: vI x :: st) h (if x < y then F1 else F2) :=
  sr_T.fork _ (fun _ _ _ _ _ _ _ _ _ _ _ _ _ ls _ C h9 k1 k2 => lv_icmp_lt C.1 C.2.1 hd ht k1 k2) k1 k2
theorem tq_if_ge {x : Int32} {off : Int} (tgt : Nat) {F1 F2 : Option (X × AH)} (hd : decode cc pc = .ok (.ifCond .ge off, 3)) (ht : (pc : Int) + off = (tgt : Int)) (k1 : 0 ≤ x → sr_T G d own cc nL ret ini inj tgt L st h F1) (k2 : ¬ (0 ≤ x) → sr_T G d own cc nL ret ini inj (pc + 3) L st h F2) : sr_T G d own cc nL ret ini inj pc L (vI x :: st) h (if 0 ≤ x then F1 else F2) :=
  sr_T.fork _ (fun _ _ _ _ _ _ _ _ _ _ _ _ _ ls _ C h9 k1 k2 => lv_if_ge C.1 C.2.1 hd ht k1 k2) k1 k2
theorem tq_icmp_ge {x y : Int32} {off : Int} (tgt : Nat) {F1 F2 : Option (X × AH)} (hd : decode cc pc = .ok (.if_icmp .ge off, 3)) (ht : (pc : Int) + off = (tgt : Int)) (k1 : y ≤ x → sr_T G d own cc nL ret ini inj tgt L st h F1) (k2 : ¬ (y ≤ x) → sr_T G d own cc nL ret ini inj (pc + 3) L st h F2) : sr_T G d own cc nL ret ini inj pc L (vI y :: vI x :: st) h (if y ≤ x then F1 else F2) :=
  sr_T.fork _ (fun _ _ _ _ _ _ _ _ _ _ _ _ _ ls _ C h9 k1 k2 => lv_icmp_ge C.1 C.2.1 hd ht k1 k2) k1 k2
theorem tq_if_gt {x : Int32} {off : Int} (tgt : Nat) {F1 F2 : Option (X × AH)} (hd : decode cc pc = .ok (.ifCond .gt off, 3)) (ht : (pc : Int) + off = (tgt : Int)) (k1 : 0 < x → sr_T G d own cc nL ret ini inj tgt L st h F1) (k2 : ¬ (0 < x) → sr_T G d own cc nL ret ini inj (pc + 3) L st h F2) : sr_T G d own cc nL ret ini inj pc L (vI x :: st) h (if 0 < x then F1 else F2) :=
  sr_T.fork _ (fun _ _ _ _ _ _ _ _ _ _ _ _ _ ls _ C h9 k1 k2 => lv_if_gt C.1 C.2.1 hd ht k1 k2) k1 k2
theorem tq_icmp_gt {x y : Int32} {off : Int} (tgt : Nat) {F1 F2 : Option (X × AH)} (hd : decode cc pc = .ok (.if_icmp .gt off, 3)) (ht : (pc : Int) + off = (tgt : Int)) (k1 : y < x → sr_T G d own cc nL ret ini inj tgt L st h F1) (k2 : ¬ (y < x) → sr_T G d own cc nL ret ini inj (pc + 3) L st h F2) : sr_T G d own cc nL ret ini inj pc L (vI y :: vI x :: st) h (if y < x then F1 else F2) :=
  sr_T.fork _ (fun _ _ _ _ _ _ _ _ _ _ _ _ _ ls _ C h9 k1 k2 => lv_icmp_gt C.1 C.2.1 hd ht k1 k2) k1 k2
theorem tq_if_le {x : Int32} {off : Int} (tgt : Nat) {F1 F2 : Option (X × AH)} (hd : decode cc pc = .ok (.ifCond .le off, 3)) (ht : (pc : Int) + off = (tgt : Int)) (k1 : x ≤ 0 → sr_T G d own cc nL ret ini inj tgt L st h F1) (k2 : ¬ (x ≤ 0) → sr_T G d own cc nL ret ini inj (pc + 3) L st h F2) : sr_T G d own cc nL ret ini inj pc L (vI x :: st) h (if x ≤ 0 then F1 else F2) :=
  sr_T.fork _ (fun _ _ _ _ _ _ _ _ _ _ _ _ _ ls _ C h9 k1 k2 => lv_if_le C.1 C.2.1 hd ht k1 k2) k1 k2
theorem tq_icmp_le {x y : Int32} {off : Int} (tgt : Nat) {F1 F2 : Option (X × AH)} (hd : decode cc pc = .ok (.if_icmp .le off, 3)) (ht : (pc : Int) + off = (tgt : Int)) (k1 : x ≤ y → sr_T G d own cc nL ret ini inj tgt L st h F1) (k2 : ¬ (x ≤ y) → sr_T G d own cc nL ret ini inj (pc + 3) L st h F2) : sr_T G d own cc nL ret ini inj pc L (vI y :: vI x :: st) h (if x ≤ y then F1 else F2) :=
  sr_T.fork _ (fun _ _ _ _ _ _ _ _ _ _ _ _ _ ls _ C h9 k1 k2 => lv_icmp_le C.1 C.2.1 hd ht k1 k2) k1 k2
theorem tq_if_ne {x : Int32} {off : Int} (tgt : Nat) {F1 F2 : Option (X × AH)} (hd : decode cc pc = .ok (.ifCond .ne off, 3)) (ht : (pc : Int) + off = (tgt : Int)) (k1 : ¬ (x = 0) → sr_T G d own cc nL ret ini inj tgt L st h F1) (k2 : x = 0 → sr_T G d own cc nL ret ini inj (pc + 3) L st h F2) : sr_T G d own cc nL ret ini inj pc L (vI x :: st) h (if x = 0 then F2 else F1) :=
  sr_T.fork _ (fun _ _ _ _ _ _ _ _ _ _ _ _ _ ls _ C h9 k1 k2 => lv_if_ne C.1 C.2.1 hd ht k2 k1) k2 k1
theorem tq_icmp_ne {x y : Int32} {off : Int} (tgt : Nat) {F1 F2 : Option (X × AH)} (hd : decode cc pc = .ok (.if_icmp .ne off, 3)) (ht : (pc : Int) + off = (tgt : Int)) (k1 : ¬ (x = y) → sr_T G d own cc nL ret ini inj tgt L st h F1) (k2 : x = y → sr_T G d own cc nL ret ini inj (pc + 3) L st h F2) : sr_T G d own cc nL ret ini inj pc L (vI y :: vI x :: st) h (if x = y then F2 else F1) :=
  sr_T.fork _ (fun _ _ _ _ _ _ _ _ _ _ _ _ _ ls _ C h9 k1 k2 => lv_icmp_ne C.1 C.2.1 hd ht k2 k1) k2 k1
theorem tq_ifnull {x : Option Nat} {off : Int} (tgt : Nat) {F1 F2 : Option (X × AH)} (hd : decode cc pc = .ok (.ifnull off, 3)) (ht : (pc : Int) + off = (tgt : Int)) (k1 : x = none → sr_T G d own cc nL ret ini inj tgt L st h F1) (k2 : ¬ (x = none) → sr_T G d own cc nL ret ini inj (pc + 3) L st h F2) : sr_T G d own cc nL ret ini inj pc L (vR x :: st) h (if x = none then F1 else F2) := by
  cases x with
  | none => exact sr_T.fork _ (fun _ _ _ _ _ _ _ _ _ _ _ _ _ ls _ C h9 k1 k2 => lv_ifnullN C.1 C.2.1 hd ht (k1 rfl)) k1 k2
  | some a => exact sr_T.fork _ (fun _ _ _ _ _ _ _ _ _ _ _ _ _ ls _ C h9 k1 k2 => lv_ifnull C.1 C.2.1 hd (k2 (fun z => by cases z))) k1 k2
theorem tq_ifnonnull {x : Option Nat} {off : Int} (tgt : Nat) {F1 F2 : Option (X × AH)} (hd : decode cc pc = .ok (.ifnonnull off, 3)) (ht : (pc : Int) + off = (tgt : Int)) (k1 : ¬ (x = none) → sr_T G d own cc nL ret ini inj tgt L st h F1) (k2 : x = none → sr_T G d own cc nL ret ini inj (pc + 3) L st h F2) : sr_T G d own cc nL ret ini inj pc L (vR x :: st) h (if x = none then F2 else F1) := by
  cases x with
  | none => exact sr_T.fork _ (fun _ _ _ _ _ _ _ _ _ _ _ _ _ ls _ C h9 k1 k2 => lv_ifnonnullN C.1 C.2.1 hd (k1 rfl)) k2 k1
  | some a => exact sr_T.fork _ (fun _ _ _ _ _ _ _ _ _ _ _ _ _ ls _ C h9 k1 k2 => lv_ifnonnull C.1 C.2.1 hd ht (k2 (fun z => by cases z))) k2 k1
/-- a switch: one road by the value -/
theorem tq_lookup {dflt : Int} {ps : Array (Int × Int)} {len : Nat} {x : Int32} {off : Int} (tgt : Nat) (hd : decode cc pc = .ok (.lookupswitch dflt ps, len)) (hp : (ps.toList.zip (ps.toList.drop 1)).all (fun (a, next) => a.1 < next.1) = true) (ho : Op.lookupswitch.offset ps.toList dflt x.toInt = off) (ht : (pc : Int) + off = (tgt : Int)) (k : sr_T G d own cc nL ret ini inj tgt L st h F) : sr_T G d own cc nL ret ini inj pc L (vI x :: st) h F :=
  sr_T.step (fun _ _ _ _ _ _ _ _ _ _ _ _ _ ls _ C h9 kk => lv_lookup C.1 C.2.1 hd hp ho ht (kk ls h9)) k
theorem tq_tableOut {dflt lo hi : Int} {offs : Array Int} {len : Nat} {x : Int32} (tgt : Nat) (hd : decode cc pc = .ok (.tableswitch dflt lo hi offs, len)) (hx : x.toInt < lo ∨ hi < x.toInt) (ht : (pc : Int) + dflt = (tgt : Int)) (k : sr_T G d own cc nL ret ini inj tgt L st h F) : sr_T G d own cc nL ret ini inj pc L (vI x :: st) h F :=
  sr_T.step (fun _ _ _ _ _ _ _ _ _ _ _ _ _ ls _ C h9 kk => lv_tableOut C.1 C.2.1 hd hx ht (kk ls h9)) k
theorem tq_tableIn {dflt lo hi : Int} {offs : Array Int} {len : Nat} {x : Int32} {off : Int} (tgt : Nat) (hd : decode cc pc = .ok (.tableswitch dflt lo hi offs, len)) (h1 : ¬ x.toInt < lo) (h2 : ¬ hi < x.toInt) (ho : offs[(x.toInt - lo).toNat]? = some off) (ht : (pc : Int) + off = (tgt : Int)) (k : sr_T G d own cc nL ret ini inj tgt L st h F) : sr_T G d own cc nL ret ini inj pc L (vI x :: st) h F :=
  sr_T.step (fun _ _ _ _ _ _ _ _ _ _ _ _ _ ls _ C h9 kk => lv_tableIn C.1 C.2.1 hd h1 h2 ho ht (kk ls h9)) k
theorem tq_ite {c : Prop} (hc : Decidable c) {F1 F2 : Option (X × AH)} (k1 : c → sr_T G d own cc nL ret ini inj pc L st h F1) (k2 : ¬ c → sr_T G d own cc nL ret ini inj pc L st h F2) : sr_T G d own cc nL ret ini inj pc L st h (if c then F1 else F2) := by
  by_cases hx : c
  · rw [if_pos hx]; exact k1 hx
  · rw [if_neg hx]; exact k2 hx
end RULES
end
