-- ===== PART A: goes FIRST, ahead of the names: the tables' words, and 'selects' of the private methods out of them =====
/-- a private method of a class that the tables say can be made, by its rows of tables_1 -/
def lw_okq (q : MethodName × Nat) : Prop := (q.1.cls ≠ "java/lang/invoke/MethodHandle" ∧ q.1.cls ≠ "java/lang/invoke/VarHandle") ∧ Cond.instantiable q.1.cls q.2 ∈ tables_1 ∧ Cond.privateMethod q.1 ∈ tables_1 ∧ Cond.instanceMethod q.1 ∈ tables_1
theorem lw_p0 : lw_okq (⟨"BatonZones$Tokens", "byteAt", "(I)I"⟩, 7) := ⟨⟨by decide +kernel, by decide +kernel⟩, List.mem_of_getElem? (i := 265) (by decide +kernel), List.mem_of_getElem? (i := 508) (by decide +kernel), List.mem_of_getElem? (i := 509) (by decide +kernel)⟩
theorem lw_p1 : lw_okq (⟨"BatonZones$Tokens", "takeWord", "()V"⟩, 7) := ⟨⟨by decide +kernel, by decide +kernel⟩, List.mem_of_getElem? (i := 265) (by decide +kernel), List.mem_of_getElem? (i := 515) (by decide +kernel), List.mem_of_getElem? (i := 516) (by decide +kernel)⟩
theorem lw_p2 : lw_okq (⟨"BatonZones$Tokens", "takeNumber", "()V"⟩, 7) := ⟨⟨by decide +kernel, by decide +kernel⟩, List.mem_of_getElem? (i := 265) (by decide +kernel), List.mem_of_getElem? (i := 522) (by decide +kernel), List.mem_of_getElem? (i := 523) (by decide +kernel)⟩
theorem lw_p3 : lw_okq (⟨"BatonZones$Reader", "readTrack", "(LBatonZones$Book;)Z"⟩, 7) := ⟨⟨by decide +kernel, by decide +kernel⟩, List.mem_of_getElem? (i := 259) (by decide +kernel), List.mem_of_getElem? (i := 611) (by decide +kernel), List.mem_of_getElem? (i := 612) (by decide +kernel)⟩
theorem lw_p4 : lw_okq (⟨"BatonZones$Reader", "takeWord", "(Ljava/lang/String;I)Z"⟩, 7) := ⟨⟨by decide +kernel, by decide +kernel⟩, List.mem_of_getElem? (i := 259) (by decide +kernel), List.mem_of_getElem? (i := 616) (by decide +kernel), List.mem_of_getElem? (i := 617) (by decide +kernel)⟩
theorem lw_p5 : lw_okq (⟨"BatonZones$Reader", "fail", "(I)Z"⟩, 7) := ⟨⟨by decide +kernel, by decide +kernel⟩, List.mem_of_getElem? (i := 259) (by decide +kernel), List.mem_of_getElem? (i := 648) (by decide +kernel), List.mem_of_getElem? (i := 649) (by decide +kernel)⟩
theorem lw_p6 : lw_okq (⟨"BatonZones$Reader", "takeNumber", "(II)Z"⟩, 7) := ⟨⟨by decide +kernel, by decide +kernel⟩, List.mem_of_getElem? (i := 259) (by decide +kernel), List.mem_of_getElem? (i := 653) (by decide +kernel), List.mem_of_getElem? (i := 654) (by decide +kernel)⟩
theorem lw_p7 : lw_okq (⟨"BatonZones$Reader", "takeSign", "(C)Z"⟩, 7) := ⟨⟨by decide +kernel, by decide +kernel⟩, List.mem_of_getElem? (i := 259) (by decide +kernel), List.mem_of_getElem? (i := 657) (by decide +kernel), List.mem_of_getElem? (i := 658) (by decide +kernel)⟩
theorem lw_p8 : lw_okq (⟨"BatonZones$Reader", "readTeam", "(LBatonZones$Book;)Z"⟩, 7) := ⟨⟨by decide +kernel, by decide +kernel⟩, List.mem_of_getElem? (i := 259) (by decide +kernel), List.mem_of_getElem? (i := 661) (by decide +kernel), List.mem_of_getElem? (i := 662) (by decide +kernel)⟩
theorem lw_p9 : lw_okq (⟨"BatonZones$Reader", "readRuns", "(LBatonZones$Book;)Z"⟩, 7) := ⟨⟨by decide +kernel, by decide +kernel⟩, List.mem_of_getElem? (i := 259) (by decide +kernel), List.mem_of_getElem? (i := 705) (by decide +kernel), List.mem_of_getElem? (i := 706) (by decide +kernel)⟩
theorem lw_p10 : lw_okq (⟨"BatonZones$Reader", "takeTeam", "(LBatonZones$Book;I)I"⟩, 7) := ⟨⟨by decide +kernel, by decide +kernel⟩, List.mem_of_getElem? (i := 259) (by decide +kernel), List.mem_of_getElem? (i := 711) (by decide +kernel), List.mem_of_getElem? (i := 712) (by decide +kernel)⟩
theorem lw_p11 : lw_okq (⟨"BatonZones$Reader", "readAct", "(LBatonZones$Book;)Z"⟩, 7) := ⟨⟨by decide +kernel, by decide +kernel⟩, List.mem_of_getElem? (i := 259) (by decide +kernel), List.mem_of_getElem? (i := 727) (by decide +kernel), List.mem_of_getElem? (i := 728) (by decide +kernel)⟩
theorem lw_p12 : lw_okq (⟨"BatonZones$Reader", "readRule", "(LBatonZones$Book;)Z"⟩, 7) := ⟨⟨by decide +kernel, by decide +kernel⟩, List.mem_of_getElem? (i := 259) (by decide +kernel), List.mem_of_getElem? (i := 744) (by decide +kernel), List.mem_of_getElem? (i := 745) (by decide +kernel)⟩
theorem lw_p13 : lw_okq (⟨"BatonZones$Conditions", "comparisonEnds", "(LBatonZones$Tokens;)Z"⟩, 7) := ⟨⟨by decide +kernel, by decide +kernel⟩, List.mem_of_getElem? (i := 299) (by decide +kernel), List.mem_of_getElem? (i := 760) (by decide +kernel), List.mem_of_getElem? (i := 761) (by decide +kernel)⟩
theorem lw_p14 : lw_okq (⟨"BatonZones$Conditions", "reduce", "(LBatonZones$Terms;I)V"⟩, 7) := ⟨⟨by decide +kernel, by decide +kernel⟩, List.mem_of_getElem? (i := 299) (by decide +kernel), List.mem_of_getElem? (i := 764) (by decide +kernel), List.mem_of_getElem? (i := 765) (by decide +kernel)⟩
theorem lw_p15 : lw_okq (⟨"BatonZones$Conditions", "truthEnds", "(LBatonZones$Tokens;)Z"⟩, 7) := ⟨⟨by decide +kernel, by decide +kernel⟩, List.mem_of_getElem? (i := 299) (by decide +kernel), List.mem_of_getElem? (i := 772) (by decide +kernel), List.mem_of_getElem? (i := 773) (by decide +kernel)⟩
def lw_privs_1 : List (MethodName × Nat) := [(⟨"BatonZones$Tokens", "byteAt", "(I)I"⟩, 7), (⟨"BatonZones$Tokens", "takeWord", "()V"⟩, 7), (⟨"BatonZones$Tokens", "takeNumber", "()V"⟩, 7), (⟨"BatonZones$Reader", "readTrack", "(LBatonZones$Book;)Z"⟩, 7), (⟨"BatonZones$Reader", "takeWord", "(Ljava/lang/String;I)Z"⟩, 7), (⟨"BatonZones$Reader", "fail", "(I)Z"⟩, 7), (⟨"BatonZones$Reader", "takeNumber", "(II)Z"⟩, 7), (⟨"BatonZones$Reader", "takeSign", "(C)Z"⟩, 7), (⟨"BatonZones$Reader", "readTeam", "(LBatonZones$Book;)Z"⟩, 7), (⟨"BatonZones$Reader", "readRuns", "(LBatonZones$Book;)Z"⟩, 7), (⟨"BatonZones$Reader", "takeTeam", "(LBatonZones$Book;I)I"⟩, 7), (⟨"BatonZones$Reader", "readAct", "(LBatonZones$Book;)Z"⟩, 7), (⟨"BatonZones$Reader", "readRule", "(LBatonZones$Book;)Z"⟩, 7), (⟨"BatonZones$Conditions", "comparisonEnds", "(LBatonZones$Tokens;)Z"⟩, 7), (⟨"BatonZones$Conditions", "reduce", "(LBatonZones$Terms;I)V"⟩, 7), (⟨"BatonZones$Conditions", "truthEnds", "(LBatonZones$Tokens;)Z"⟩, 7)]
theorem lw_r1 : ∀ q ∈ lw_privs_1, lw_okq q := List.forall_mem_cons.mpr ⟨lw_p0, List.forall_mem_cons.mpr ⟨lw_p1, List.forall_mem_cons.mpr ⟨lw_p2, List.forall_mem_cons.mpr ⟨lw_p3, List.forall_mem_cons.mpr ⟨lw_p4, List.forall_mem_cons.mpr ⟨lw_p5, List.forall_mem_cons.mpr ⟨lw_p6, List.forall_mem_cons.mpr ⟨lw_p7, List.forall_mem_cons.mpr ⟨lw_p8, List.forall_mem_cons.mpr ⟨lw_p9, List.forall_mem_cons.mpr ⟨lw_p10, List.forall_mem_cons.mpr ⟨lw_p11, List.forall_mem_cons.mpr ⟨lw_p12, List.forall_mem_cons.mpr ⟨lw_p13, List.forall_mem_cons.mpr ⟨lw_p14, List.forall_mem_cons.mpr ⟨lw_p15, fun _ h => absurd h List.not_mem_nil⟩⟩⟩⟩⟩⟩⟩⟩⟩⟩⟩⟩⟩⟩⟩⟩
theorem lw_p16 : lw_okq (⟨"BatonZones$Conditions", "comparisonStarts", "(LBatonZones$Tokens;)Z"⟩, 7) := ⟨⟨by decide +kernel, by decide +kernel⟩, List.mem_of_getElem? (i := 299) (by decide +kernel), List.mem_of_getElem? (i := 782) (by decide +kernel), List.mem_of_getElem? (i := 783) (by decide +kernel)⟩
theorem lw_p17 : lw_okq (⟨"BatonZones$Conditions", "openOne", "(LBatonZones$Terms;I)I"⟩, 7) := ⟨⟨by decide +kernel, by decide +kernel⟩, List.mem_of_getElem? (i := 299) (by decide +kernel), List.mem_of_getElem? (i := 786) (by decide +kernel), List.mem_of_getElem? (i := 787) (by decide +kernel)⟩
theorem lw_p18 : lw_okq (⟨"BatonZones$Conditions", "push", "(LBatonZones$Terms;I)V"⟩, 7) := ⟨⟨by decide +kernel, by decide +kernel⟩, List.mem_of_getElem? (i := 299) (by decide +kernel), List.mem_of_getElem? (i := 790) (by decide +kernel), List.mem_of_getElem? (i := 791) (by decide +kernel)⟩
theorem lw_p19 : lw_okq (⟨"BatonZones$Conditions", "startNumber", "(LBatonZones$Tokens;LBatonZones$Terms;)I"⟩, 7) := ⟨⟨by decide +kernel, by decide +kernel⟩, List.mem_of_getElem? (i := 299) (by decide +kernel), List.mem_of_getElem? (i := 794) (by decide +kernel), List.mem_of_getElem? (i := 795) (by decide +kernel)⟩
theorem lw_p20 : lw_okq (⟨"BatonZones$Conditions", "goOnWithNumber", "(LBatonZones$Tokens;LBatonZones$Terms;)I"⟩, 7) := ⟨⟨by decide +kernel, by decide +kernel⟩, List.mem_of_getElem? (i := 299) (by decide +kernel), List.mem_of_getElem? (i := 799) (by decide +kernel), List.mem_of_getElem? (i := 800) (by decide +kernel)⟩
theorem lw_p21 : lw_okq (⟨"BatonZones$Conditions", "join", "(LBatonZones$Terms;II)I"⟩, 7) := ⟨⟨by decide +kernel, by decide +kernel⟩, List.mem_of_getElem? (i := 299) (by decide +kernel), List.mem_of_getElem? (i := 803) (by decide +kernel), List.mem_of_getElem? (i := 804) (by decide +kernel)⟩
theorem lw_p22 : lw_okq (⟨"BatonZones$Conditions", "closeCurly", "(LBatonZones$Terms;)I"⟩, 7) := ⟨⟨by decide +kernel, by decide +kernel⟩, List.mem_of_getElem? (i := 299) (by decide +kernel), List.mem_of_getElem? (i := 810) (by decide +kernel), List.mem_of_getElem? (i := 811) (by decide +kernel)⟩
theorem lw_p23 : lw_okq (⟨"BatonZones$Conditions", "goOnWithTruth", "(LBatonZones$Tokens;LBatonZones$Terms;)I"⟩, 7) := ⟨⟨by decide +kernel, by decide +kernel⟩, List.mem_of_getElem? (i := 299) (by decide +kernel), List.mem_of_getElem? (i := 814) (by decide +kernel), List.mem_of_getElem? (i := 815) (by decide +kernel)⟩
theorem lw_p24 : lw_okq (⟨"BatonZones$Reader", "readThrough", "(LBatonZones$Book;)Z"⟩, 7) := ⟨⟨by decide +kernel, by decide +kernel⟩, List.mem_of_getElem? (i := 259) (by decide +kernel), List.mem_of_getElem? (i := 823) (by decide +kernel), List.mem_of_getElem? (i := 824) (by decide +kernel)⟩
theorem lw_p25 : lw_okq (⟨"BatonZones$Reader", "readWithin", "(LBatonZones$Book;)Z"⟩, 7) := ⟨⟨by decide +kernel, by decide +kernel⟩, List.mem_of_getElem? (i := 259) (by decide +kernel), List.mem_of_getElem? (i := 827) (by decide +kernel), List.mem_of_getElem? (i := 828) (by decide +kernel)⟩
theorem lw_p26 : lw_okq (⟨"BatonZones", "settleAll", "()V"⟩, 10) := ⟨⟨by decide +kernel, by decide +kernel⟩, List.mem_of_getElem? (i := 38) (by decide +kernel), List.mem_of_getElem? (i := 835) (by decide +kernel), List.mem_of_getElem? (i := 836) (by decide +kernel)⟩
theorem lw_p27 : lw_okq (⟨"BatonZones$Book", "metresOutside", "(I)I"⟩, 19) := ⟨⟨by decide +kernel, by decide +kernel⟩, List.mem_of_getElem? (i := 46) (by decide +kernel), List.mem_of_getElem? (i := 854) (by decide +kernel), List.mem_of_getElem? (i := 855) (by decide +kernel)⟩
theorem lw_p28 : lw_okq (⟨"BatonZones$Judge", "work", "(LBatonZones$Terms;I)J"⟩, 8) := ⟨⟨by decide +kernel, by decide +kernel⟩, List.mem_of_getElem? (i := 359) (by decide +kernel), List.mem_of_getElem? (i := 928) (by decide +kernel), List.mem_of_getElem? (i := 929) (by decide +kernel)⟩
theorem lw_p29 : lw_okq (⟨"BatonZones$Verdict", "strike", "(LBatonZones$Act;)V"⟩, 9) := ⟨⟨by decide +kernel, by decide +kernel⟩, List.mem_of_getElem? (i := 391) (by decide +kernel), List.mem_of_getElem? (i := 960) (by decide +kernel), List.mem_of_getElem? (i := 961) (by decide +kernel)⟩
theorem lw_p30 : lw_okq (⟨"BatonZones$Verdict", "decideThrough", "(LBatonZones$Book;)V"⟩, 9) := ⟨⟨by decide +kernel, by decide +kernel⟩, List.mem_of_getElem? (i := 391) (by decide +kernel), List.mem_of_getElem? (i := 970) (by decide +kernel), List.mem_of_getElem? (i := 971) (by decide +kernel)⟩
theorem lw_p31 : lw_okq (⟨"BatonZones$Verdict", "isIn", "(I)Z"⟩, 9) := ⟨⟨by decide +kernel, by decide +kernel⟩, List.mem_of_getElem? (i := 391) (by decide +kernel), List.mem_of_getElem? (i := 974) (by decide +kernel), List.mem_of_getElem? (i := 975) (by decide +kernel)⟩
def lw_privs_2 : List (MethodName × Nat) := [(⟨"BatonZones$Conditions", "comparisonStarts", "(LBatonZones$Tokens;)Z"⟩, 7), (⟨"BatonZones$Conditions", "openOne", "(LBatonZones$Terms;I)I"⟩, 7), (⟨"BatonZones$Conditions", "push", "(LBatonZones$Terms;I)V"⟩, 7), (⟨"BatonZones$Conditions", "startNumber", "(LBatonZones$Tokens;LBatonZones$Terms;)I"⟩, 7), (⟨"BatonZones$Conditions", "goOnWithNumber", "(LBatonZones$Tokens;LBatonZones$Terms;)I"⟩, 7), (⟨"BatonZones$Conditions", "join", "(LBatonZones$Terms;II)I"⟩, 7), (⟨"BatonZones$Conditions", "closeCurly", "(LBatonZones$Terms;)I"⟩, 7), (⟨"BatonZones$Conditions", "goOnWithTruth", "(LBatonZones$Tokens;LBatonZones$Terms;)I"⟩, 7), (⟨"BatonZones$Reader", "readThrough", "(LBatonZones$Book;)Z"⟩, 7), (⟨"BatonZones$Reader", "readWithin", "(LBatonZones$Book;)Z"⟩, 7), (⟨"BatonZones", "settleAll", "()V"⟩, 10), (⟨"BatonZones$Book", "metresOutside", "(I)I"⟩, 19), (⟨"BatonZones$Judge", "work", "(LBatonZones$Terms;I)J"⟩, 8), (⟨"BatonZones$Verdict", "strike", "(LBatonZones$Act;)V"⟩, 9), (⟨"BatonZones$Verdict", "decideThrough", "(LBatonZones$Book;)V"⟩, 9), (⟨"BatonZones$Verdict", "isIn", "(I)Z"⟩, 9)]
theorem lw_r2 : ∀ q ∈ lw_privs_2, lw_okq q := List.forall_mem_cons.mpr ⟨lw_p16, List.forall_mem_cons.mpr ⟨lw_p17, List.forall_mem_cons.mpr ⟨lw_p18, List.forall_mem_cons.mpr ⟨lw_p19, List.forall_mem_cons.mpr ⟨lw_p20, List.forall_mem_cons.mpr ⟨lw_p21, List.forall_mem_cons.mpr ⟨lw_p22, List.forall_mem_cons.mpr ⟨lw_p23, List.forall_mem_cons.mpr ⟨lw_p24, List.forall_mem_cons.mpr ⟨lw_p25, List.forall_mem_cons.mpr ⟨lw_p26, List.forall_mem_cons.mpr ⟨lw_p27, List.forall_mem_cons.mpr ⟨lw_p28, List.forall_mem_cons.mpr ⟨lw_p29, List.forall_mem_cons.mpr ⟨lw_p30, List.forall_mem_cons.mpr ⟨lw_p31, fun _ h => absurd h List.not_mem_nil⟩⟩⟩⟩⟩⟩⟩⟩⟩⟩⟩⟩⟩⟩⟩⟩
theorem lw_p32 : lw_okq (⟨"BatonZonesLaw$World", "next", "(I)I"⟩, 16) := ⟨⟨by decide +kernel, by decide +kernel⟩, List.mem_of_getElem? (i := 1040) (by decide +kernel), List.mem_of_getElem? (i := 1072) (by decide +kernel), List.mem_of_getElem? (i := 1073) (by decide +kernel)⟩
theorem lw_p33 : lw_okq (⟨"java/util/ArrayList", "add", "(Ljava/lang/Object;[Ljava/lang/Object;I)V"⟩, 3) := ⟨⟨by decide +kernel, by decide +kernel⟩, List.mem_of_getElem? (i := 1046) (by decide +kernel), List.mem_of_getElem? (i := 1406) (by decide +kernel), List.mem_of_getElem? (i := 1407) (by decide +kernel)⟩
theorem lw_p34 : lw_okq (⟨"java/util/ArrayList", "grow", "()[Ljava/lang/Object;"⟩, 3) := ⟨⟨by decide +kernel, by decide +kernel⟩, List.mem_of_getElem? (i := 1046) (by decide +kernel), List.mem_of_getElem? (i := 1410) (by decide +kernel), List.mem_of_getElem? (i := 1411) (by decide +kernel)⟩
theorem lw_p35 : lw_okq (⟨"java/util/ArrayList", "grow", "(I)[Ljava/lang/Object;"⟩, 3) := ⟨⟨by decide +kernel, by decide +kernel⟩, List.mem_of_getElem? (i := 1046) (by decide +kernel), List.mem_of_getElem? (i := 1414) (by decide +kernel), List.mem_of_getElem? (i := 1415) (by decide +kernel)⟩
theorem lw_p36 : lw_okq (⟨"BatonZonesLaw$Grown", "a", "(Ljava/lang/StringBuilder;I)LBatonZonesLaw$Part;"⟩, 4) := ⟨⟨by decide +kernel, by decide +kernel⟩, List.mem_of_getElem? (i := 1537) (by decide +kernel), List.mem_of_getElem? (i := 1561) (by decide +kernel), List.mem_of_getElem? (i := 1562) (by decide +kernel)⟩
theorem lw_p37 : lw_okq (⟨"BatonZonesLaw$Grown", "b", "(Ljava/lang/StringBuilder;I)LBatonZonesLaw$Part;"⟩, 4) := ⟨⟨by decide +kernel, by decide +kernel⟩, List.mem_of_getElem? (i := 1537) (by decide +kernel), List.mem_of_getElem? (i := 1565) (by decide +kernel), List.mem_of_getElem? (i := 1566) (by decide +kernel)⟩
theorem lw_p38 : lw_okq (⟨"BatonZonesLaw$Grown", "next", "(I)I"⟩, 4) := ⟨⟨by decide +kernel, by decide +kernel⟩, List.mem_of_getElem? (i := 1537) (by decide +kernel), List.mem_of_getElem? (i := 1569) (by decide +kernel), List.mem_of_getElem? (i := 1570) (by decide +kernel)⟩
theorem lw_p39 : lw_okq (⟨"BatonZonesLaw$Grown", "e", "(Ljava/lang/StringBuilder;I)LBatonZonesLaw$Part;"⟩, 4) := ⟨⟨by decide +kernel, by decide +kernel⟩, List.mem_of_getElem? (i := 1537) (by decide +kernel), List.mem_of_getElem? (i := 1599) (by decide +kernel), List.mem_of_getElem? (i := 1600) (by decide +kernel)⟩
theorem lw_p40 : lw_okq (⟨"BatonZonesLaw$Grown", "m", "(Ljava/lang/StringBuilder;I)LBatonZonesLaw$Part;"⟩, 4) := ⟨⟨by decide +kernel, by decide +kernel⟩, List.mem_of_getElem? (i := 1537) (by decide +kernel), List.mem_of_getElem? (i := 1603) (by decide +kernel), List.mem_of_getElem? (i := 1604) (by decide +kernel)⟩
theorem lw_p41 : lw_okq (⟨"BatonZonesLaw$Grown", "u", "(Ljava/lang/StringBuilder;I)LBatonZonesLaw$Part;"⟩, 4) := ⟨⟨by decide +kernel, by decide +kernel⟩, List.mem_of_getElem? (i := 1537) (by decide +kernel), List.mem_of_getElem? (i := 1607) (by decide +kernel), List.mem_of_getElem? (i := 1608) (by decide +kernel)⟩
theorem lw_p42 : lw_okq (⟨"BatonZones", "feedNumber", "(I)V"⟩, 10) := ⟨⟨by decide +kernel, by decide +kernel⟩, List.mem_of_getElem? (i := 38) (by decide +kernel), List.mem_of_getElem? (i := 1792) (by decide +kernel), List.mem_of_getElem? (i := 1793) (by decide +kernel)⟩
theorem lw_p43 : lw_okq (⟨"BatonZones$Book", "boxFrom", "(I)I"⟩, 19) := ⟨⟨by decide +kernel, by decide +kernel⟩, List.mem_of_getElem? (i := 46) (by decide +kernel), List.mem_of_getElem? (i := 1896) (by decide +kernel), List.mem_of_getElem? (i := 1897) (by decide +kernel)⟩
theorem lw_p44 : lw_okq (⟨"BatonZones$Book", "boxTo", "(I)I"⟩, 19) := ⟨⟨by decide +kernel, by decide +kernel⟩, List.mem_of_getElem? (i := 46) (by decide +kernel), List.mem_of_getElem? (i := 1900) (by decide +kernel), List.mem_of_getElem? (i := 1901) (by decide +kernel)⟩
theorem lw_p45 : lw_okq (⟨"BatonZones$Race", "lastTenth", "(LBatonZones$Book;)I"⟩, 1) := ⟨⟨by decide +kernel, by decide +kernel⟩, List.mem_of_getElem? (i := 349) (by decide +kernel), List.mem_of_getElem? (i := 1929) (by decide +kernel), List.mem_of_getElem? (i := 1930) (by decide +kernel)⟩
theorem lw_p46 : lw_okq (⟨"BatonZones", "canHold", "(III)Z"⟩, 10) := ⟨⟨by decide +kernel, by decide +kernel⟩, List.mem_of_getElem? (i := 38) (by decide +kernel), List.mem_of_getElem? (i := 1964) (by decide +kernel), List.mem_of_getElem? (i := 1965) (by decide +kernel)⟩
theorem lw_p47 : lw_okq (⟨"BatonZones$Judge", "choose", "(LBatonZones$Terms;II)V"⟩, 8) := ⟨⟨by decide +kernel, by decide +kernel⟩, List.mem_of_getElem? (i := 359) (by decide +kernel), List.mem_of_getElem? (i := 1981) (by decide +kernel), List.mem_of_getElem? (i := 1982) (by decide +kernel)⟩
def lw_privs_3 : List (MethodName × Nat) := [(⟨"BatonZonesLaw$World", "next", "(I)I"⟩, 16), (⟨"java/util/ArrayList", "add", "(Ljava/lang/Object;[Ljava/lang/Object;I)V"⟩, 3), (⟨"java/util/ArrayList", "grow", "()[Ljava/lang/Object;"⟩, 3), (⟨"java/util/ArrayList", "grow", "(I)[Ljava/lang/Object;"⟩, 3), (⟨"BatonZonesLaw$Grown", "a", "(Ljava/lang/StringBuilder;I)LBatonZonesLaw$Part;"⟩, 4), (⟨"BatonZonesLaw$Grown", "b", "(Ljava/lang/StringBuilder;I)LBatonZonesLaw$Part;"⟩, 4), (⟨"BatonZonesLaw$Grown", "next", "(I)I"⟩, 4), (⟨"BatonZonesLaw$Grown", "e", "(Ljava/lang/StringBuilder;I)LBatonZonesLaw$Part;"⟩, 4), (⟨"BatonZonesLaw$Grown", "m", "(Ljava/lang/StringBuilder;I)LBatonZonesLaw$Part;"⟩, 4), (⟨"BatonZonesLaw$Grown", "u", "(Ljava/lang/StringBuilder;I)LBatonZonesLaw$Part;"⟩, 4), (⟨"BatonZones", "feedNumber", "(I)V"⟩, 10), (⟨"BatonZones$Book", "boxFrom", "(I)I"⟩, 19), (⟨"BatonZones$Book", "boxTo", "(I)I"⟩, 19), (⟨"BatonZones$Race", "lastTenth", "(LBatonZones$Book;)I"⟩, 1), (⟨"BatonZones", "canHold", "(III)Z"⟩, 10), (⟨"BatonZones$Judge", "choose", "(LBatonZones$Terms;II)V"⟩, 8)]
theorem lw_r3 : ∀ q ∈ lw_privs_3, lw_okq q := List.forall_mem_cons.mpr ⟨lw_p32, List.forall_mem_cons.mpr ⟨lw_p33, List.forall_mem_cons.mpr ⟨lw_p34, List.forall_mem_cons.mpr ⟨lw_p35, List.forall_mem_cons.mpr ⟨lw_p36, List.forall_mem_cons.mpr ⟨lw_p37, List.forall_mem_cons.mpr ⟨lw_p38, List.forall_mem_cons.mpr ⟨lw_p39, List.forall_mem_cons.mpr ⟨lw_p40, List.forall_mem_cons.mpr ⟨lw_p41, List.forall_mem_cons.mpr ⟨lw_p42, List.forall_mem_cons.mpr ⟨lw_p43, List.forall_mem_cons.mpr ⟨lw_p44, List.forall_mem_cons.mpr ⟨lw_p45, List.forall_mem_cons.mpr ⟨lw_p46, List.forall_mem_cons.mpr ⟨lw_p47, fun _ h => absurd h List.not_mem_nil⟩⟩⟩⟩⟩⟩⟩⟩⟩⟩⟩⟩⟩⟩⟩⟩
theorem lw_p48 : lw_okq (⟨"BatonZones$Judge", "weigh", "(LBatonZones$Terms;I)I"⟩, 8) := ⟨⟨by decide +kernel, by decide +kernel⟩, List.mem_of_getElem? (i := 359) (by decide +kernel), List.mem_of_getElem? (i := 1985) (by decide +kernel), List.mem_of_getElem? (i := 1986) (by decide +kernel)⟩
theorem lw_p49 : lw_okq (⟨"BatonZones$Judge", "isOfBoth", "(II)Z"⟩, 8) := ⟨⟨by decide +kernel, by decide +kernel⟩, List.mem_of_getElem? (i := 359) (by decide +kernel), List.mem_of_getElem? (i := 1989) (by decide +kernel), List.mem_of_getElem? (i := 1990) (by decide +kernel)⟩
theorem lw_p50 : lw_okq (⟨"BatonZones$Judge", "isLeftEnough", "(LBatonZones$Terms;I)Z"⟩, 8) := ⟨⟨by decide +kernel, by decide +kernel⟩, List.mem_of_getElem? (i := 359) (by decide +kernel), List.mem_of_getElem? (i := 1993) (by decide +kernel), List.mem_of_getElem? (i := 1994) (by decide +kernel)⟩
theorem lw_p51 : lw_okq (⟨"BatonZones$Judge", "pick", "(IZ)V"⟩, 8) := ⟨⟨by decide +kernel, by decide +kernel⟩, List.mem_of_getElem? (i := 359) (by decide +kernel), List.mem_of_getElem? (i := 1997) (by decide +kernel), List.mem_of_getElem? (i := 1998) (by decide +kernel)⟩
theorem lw_p52 : lw_okq (⟨"BatonZones$Book", "teamsAhead", "([II)I"⟩, 19) := ⟨⟨by decide +kernel, by decide +kernel⟩, List.mem_of_getElem? (i := 46) (by decide +kernel), List.mem_of_getElem? (i := 2015) (by decide +kernel), List.mem_of_getElem? (i := 2016) (by decide +kernel)⟩
theorem lw_p53 : lw_okq (⟨"BatonZones$Judge", "isUnstruck", "(LBatonZones$Book;IJ)Z"⟩, 8) := ⟨⟨by decide +kernel, by decide +kernel⟩, List.mem_of_getElem? (i := 359) (by decide +kernel), List.mem_of_getElem? (i := 2032) (by decide +kernel), List.mem_of_getElem? (i := 2033) (by decide +kernel)⟩
def lw_privs_4 : List (MethodName × Nat) := [(⟨"BatonZones$Judge", "weigh", "(LBatonZones$Terms;I)I"⟩, 8), (⟨"BatonZones$Judge", "isOfBoth", "(II)Z"⟩, 8), (⟨"BatonZones$Judge", "isLeftEnough", "(LBatonZones$Terms;I)Z"⟩, 8), (⟨"BatonZones$Judge", "pick", "(IZ)V"⟩, 8), (⟨"BatonZones$Book", "teamsAhead", "([II)I"⟩, 19), (⟨"BatonZones$Judge", "isUnstruck", "(LBatonZones$Book;IJ)Z"⟩, 8)]
theorem lw_r4 : ∀ q ∈ lw_privs_4, lw_okq q := List.forall_mem_cons.mpr ⟨lw_p48, List.forall_mem_cons.mpr ⟨lw_p49, List.forall_mem_cons.mpr ⟨lw_p50, List.forall_mem_cons.mpr ⟨lw_p51, List.forall_mem_cons.mpr ⟨lw_p52, List.forall_mem_cons.mpr ⟨lw_p53, fun _ h => absurd h List.not_mem_nil⟩⟩⟩⟩⟩⟩
def lw_privs : List (MethodName × Nat) := lw_privs_1 ++ (lw_privs_2 ++ (lw_privs_3 ++ (lw_privs_4)))
def lw_tbl : List Cond := k2_sels lw_privs ++ tables_1
theorem lw_privs_ok : ∀ q ∈ lw_privs, lw_okq q := by
  show ∀ q ∈ lw_privs_1 ++ (lw_privs_2 ++ (lw_privs_3 ++ (lw_privs_4))), lw_okq q
  exact List.forall_mem_append.mpr ⟨lw_r1, List.forall_mem_append.mpr ⟨lw_r2, List.forall_mem_append.mpr ⟨lw_r3, lw_r4⟩⟩⟩
def RL : String := "BatonZonesLaw"
def RX0 : String := "BatonZones$Act"
def TX0 : u_T := fun k => match k with
  | 0 => ("BatonZones$Act", "kind", "I", false)
  | 1 => ("BatonZones$Act", "team", "I", false)
  | 2 => ("BatonZones$Act", "other", "I", false)
  | 3 => ("BatonZones$Act", "tenth", "I", false)
  | _ => ("BatonZones$Act", "size", "I", false)
def tyX0 : Nat → FieldType := fun k => match k with
  | 0 => .int
  | 1 => .int
  | 2 => .int
  | 3 => .int
  | _ => .int
def RX1 : String := "BatonZones$Appeals"
def TX1 : u_T := fun k => match k with
  | 0 => ("BatonZones$Appeals", "log", "[I", true)
  | 1 => ("BatonZones$Appeals", "next", "I", false)
  | _ => ("BatonZones$Appeals", "kept", "I", false)
def tyX1 : Nat → FieldType := fun k => match k with
  | 0 => .array .int
  | 1 => .int
  | _ => .int
def RX2 : String := "BatonZones$Book"
def TX2 : u_T := fun k => match k with
  | 0 => ("BatonZones$Book", "legs", "I", false)
  | 1 => ("BatonZones$Book", "length", "I", false)
  | 2 => ("BatonZones$Book", "before", "I", false)
  | 3 => ("BatonZones$Book", "after", "I", false)
  | 4 => ("BatonZones$Book", "cut", "I", false)
  | 5 => ("BatonZones$Book", "teams", "I", false)
  | 6 => ("BatonZones$Book", "actsTold", "I", false)
  | 7 => ("BatonZones$Book", "acts", "I", false)
  | 8 => ("BatonZones$Book", "rules", "I", false)
  | 9 => ("BatonZones$Book", "through", "I", false)
  | 10 => ("BatonZones$Book", "within", "I", false)
  | 11 => ("BatonZones$Book", "waived", "J", false)
  | 12 => ("BatonZones$Book", "terms", "LBatonZones$Terms;", true)
  | 13 => ("BatonZones$Book", "runners", "[LBatonZones$Team;", true)
  | 14 => ("BatonZones$Book", "deeds", "[LBatonZones$Act;", true)
  | 15 => ("BatonZones$Book", "ruleNames", "[J", true)
  | 16 => ("BatonZones$Book", "ruleKinds", "[I", true)
  | 17 => ("BatonZones$Book", "nobody", "LBatonZones$Team;", true)
  | _ => ("BatonZones$Book", "nothing", "LBatonZones$Act;", true)
def tyX2 : Nat → FieldType := fun k => match k with
  | 0 => .int
  | 1 => .int
  | 2 => .int
  | 3 => .int
  | 4 => .int
  | 5 => .int
  | 6 => .int
  | 7 => .int
  | 8 => .int
  | 9 => .int
  | 10 => .int
  | 11 => .long
  | 12 => .object "BatonZones$Terms"
  | 13 => .array (.object "BatonZones$Team")
  | 14 => .array (.object "BatonZones$Act")
  | 15 => .array .long
  | 16 => .array .int
  | 17 => .object "BatonZones$Team"
  | _ => .object "BatonZones$Act"
def RX3 : String := "BatonZones$Conditions"
def TX3 : u_T := fun k => match k with
  | 0 => ("BatonZones$Conditions", "state", "I", false)
  | 1 => ("BatonZones$Conditions", "open", "I", false)
  | 2 => ("BatonZones$Conditions", "curly", "I", false)
  | 3 => ("BatonZones$Conditions", "compared", "Z", false)
  | 4 => ("BatonZones$Conditions", "waiting", "[I", true)
  | 5 => ("BatonZones$Conditions", "operand", "[I", true)
  | _ => ("BatonZones$Conditions", "waits", "I", false)
def tyX3 : Nat → FieldType := fun k => match k with
  | 0 => .int
  | 1 => .int
  | 2 => .int
  | 3 => .boolean
  | 4 => .array .int
  | 5 => .array .int
  | _ => .int
def RX4 : String := "BatonZones$Judge"
def TX4 : u_T := fun k => match k with
  | 0 => ("BatonZones$Judge", "facts", "[I", true)
  | 1 => ("BatonZones$Judge", "value", "[J", true)
  | 2 => ("BatonZones$Judge", "weight", "[I", true)
  | 3 => ("BatonZones$Judge", "chosen", "[Z", true)
  | 4 => ("BatonZones$Judge", "earlier", "[J", true)
  | 5 => ("BatonZones$Judge", "forcers", "[J", true)
  | 6 => ("BatonZones$Judge", "judged", "[J", true)
  | _ => ("BatonZones$Judge", "struck", "[J", true)
def tyX4 : Nat → FieldType := fun k => match k with
  | 0 => .array .int
  | 1 => .array .long
  | 2 => .array .int
  | 3 => .array .boolean
  | 4 => .array .long
  | 5 => .array .long
  | 6 => .array .long
  | _ => .array .long
def RX5 : String := "BatonZones$Race"
def TX5 : u_T := fun k => match k with
  | _ => ("BatonZones$Race", "keys", "[I", true)
def tyX5 : Nat → FieldType := fun k => match k with
  | _ => .array .int
def RX6 : String := "BatonZones$Reader"
def TX6 : u_T := fun k => match k with
  | 0 => ("BatonZones$Reader", "tokens", "LBatonZones$Tokens;", true)
  | 1 => ("BatonZones$Reader", "conditions", "LBatonZones$Conditions;", true)
  | 2 => ("BatonZones$Reader", "throughTold", "Z", false)
  | 3 => ("BatonZones$Reader", "withinTold", "Z", false)
  | 4 => ("BatonZones$Reader", "taken", "I", false)
  | 5 => ("BatonZones$Reader", "fault", "I", false)
  | _ => ("BatonZones$Reader", "faultPlace", "I", false)
def tyX6 : Nat → FieldType := fun k => match k with
  | 0 => .object "BatonZones$Tokens"
  | 1 => .object "BatonZones$Conditions"
  | 2 => .boolean
  | 3 => .boolean
  | 4 => .int
  | 5 => .int
  | _ => .int
def RX7 : String := "BatonZones$Team"
def TX7 : u_T := fun k => match k with
  | 0 => ("BatonZones$Team", "tenths", "[I", true)
  | 1 => ("BatonZones$Team", "metres", "[I", true)
  | 2 => ("BatonZones$Team", "ends", "[I", true)
  | 3 => ("BatonZones$Team", "passes", "[I", true)
  | 4 => ("BatonZones$Team", "name", "J", false)
  | 5 => ("BatonZones$Team", "lane", "I", false)
  | _ => ("BatonZones$Team", "told", "I", false)
def tyX7 : Nat → FieldType := fun k => match k with
  | 0 => .array .int
  | 1 => .array .int
  | 2 => .array .int
  | 3 => .array .int
  | 4 => .long
  | 5 => .int
  | _ => .int
def RX8 : String := "BatonZones$Terms"
def TX8 : u_T := fun k => match k with
  | 0 => ("BatonZones$Terms", "op", "[I", true)
  | 1 => ("BatonZones$Terms", "number", "[I", true)
  | 2 => ("BatonZones$Terms", "left", "[I", true)
  | 3 => ("BatonZones$Terms", "from", "[I", true)
  | 4 => ("BatonZones$Terms", "to", "[I", true)
  | 5 => ("BatonZones$Terms", "comparisons", "[I", true)
  | 6 => ("BatonZones$Terms", "written", "I", false)
  | _ => ("BatonZones$Terms", "size", "I", false)
def tyX8 : Nat → FieldType := fun k => match k with
  | 0 => .array .int
  | 1 => .array .int
  | 2 => .array .int
  | 3 => .array .int
  | 4 => .array .int
  | 5 => .array .int
  | 6 => .int
  | _ => .int
def RX9 : String := "BatonZones$Tokens"
def TX9 : u_T := fun k => match k with
  | 0 => ("BatonZones$Tokens", "text", "[I", false)
  | 1 => ("BatonZones$Tokens", "length", "I", false)
  | 2 => ("BatonZones$Tokens", "next", "I", false)
  | 3 => ("BatonZones$Tokens", "kind", "I", false)
  | 4 => ("BatonZones$Tokens", "place", "I", false)
  | 5 => ("BatonZones$Tokens", "number", "I", false)
  | _ => ("BatonZones$Tokens", "word", "J", false)
def tyX9 : Nat → FieldType := fun k => match k with
  | 0 => .array .int
  | 1 => .int
  | 2 => .int
  | 3 => .int
  | 4 => .int
  | 5 => .int
  | _ => .long
def RX10 : String := "BatonZones$Verdict"
def TX10 : u_T := fun k => match k with
  | 0 => ("BatonZones$Verdict", "strikes", "[I", true)
  | 1 => ("BatonZones$Verdict", "would", "[I", true)
  | 2 => ("BatonZones$Verdict", "times", "[I", true)
  | 3 => ("BatonZones$Verdict", "fairTimes", "[I", true)
  | 4 => ("BatonZones$Verdict", "struck", "I", false)
  | 5 => ("BatonZones$Verdict", "through", "I", false)
  | 6 => ("BatonZones$Verdict", "impeded", "I", false)
  | 7 => ("BatonZones$Verdict", "besides", "I", false)
  | _ => ("BatonZones$Verdict", "whole", "I", false)
def tyX10 : Nat → FieldType := fun k => match k with
  | 0 => .array .int
  | 1 => .array .int
  | 2 => .array .int
  | 3 => .array .int
  | 4 => .int
  | 5 => .int
  | 6 => .int
  | 7 => .int
  | _ => .int
def RX11 : String := "BatonZones"
def TX11 : u_T := fun k => match k with
  | 0 => ("BatonZones", "tape", "[I", true)
  | 1 => ("BatonZones", "fed", "I", false)
  | 2 => ("BatonZones", "told", "LBatonZones$Book;", false)
  | 3 => ("BatonZones", "spare", "LBatonZones$Book;", false)
  | 4 => ("BatonZones", "reader", "LBatonZones$Reader;", true)
  | 5 => ("BatonZones", "race", "LBatonZones$Race;", true)
  | 6 => ("BatonZones", "judge", "LBatonZones$Judge;", true)
  | 7 => ("BatonZones", "verdict", "LBatonZones$Verdict;", true)
  | 8 => ("BatonZones", "supposed", "LBatonZones$Verdict;", true)
  | _ => ("BatonZones", "appeals", "LBatonZones$Appeals;", true)
def tyX11 : Nat → FieldType := fun k => match k with
  | 0 => .array .int
  | 1 => .int
  | 2 => .object "BatonZones$Book"
  | 3 => .object "BatonZones$Book"
  | 4 => .object "BatonZones$Reader"
  | 5 => .object "BatonZones$Race"
  | 6 => .object "BatonZones$Judge"
  | 7 => .object "BatonZones$Verdict"
  | 8 => .object "BatonZones$Verdict"
  | _ => .object "BatonZones$Appeals"
def RX12 : String := "BatonZonesLaw$Act"
def TX12 : u_T := fun k => match k with
  | 0 => ("BatonZonesLaw$Act", "kind", "I", false)
  | 1 => ("BatonZonesLaw$Act", "team", "I", false)
  | 2 => ("BatonZonesLaw$Act", "other", "I", false)
  | 3 => ("BatonZonesLaw$Act", "tenth", "I", false)
  | 4 => ("BatonZonesLaw$Act", "size", "I", false)
  | _ => ("BatonZonesLaw$Act", "waived", "Z", false)
def tyX12 : Nat → FieldType := fun k => match k with
  | 0 => .int
  | 1 => .int
  | 2 => .int
  | 3 => .int
  | 4 => .int
  | _ => .boolean
def RX13 : String := "BatonZonesLaw$Grown"
def TX13 : u_T := fun k => match k with
  | 0 => ("BatonZonesLaw$Grown", "s", "[I", true)
  | 1 => ("BatonZonesLaw$Grown", "at", "I", false)
  | 2 => ("BatonZonesLaw$Grown", "left", "I", false)
  | _ => ("BatonZonesLaw$Grown", "compared", "I", false)
def tyX13 : Nat → FieldType := fun k => match k with
  | 0 => .array .int
  | 1 => .int
  | 2 => .int
  | _ => .int
def RX14 : String := "BatonZonesLaw$Part"
def TX14 : u_T := fun k => match k with
  | 0 => ("BatonZonesLaw$Part", "sign", "Ljava/lang/String;", true)
  | 1 => ("BatonZonesLaw$Part", "value", "I", false)
  | 2 => ("BatonZonesLaw$Part", "a", "LBatonZonesLaw$Part;", true)
  | _ => ("BatonZonesLaw$Part", "b", "LBatonZonesLaw$Part;", true)
def tyX14 : Nat → FieldType := fun k => match k with
  | 0 => .object "java/lang/String"
  | 1 => .int
  | 2 => .object "BatonZonesLaw$Part"
  | _ => .object "BatonZonesLaw$Part"
def RX15 : String := "BatonZonesLaw$Rule"
def TX15 : u_T := fun k => match k with
  | 0 => ("BatonZonesLaw$Rule", "kind", "I", false)
  | 1 => ("BatonZonesLaw$Rule", "whenMany", "I", false)
  | 2 => ("BatonZonesLaw$Rule", "excuseMany", "I", false)
  | 3 => ("BatonZonesLaw$Rule", "when", "LBatonZonesLaw$Part;", false)
  | _ => ("BatonZonesLaw$Rule", "excuse", "LBatonZonesLaw$Part;", false)
def tyX15 : Nat → FieldType := fun k => match k with
  | 0 => .int
  | 1 => .int
  | 2 => .int
  | 3 => .object "BatonZonesLaw$Part"
  | _ => .object "BatonZonesLaw$Part"
def RX16 : String := "BatonZonesLaw$Told"
def RX17 : String := "BatonZonesLaw$World"
def TX17 : u_T := fun k => match k with
  | 0 => ("BatonZonesLaw$World", "legs", "I", true)
  | 1 => ("BatonZonesLaw$World", "length", "I", true)
  | 2 => ("BatonZonesLaw$World", "before", "I", true)
  | 3 => ("BatonZonesLaw$World", "after", "I", true)
  | 4 => ("BatonZonesLaw$World", "cut", "I", true)
  | 5 => ("BatonZonesLaw$World", "through", "I", false)
  | 6 => ("BatonZonesLaw$World", "within", "I", false)
  | 7 => ("BatonZonesLaw$World", "lines", "I", false)
  | 8 => ("BatonZonesLaw$World", "lanes", "Ljava/util/List;", true)
  | 9 => ("BatonZonesLaw$World", "runs", "Ljava/util/List;", false)
  | 10 => ("BatonZonesLaw$World", "acts", "Ljava/util/List;", false)
  | 11 => ("BatonZonesLaw$World", "rules", "Ljava/util/List;", true)
  | 12 => ("BatonZonesLaw$World", "turned", "I", false)
  | 13 => ("BatonZonesLaw$World", "text", "Ljava/lang/String;", true)
  | 14 => ("BatonZonesLaw$World", "s", "[I", true)
  | _ => ("BatonZonesLaw$World", "at", "I", false)
def tyX17 : Nat → FieldType := fun k => match k with
  | 0 => .int
  | 1 => .int
  | 2 => .int
  | 3 => .int
  | 4 => .int
  | 5 => .int
  | 6 => .int
  | 7 => .int
  | 8 => .object "java/util/List"
  | 9 => .object "java/util/List"
  | 10 => .object "java/util/List"
  | 11 => .object "java/util/List"
  | 12 => .int
  | 13 => .object "java/lang/String"
  | 14 => .array .int
  | _ => .int
def RX18 : String := "BatonZonesModel"
def RJx145de : String := "java/io/Serializable"
def RJ5 : String := "java/lang/AbstractStringBuilder"
def RJx2cfe8 : String := "java/lang/Appendable"
def RJx9f9b0 : String := "java/lang/CharSequence"
def RJ11 : String := "java/lang/Character"
def RJx8e188 : String := "java/lang/Cloneable"
def RJxb160c : String := "java/lang/Comparable"
def RJxabbfe : String := "java/lang/Integer$IntegerCache"
def RJ6 : String := "java/lang/Integer"
def TJ6 : u_T := fun k => match k with
  | _ => ("java/lang/Integer", "value", "I", true)
def tyJ6 : Nat → FieldType := fun k => match k with
  | _ => .int
def RJxab1ab : String := "java/lang/Iterable"
def RJ13 : String := "java/lang/Long"
def RJ9 : String := "java/lang/Math"
def RJxd2413 : String := "java/lang/Number"
def RJ0 : String := "java/lang/String"
def TJ0 : u_T := fun k => match k with
  | 0 => ("java/lang/String", "value", "[B", true)
  | 1 => ("java/lang/String", "coder", "B", true)
  | 2 => ("java/lang/String", "hash", "I", false)
  | _ => ("java/lang/String", "hashIsZero", "Z", false)
def tyJ0 : Nat → FieldType := fun k => match k with
  | 0 => .array .byte
  | 1 => .byte
  | 2 => .int
  | _ => .boolean
def RJ4 : String := "java/lang/StringBuilder"
def TJ4 : u_T := fun k => match k with
  | 0 => ("java/lang/AbstractStringBuilder", "value", "[B", false)
  | 1 => ("java/lang/AbstractStringBuilder", "coder", "B", false)
  | 2 => ("java/lang/AbstractStringBuilder", "maybeLatin1", "Z", false)
  | _ => ("java/lang/AbstractStringBuilder", "count", "I", false)
def tyJ4 : Nat → FieldType := fun k => match k with
  | 0 => .array .byte
  | 1 => .byte
  | 2 => .boolean
  | _ => .int
def RJ1 : String := "java/lang/StringLatin1"
def RJ2 : String := "java/lang/StringUTF16"
def RJ10 : String := "java/lang/System"
def RJxfd54e : String := "java/lang/constant/Constable"
def RJx3cf43 : String := "java/lang/constant/ConstantDesc"
def RJxa1e45 : String := "java/util/AbstractCollection"
def RJxc12de : String := "java/util/AbstractList"
def RJx4a65c : String := "java/util/ArrayList"
def TJx4a65c : u_T := fun k => match k with
  | 0 => ("java/util/AbstractList", "modCount", "I", false)
  | 1 => ("java/util/ArrayList", "elementData", "[Ljava/lang/Object;", false)
  | _ => ("java/util/ArrayList", "size", "I", false)
def tyJx4a65c : Nat → FieldType := fun k => match k with
  | 0 => .int
  | 1 => .array (.object "java/lang/Object")
  | _ => .int
def RJ7 : String := "java/util/Arrays"
def RJx5ef63 : String := "java/util/Collection"
def RJxbd725 : String := "java/util/List"
def RJ15 : String := "java/util/Objects"
def RJxf0a74 : String := "java/util/RandomAccess"
def RJxa66e6 : String := "java/util/SequencedCollection"
def RJ8 : String := "jdk/internal/util/ArraysSupport"
def RJ3 : String := "jdk/internal/util/Preconditions"
abbrev cX0_init : ByteArray := prog_2_method_1_code
def yX0_init : MethodName := ⟨RX0, "<init>", "()V"⟩
abbrev cX0_tell : ByteArray := prog_2_method_2_code
def yX0_tell : MethodName := ⟨RX0, "tell", "(IIIII)V"⟩
abbrev cX1_init : ByteArray := prog_3_method_1_code
def yX1_init : MethodName := ⟨RX1, "<init>", "()V"⟩
abbrev cX1_forget : ByteArray := prog_3_method_2_code
def yX1_forget : MethodName := ⟨RX1, "forget", "()V"⟩
abbrev cX1_keep : ByteArray := prog_3_method_3_code
def yX1_keep : MethodName := ⟨RX1, "keep", "(IIIII)V"⟩
abbrev cX1_takeBack : ByteArray := prog_3_method_4_code
def yX1_takeBack : MethodName := ⟨RX1, "takeBack", "(LBatonZones$Book;)V"⟩
abbrev cX2_init : ByteArray := prog_4_method_1_code
def yX2_init : MethodName := ⟨RX2, "<init>", "()V"⟩
abbrev cX2_clear : ByteArray := prog_4_method_2_code
def yX2_clear : MethodName := ⟨RX2, "clear", "()V"⟩
abbrev cX2_hasTeam : ByteArray := prog_4_method_3_code
def yX2_hasTeam : MethodName := ⟨RX2, "hasTeam", "(I)Z"⟩
abbrev cX2_hasRule : ByteArray := prog_4_method_4_code
def yX2_hasRule : MethodName := ⟨RX2, "hasRule", "(I)Z"⟩
abbrev cX2_hasAct : ByteArray := prog_4_method_5_code
def yX2_hasAct : MethodName := ⟨RX2, "hasAct", "(I)Z"⟩
abbrev cX2_wasTold : ByteArray := prog_4_method_6_code
def yX2_wasTold : MethodName := ⟨RX2, "wasTold", "(I)Z"⟩
abbrev cX2_hasLeg : ByteArray := prog_4_method_7_code
def yX2_hasLeg : MethodName := ⟨RX2, "hasLeg", "(II)Z"⟩
abbrev cX2_runner : ByteArray := prog_4_method_8_code
def yX2_runner : MethodName := ⟨RX2, "runner", "(I)LBatonZones$Team;"⟩
abbrev cX2_deed : ByteArray := prog_4_method_9_code
def yX2_deed : MethodName := ⟨RX2, "deed", "(I)LBatonZones$Act;"⟩
abbrev cX2_kindOfRule : ByteArray := prog_4_method_10_code
def yX2_kindOfRule : MethodName := ⟨RX2, "kindOfRule", "(I)I"⟩
abbrev cX2_nameOfRule : ByteArray := prog_4_method_11_code
def yX2_nameOfRule : MethodName := ⟨RX2, "nameOfRule", "(I)J"⟩
abbrev cX2_isWhole : ByteArray := prog_4_method_12_code
def yX2_isWhole : MethodName := ⟨RX2, "isWhole", "(I)Z"⟩
abbrev cX2_teamInLane : ByteArray := prog_4_method_13_code
def yX2_teamInLane : MethodName := ⟨RX2, "teamInLane", "(I)I"⟩
abbrev cX2_teamOfName : ByteArray := prog_4_method_14_code
def yX2_teamOfName : MethodName := ⟨RX2, "teamOfName", "(J)I"⟩
abbrev cX2_isNameTaken : ByteArray := prog_4_method_15_code
def yX2_isNameTaken : MethodName := ⟨RX2, "isNameTaken", "(J)Z"⟩
abbrev cX2_addTeam : ByteArray := prog_4_method_16_code
def yX2_addTeam : MethodName := ⟨RX2, "addTeam", "(JI)V"⟩
abbrev cX2_addAct : ByteArray := prog_4_method_17_code
def yX2_addAct : MethodName := ⟨RX2, "addAct", "(IIIII)V"⟩
abbrev cX2_addRule : ByteArray := prog_4_method_18_code
def yX2_addRule : MethodName := ⟨RX2, "addRule", "(JI)V"⟩
abbrev cX2_mostMetres : ByteArray := prog_4_method_19_code
def yX2_mostMetres : MethodName := ⟨RX2, "mostMetres", "(I)I"⟩
abbrev cX2_settle : ByteArray := prog_4_method_20_code
def yX2_settle : MethodName := ⟨RX2, "settle", "()V"⟩
abbrev cX2_metresOutside : ByteArray := prog_4_method_21_code
def yX2_metresOutside : MethodName := ⟨RX2, "metresOutside", "(I)I"⟩
abbrev cX2_boxFrom : ByteArray := prog_4_method_22_code
def yX2_boxFrom : MethodName := ⟨RX2, "boxFrom", "(I)I"⟩
abbrev cX2_boxTo : ByteArray := prog_4_method_23_code
def yX2_boxTo : MethodName := ⟨RX2, "boxTo", "(I)I"⟩
abbrev cX2_isInABox : ByteArray := prog_4_method_24_code
def yX2_isInABox : MethodName := ⟨RX2, "isInABox", "(I)Z"⟩
abbrev cX2_runInBox : ByteArray := prog_4_method_25_code
def yX2_runInBox : MethodName := ⟨RX2, "runInBox", "(LBatonZones$Team;II)I"⟩
abbrev cX2_earlier : ByteArray := prog_4_method_26_code
def yX2_earlier : MethodName := ⟨RX2, "earlier", "(II)J"⟩
abbrev cX2_forcers : ByteArray := prog_4_method_27_code
def yX2_forcers : MethodName := ⟨RX2, "forcers", "(II)J"⟩
abbrev cX2_kth : ByteArray := prog_4_method_28_code
def yX2_kth : MethodName := ⟨RX2, "kth", "([II)I"⟩
abbrev cX2_teamsAhead : ByteArray := prog_4_method_29_code
def yX2_teamsAhead : MethodName := ⟨RX2, "teamsAhead", "([II)I"⟩
abbrev cX3_init : ByteArray := prog_5_method_1_code
def yX3_init : MethodName := ⟨RX3, "<init>", "()V"⟩
abbrev cX3_read : ByteArray := prog_5_method_2_code
def yX3_read : MethodName := ⟨RX3, "read", "(LBatonZones$Tokens;LBatonZones$Terms;I)I"⟩
abbrev cX3_comparisonEnds : ByteArray := prog_5_method_3_code
def yX3_comparisonEnds : MethodName := ⟨RX3, "comparisonEnds", "(LBatonZones$Tokens;)Z"⟩
abbrev cX3_truthEnds : ByteArray := prog_5_method_4_code
def yX3_truthEnds : MethodName := ⟨RX3, "truthEnds", "(LBatonZones$Tokens;)Z"⟩
abbrev cX3_comparisonStarts : ByteArray := prog_5_method_5_code
def yX3_comparisonStarts : MethodName := ⟨RX3, "comparisonStarts", "(LBatonZones$Tokens;)Z"⟩
abbrev cX3_startNumber : ByteArray := prog_5_method_6_code
def yX3_startNumber : MethodName := ⟨RX3, "startNumber", "(LBatonZones$Tokens;LBatonZones$Terms;)I"⟩
abbrev cX3_openOne : ByteArray := prog_5_method_7_code
def yX3_openOne : MethodName := ⟨RX3, "openOne", "(LBatonZones$Terms;I)I"⟩
abbrev cX3_goOnWithNumber : ByteArray := prog_5_method_8_code
def yX3_goOnWithNumber : MethodName := ⟨RX3, "goOnWithNumber", "(LBatonZones$Tokens;LBatonZones$Terms;)I"⟩
abbrev cX3_closeCurly : ByteArray := prog_5_method_9_code
def yX3_closeCurly : MethodName := ⟨RX3, "closeCurly", "(LBatonZones$Terms;)I"⟩
abbrev cX3_goOnWithTruth : ByteArray := prog_5_method_10_code
def yX3_goOnWithTruth : MethodName := ⟨RX3, "goOnWithTruth", "(LBatonZones$Tokens;LBatonZones$Terms;)I"⟩
abbrev cX3_join : ByteArray := prog_5_method_11_code
def yX3_join : MethodName := ⟨RX3, "join", "(LBatonZones$Terms;II)I"⟩
abbrev cX3_push : ByteArray := prog_5_method_12_code
def yX3_push : MethodName := ⟨RX3, "push", "(LBatonZones$Terms;I)V"⟩
abbrev cX3_reduce : ByteArray := prog_5_method_13_code
def yX3_reduce : MethodName := ⟨RX3, "reduce", "(LBatonZones$Terms;I)V"⟩
abbrev cX4_init : ByteArray := prog_6_method_1_code
def yX4_init : MethodName := ⟨RX4, "<init>", "()V"⟩
abbrev cX4_lookAt : ByteArray := prog_6_method_3_code
def yX4_lookAt : MethodName := ⟨RX4, "lookAt", "(LBatonZones$Book;I)V"⟩
abbrev cX4_look : ByteArray := prog_6_method_4_code
def yX4_look : MethodName := ⟨RX4, "look", "(LBatonZones$Book;IIIJ)V"⟩
abbrev cX4_isSo : ByteArray := prog_6_method_5_code
def yX4_isSo : MethodName := ⟨RX4, "isSo", "(LBatonZones$Terms;II)Z"⟩
abbrev cX4_work : ByteArray := prog_6_method_6_code
def yX4_work : MethodName := ⟨RX4, "work", "(LBatonZones$Terms;I)J"⟩
abbrev cX4_reckon : ByteArray := prog_6_method_7_code
def yX4_reckon : MethodName := ⟨RX4, "reckon", "(IJJ)J"⟩
abbrev cX4_within32 : ByteArray := prog_6_method_8_code
def yX4_within32 : MethodName := ⟨RX4, "within32", "(J)J"⟩
abbrev cX4_reason : ByteArray := prog_6_method_9_code
def yX4_reason : MethodName := ⟨RX4, "reason", "(LBatonZones$Terms;III)I"⟩
abbrev cX4_choose : ByteArray := prog_6_method_10_code
def yX4_choose : MethodName := ⟨RX4, "choose", "(LBatonZones$Terms;II)V"⟩
abbrev cX4_pick : ByteArray := prog_6_method_11_code
def yX4_pick : MethodName := ⟨RX4, "pick", "(IZ)V"⟩
abbrev cX4_weigh : ByteArray := prog_6_method_12_code
def yX4_weigh : MethodName := ⟨RX4, "weigh", "(LBatonZones$Terms;I)I"⟩
abbrev cX4_isOfBoth : ByteArray := prog_6_method_13_code
def yX4_isOfBoth : MethodName := ⟨RX4, "isOfBoth", "(II)Z"⟩
abbrev cX4_isLeftEnough : ByteArray := prog_6_method_14_code
def yX4_isLeftEnough : MethodName := ⟨RX4, "isLeftEnough", "(LBatonZones$Terms;I)Z"⟩
abbrev cX4_rulesStriking : ByteArray := prog_6_method_15_code
def yX4_rulesStriking : MethodName := ⟨RX4, "rulesStriking", "(LBatonZones$Book;IIIJ)I"⟩
abbrev cX4_fewestWaived : ByteArray := prog_6_method_17_code
def yX4_fewestWaived : MethodName := ⟨RX4, "fewestWaived", "(LBatonZones$Book;I)I"⟩
abbrev cX4_isUnstruck : ByteArray := prog_6_method_18_code
def yX4_isUnstruck : MethodName := ⟨RX4, "isUnstruck", "(LBatonZones$Book;IJ)Z"⟩
abbrev cX5_init : ByteArray := prog_7_method_1_code
def yX5_init : MethodName := ⟨RX5, "<init>", "()V"⟩
abbrev cX5_lastTenth : ByteArray := prog_7_method_3_code
def yX5_lastTenth : MethodName := ⟨RX5, "lastTenth", "(LBatonZones$Book;)I"⟩
abbrev cX5_leadChanges : ByteArray := prog_7_method_6_code
def yX5_leadChanges : MethodName := ⟨RX5, "leadChanges", "(LBatonZones$Book;II)I"⟩
abbrev cX6_init : ByteArray := prog_8_method_1_code
def yX6_init : MethodName := ⟨RX6, "<init>", "()V"⟩
abbrev cX6_read : ByteArray := prog_8_method_2_code
def yX6_read : MethodName := ⟨RX6, "read", "([IILBatonZones$Book;)I"⟩
abbrev cX6_fail : ByteArray := prog_8_method_3_code
def yX6_fail : MethodName := ⟨RX6, "fail", "(I)Z"⟩
abbrev cX6_takeSign : ByteArray := prog_8_method_4_code
def yX6_takeSign : MethodName := ⟨RX6, "takeSign", "(C)Z"⟩
abbrev cX6_takeWord : ByteArray := prog_8_method_5_code
def yX6_takeWord : MethodName := ⟨RX6, "takeWord", "(Ljava/lang/String;I)Z"⟩
abbrev cX6_takeNumber : ByteArray := prog_8_method_6_code
def yX6_takeNumber : MethodName := ⟨RX6, "takeNumber", "(II)Z"⟩
abbrev cX6_readTrack : ByteArray := prog_8_method_7_code
def yX6_readTrack : MethodName := ⟨RX6, "readTrack", "(LBatonZones$Book;)Z"⟩
abbrev cX6_readTeam : ByteArray := prog_8_method_8_code
def yX6_readTeam : MethodName := ⟨RX6, "readTeam", "(LBatonZones$Book;)Z"⟩
abbrev cX6_takeTeam : ByteArray := prog_8_method_9_code
def yX6_takeTeam : MethodName := ⟨RX6, "takeTeam", "(LBatonZones$Book;I)I"⟩
abbrev cX6_readRuns : ByteArray := prog_8_method_10_code
def yX6_readRuns : MethodName := ⟨RX6, "readRuns", "(LBatonZones$Book;)Z"⟩
abbrev cX6_readAct : ByteArray := prog_8_method_11_code
def yX6_readAct : MethodName := ⟨RX6, "readAct", "(LBatonZones$Book;)Z"⟩
abbrev cX6_readRule : ByteArray := prog_8_method_12_code
def yX6_readRule : MethodName := ⟨RX6, "readRule", "(LBatonZones$Book;)Z"⟩
abbrev cX6_readThrough : ByteArray := prog_8_method_13_code
def yX6_readThrough : MethodName := ⟨RX6, "readThrough", "(LBatonZones$Book;)Z"⟩
abbrev cX6_readWithin : ByteArray := prog_8_method_14_code
def yX6_readWithin : MethodName := ⟨RX6, "readWithin", "(LBatonZones$Book;)Z"⟩
abbrev cX7_init : ByteArray := prog_9_method_1_code
def yX7_init : MethodName := ⟨RX7, "<init>", "()V"⟩
abbrev cX7_addLeg : ByteArray := prog_9_method_2_code
def yX7_addLeg : MethodName := ⟨RX7, "addLeg", "(II)V"⟩
abbrev cX7_setLeg : ByteArray := prog_9_method_3_code
def yX7_setLeg : MethodName := ⟨RX7, "setLeg", "(III)V"⟩
abbrev cX7_settle : ByteArray := prog_9_method_4_code
def yX7_settle : MethodName := ⟨RX7, "settle", "(I)V"⟩
abbrev cX7_tenthsOf : ByteArray := prog_9_method_5_code
def yX7_tenthsOf : MethodName := ⟨RX7, "tenthsOf", "(I)I"⟩
abbrev cX7_metresOf : ByteArray := prog_9_method_6_code
def yX7_metresOf : MethodName := ⟨RX7, "metresOf", "(I)I"⟩
abbrev cX7_endOf : ByteArray := prog_9_method_7_code
def yX7_endOf : MethodName := ⟨RX7, "endOf", "(I)I"⟩
abbrev cX7_passOf : ByteArray := prog_9_method_8_code
def yX7_passOf : MethodName := ⟨RX7, "passOf", "(I)I"⟩
abbrev cX7_time : ByteArray := prog_9_method_9_code
def yX7_time : MethodName := ⟨RX7, "time", "()I"⟩
abbrev cX7_legAt : ByteArray := prog_9_method_10_code
def yX7_legAt : MethodName := ⟨RX7, "legAt", "(I)I"⟩
abbrev cX7_whereAt : ByteArray := prog_9_method_11_code
def yX7_whereAt : MethodName := ⟨RX7, "whereAt", "(I)I"⟩
abbrev cX7_arrival : ByteArray := prog_9_method_12_code
def yX7_arrival : MethodName := ⟨RX7, "arrival", "(I)I"⟩
abbrev cX8_init : ByteArray := prog_10_method_1_code
def yX8_init : MethodName := ⟨RX8, "<init>", "()V"⟩
abbrev cX8_condition : ByteArray := prog_10_method_2_code
def yX8_condition : MethodName := ⟨RX8, "condition", "(II)I"⟩
abbrev cX8_clear : ByteArray := prog_10_method_3_code
def yX8_clear : MethodName := ⟨RX8, "clear", "()V"⟩
abbrev cX8_begin : ByteArray := prog_10_method_4_code
def yX8_begin : MethodName := ⟨RX8, "begin", "(I)V"⟩
abbrev cX8_finish : ByteArray := prog_10_method_5_code
def yX8_finish : MethodName := ⟨RX8, "finish", "()V"⟩
abbrev cX8_put : ByteArray := prog_10_method_6_code
def yX8_put : MethodName := ⟨RX8, "put", "(III)V"⟩
abbrev cX8_isComparison : ByteArray := prog_10_method_7_code
def yX8_isComparison : MethodName := ⟨RX8, "isComparison", "(I)Z"⟩
abbrev cX8_isTold : ByteArray := prog_10_method_8_code
def yX8_isTold : MethodName := ⟨RX8, "isTold", "(II)Z"⟩
abbrev cX8_comparisonsOf : ByteArray := prog_10_method_9_code
def yX8_comparisonsOf : MethodName := ⟨RX8, "comparisonsOf", "(II)I"⟩
abbrev cX8_fromOf : ByteArray := prog_10_method_10_code
def yX8_fromOf : MethodName := ⟨RX8, "fromOf", "(II)I"⟩
abbrev cX8_toOf : ByteArray := prog_10_method_11_code
def yX8_toOf : MethodName := ⟨RX8, "toOf", "(II)I"⟩
abbrev cX8_opAt : ByteArray := prog_10_method_12_code
def yX8_opAt : MethodName := ⟨RX8, "opAt", "(I)I"⟩
abbrev cX8_numberAt : ByteArray := prog_10_method_13_code
def yX8_numberAt : MethodName := ⟨RX8, "numberAt", "(I)I"⟩
abbrev cX8_leftOf : ByteArray := prog_10_method_14_code
def yX8_leftOf : MethodName := ⟨RX8, "leftOf", "(I)I"⟩
abbrev cX9_init : ByteArray := prog_11_method_1_code
def yX9_init : MethodName := ⟨RX9, "<init>", "()V"⟩
abbrev cX9_open : ByteArray := prog_11_method_2_code
def yX9_open : MethodName := ⟨RX9, "open", "([II)V"⟩
abbrev cX9_byteAt : ByteArray := prog_11_method_3_code
def yX9_byteAt : MethodName := ⟨RX9, "byteAt", "(I)I"⟩
abbrev cX9_advance : ByteArray := prog_11_method_4_code
def yX9_advance : MethodName := ⟨RX9, "advance", "()V"⟩
abbrev cX9_isLetter : ByteArray := prog_11_method_5_code
def yX9_isLetter : MethodName := ⟨RX9, "isLetter", "(I)Z"⟩
abbrev cX9_isDigit : ByteArray := prog_11_method_6_code
def yX9_isDigit : MethodName := ⟨RX9, "isDigit", "(I)Z"⟩
abbrev cX9_takeWord : ByteArray := prog_11_method_7_code
def yX9_takeWord : MethodName := ⟨RX9, "takeWord", "()V"⟩
abbrev cX9_takeNumber : ByteArray := prog_11_method_8_code
def yX9_takeNumber : MethodName := ⟨RX9, "takeNumber", "()V"⟩
abbrev cX9_indexIn : ByteArray := prog_11_method_9_code
def yX9_indexIn : MethodName := ⟨RX9, "indexIn", "(Ljava/lang/String;)I"⟩
abbrev cX9_packed : ByteArray := prog_11_method_10_code
def yX9_packed : MethodName := ⟨RX9, "packed", "(Ljava/lang/String;I)J"⟩
abbrev cX9_isName : ByteArray := prog_11_method_11_code
def yX9_isName : MethodName := ⟨RX9, "isName", "()Z"⟩
abbrev cX10_init : ByteArray := prog_12_method_1_code
def yX10_init : MethodName := ⟨RX10, "<init>", "()V"⟩
abbrev cX10_decide : ByteArray := prog_12_method_2_code
def yX10_decide : MethodName := ⟨RX10, "decide", "(LBatonZones$Book;LBatonZones$Judge;J)V"⟩
abbrev cX10_strike : ByteArray := prog_12_method_3_code
def yX10_strike : MethodName := ⟨RX10, "strike", "(LBatonZones$Act;)V"⟩
abbrev cX10_decideThrough : ByteArray := prog_12_method_4_code
def yX10_decideThrough : MethodName := ⟨RX10, "decideThrough", "(LBatonZones$Book;)V"⟩
abbrev cX10_isIn : ByteArray := prog_12_method_5_code
def yX10_isIn : MethodName := ⟨RX10, "isIn", "(I)Z"⟩
abbrev cX10_rankOf : ByteArray := prog_12_method_6_code
def yX10_rankOf : MethodName := ⟨RX10, "rankOf", "([II)I"⟩
abbrev cX10_rankByTime : ByteArray := prog_12_method_7_code
def yX10_rankByTime : MethodName := ⟨RX10, "rankByTime", "(I)I"⟩
abbrev cX10_wouldOf : ByteArray := prog_12_method_9_code
def yX10_wouldOf : MethodName := ⟨RX10, "wouldOf", "(I)I"⟩
abbrev cX10_kthOfResult : ByteArray := prog_12_method_10_code
def yX10_kthOfResult : MethodName := ⟨RX10, "kthOfResult", "(LBatonZones$Book;I)I"⟩
abbrev cX10_isRunAgain : ByteArray := prog_12_method_11_code
def yX10_isRunAgain : MethodName := ⟨RX10, "isRunAgain", "()Z"⟩
abbrev cX10_rulesStriking : ByteArray := prog_12_method_12_code
def yX10_rulesStriking : MethodName := ⟨RX10, "rulesStriking", "(I)I"⟩
abbrev cX10_firstRuleStriking : ByteArray := prog_12_method_13_code
def yX10_firstRuleStriking : MethodName := ⟨RX10, "firstRuleStriking", "(I)I"⟩
abbrev cX10_firstStruckAct : ByteArray := prog_12_method_14_code
def yX10_firstStruckAct : MethodName := ⟨RX10, "firstStruckAct", "(LBatonZones$Book;I)I"⟩
abbrev cX10_struckActs : ByteArray := prog_12_method_15_code
def yX10_struckActs : MethodName := ⟨RX10, "struckActs", "(LBatonZones$Book;I)I"⟩
abbrev cX11_init : ByteArray := prog_1_method_1_code
def yX11_init : MethodName := ⟨RX11, "<init>", "()V"⟩
abbrev cX11_feed : ByteArray := prog_1_method_2_code
def yX11_feed : MethodName := ⟨RX11, "feed", "(IIIII)I"⟩
abbrev cX11_feedNumber : ByteArray := prog_1_method_3_code
def yX11_feedNumber : MethodName := ⟨RX11, "feedNumber", "(I)V"⟩
abbrev cX11_end : ByteArray := prog_1_method_4_code
def yX11_end : MethodName := ⟨RX11, "end", "(I)I"⟩
abbrev cX11_book : ByteArray := prog_1_method_5_code
def yX11_book : MethodName := ⟨RX11, "book", "()I"⟩
abbrev cX11_settleAll : ByteArray := prog_1_method_6_code
def yX11_settleAll : MethodName := ⟨RX11, "settleAll", "()V"⟩
abbrev cX11_about : ByteArray := prog_1_method_8_code
def yX11_about : MethodName := ⟨RX11, "about", "(I)I"⟩
abbrev cX11_team : ByteArray := prog_1_method_10_code
def yX11_team : MethodName := ⟨RX11, "team", "(II)I"⟩
abbrev cX11_lane : ByteArray := prog_1_method_11_code
def yX11_lane : MethodName := ⟨RX11, "lane", "(I)I"⟩
abbrev cX11_isTenth : ByteArray := prog_1_method_12_code
def yX11_isTenth : MethodName := ⟨RX11, "isTenth", "(I)Z"⟩
abbrev cX11_place : ByteArray := prog_1_method_13_code
def yX11_place : MethodName := ⟨RX11, "place", "(II)I"⟩
abbrev cX11_comes : ByteArray := prog_1_method_14_code
def yX11_comes : MethodName := ⟨RX11, "comes", "(II)I"⟩
abbrev cX11_changes : ByteArray := prog_1_method_17_code
def yX11_changes : MethodName := ⟨RX11, "changes", "(II)I"⟩
abbrev cX11_leg : ByteArray := prog_1_method_22_code
def yX11_leg : MethodName := ⟨RX11, "leg", "(III)I"⟩
abbrev cX11_inBox : ByteArray := prog_1_method_23_code
def yX11_inBox : MethodName := ⟨RX11, "inBox", "(II)I"⟩
abbrev cX11_act : ByteArray := prog_1_method_24_code
def yX11_act : MethodName := ⟨RX11, "act", "(II)I"⟩
abbrev cX11_rule : ByteArray := prog_1_method_26_code
def yX11_rule : MethodName := ⟨RX11, "rule", "(II)I"⟩
abbrev cX11_canHold : ByteArray := prog_1_method_27_code
def yX11_canHold : MethodName := ⟨RX11, "canHold", "(III)Z"⟩
abbrev cX11_holds : ByteArray := prog_1_method_28_code
def yX11_holds : MethodName := ⟨RX11, "holds", "(III)I"⟩
abbrev cX11_why : ByteArray := prog_1_method_29_code
def yX11_why : MethodName := ⟨RX11, "why", "(IIII)I"⟩
abbrev cX11_struckBy : ByteArray := prog_1_method_30_code
def yX11_struckBy : MethodName := ⟨RX11, "struckBy", "(II)I"⟩
abbrev cX11_struck : ByteArray := prog_1_method_33_code
def yX11_struck : MethodName := ⟨RX11, "struck", "(II)I"⟩
abbrev cX11_rank : ByteArray := prog_1_method_34_code
def yX11_rank : MethodName := ⟨RX11, "rank", "(I)I"⟩
abbrev cX11_result : ByteArray := prog_1_method_35_code
def yX11_result : MethodName := ⟨RX11, "result", "(I)I"⟩
abbrev cX11_who : ByteArray := prog_1_method_36_code
def yX11_who : MethodName := ⟨RX11, "who", "(I)I"⟩
abbrev cX11_would : ByteArray := prog_1_method_37_code
def yX11_would : MethodName := ⟨RX11, "would", "(I)I"⟩
abbrev cX11_again : ByteArray := prog_1_method_41_code
def yX11_again : MethodName := ⟨RX11, "again", "()I"⟩
abbrev cX11_stays : ByteArray := prog_1_method_43_code
def yX11_stays : MethodName := ⟨RX11, "stays", "(II)I"⟩
abbrev cX11_appeal : ByteArray := prog_1_method_44_code
def yX11_appeal : MethodName := ⟨RX11, "appeal", "(III)I"⟩
abbrev cX11_waive : ByteArray := prog_1_method_45_code
def yX11_waive : MethodName := ⟨RX11, "waive", "(I)I"⟩
abbrev cX11_measure : ByteArray := prog_1_method_46_code
def yX11_measure : MethodName := ⟨RX11, "measure", "(IIII)I"⟩
abbrev cX11_undo : ByteArray := prog_1_method_47_code
def yX11_undo : MethodName := ⟨RX11, "undo", "()I"⟩
abbrev cX11_at : ByteArray := prog_1_method_48_code
def yX11_at : MethodName := ⟨RX11, "at", "([II)I"⟩
abbrev cX11_longAt : ByteArray := prog_1_method_49_code
def yX11_longAt : MethodName := ⟨RX11, "longAt", "([JI)J"⟩
abbrev cX12_init : ByteArray := prog_14_method_1_code
def yX12_init : MethodName := ⟨RX12, "<init>", "()V"⟩
abbrev cX13_init : ByteArray := prog_15_method_1_code
def yX13_init : MethodName := ⟨RX13, "<init>", "([II)V"⟩
abbrev cX13_next : ByteArray := prog_15_method_2_code
def yX13_next : MethodName := ⟨RX13, "next", "(I)I"⟩
abbrev cX13_t : ByteArray := prog_15_method_3_code
def yX13_t : MethodName := ⟨RX13, "t", "(Ljava/lang/StringBuilder;I)LBatonZonesLaw$Part;"⟩
abbrev cX13_a : ByteArray := prog_15_method_4_code
def yX13_a : MethodName := ⟨RX13, "a", "(Ljava/lang/StringBuilder;I)LBatonZonesLaw$Part;"⟩
abbrev cX13_b : ByteArray := prog_15_method_5_code
def yX13_b : MethodName := ⟨RX13, "b", "(Ljava/lang/StringBuilder;I)LBatonZonesLaw$Part;"⟩
abbrev cX13_e : ByteArray := prog_15_method_6_code
def yX13_e : MethodName := ⟨RX13, "e", "(Ljava/lang/StringBuilder;I)LBatonZonesLaw$Part;"⟩
abbrev cX13_m : ByteArray := prog_15_method_7_code
def yX13_m : MethodName := ⟨RX13, "m", "(Ljava/lang/StringBuilder;I)LBatonZonesLaw$Part;"⟩
abbrev cX13_u : ByteArray := prog_15_method_8_code
def yX13_u : MethodName := ⟨RX13, "u", "(Ljava/lang/StringBuilder;I)LBatonZonesLaw$Part;"⟩
abbrev cX14_init : ByteArray := prog_16_method_1_code
def yX14_init : MethodName := ⟨RX14, "<init>", "(Ljava/lang/String;ILBatonZonesLaw$Part;LBatonZonesLaw$Part;)V"⟩
abbrev cX15_init : ByteArray := prog_17_method_1_code
def yX15_init : MethodName := ⟨RX15, "<init>", "()V"⟩
abbrev cX17_next : ByteArray := prog_19_method_1_code
def yX17_next : MethodName := ⟨RX17, "next", "(I)I"⟩
abbrev cX17_init : ByteArray := prog_19_method_2_code
def yX17_init : MethodName := ⟨RX17, "<init>", "([I)V"⟩
abbrev cX17_teams : ByteArray := prog_19_method_3_code
def yX17_teams : MethodName := ⟨RX17, "teams", "()I"⟩
abbrev cJ5_init_d00df : ByteArray := prog_22_method_2_code
def yJ5_init_d00df : MethodName := ⟨RJ5, "<init>", "(I)V"⟩
abbrev cJ5_init_a7421 : ByteArray := prog_22_method_3_code
def yJ5_init_a7421 : MethodName := ⟨RJ5, "<init>", "(Ljava/lang/String;)V"⟩
abbrev cJ5_length_8abf5 : ByteArray := prog_22_method_6_code
def yJ5_length_8abf5 : MethodName := ⟨RJ5, "length", "()I"⟩
abbrev cJ5_ensureCapacityInternal_d00df : ByteArray := prog_22_method_9_code
def yJ5_ensureCapacityInternal_d00df : MethodName := ⟨RJ5, "ensureCapacityInternal", "(I)V"⟩
abbrev cJ5_newCapacity_0f7a4 : ByteArray := prog_22_method_10_code
def yJ5_newCapacity_0f7a4 : MethodName := ⟨RJ5, "newCapacity", "(I)I"⟩
abbrev cJ5_append_cf1ce : ByteArray := prog_22_method_22_code
def yJ5_append_cf1ce : MethodName := ⟨RJ5, "append", "(Ljava/lang/String;)Ljava/lang/AbstractStringBuilder;"⟩
abbrev cJ5_append_2ceeb : ByteArray := prog_22_method_24_code
def yJ5_append_2ceeb : MethodName := ⟨RJ5, "append", "(Ljava/lang/AbstractStringBuilder;)Ljava/lang/AbstractStringBuilder;"⟩
abbrev cJ5_append_8f9a3 : ByteArray := prog_22_method_25_code
def yJ5_append_8f9a3 : MethodName := ⟨RJ5, "append", "(Ljava/lang/CharSequence;)Ljava/lang/AbstractStringBuilder;"⟩
abbrev cJ5_append_3fe6f : ByteArray := prog_22_method_31_code
def yJ5_append_3fe6f : MethodName := ⟨RJ5, "append", "(C)Ljava/lang/AbstractStringBuilder;"⟩
abbrev cJ5_append_c97b9 : ByteArray := prog_22_method_32_code
def yJ5_append_c97b9 : MethodName := ⟨RJ5, "append", "(I)Ljava/lang/AbstractStringBuilder;"⟩
abbrev cJ5_getValue_6d5f1 : ByteArray := prog_22_method_64_code
def yJ5_getValue_6d5f1 : MethodName := ⟨RJ5, "getValue", "()[B"⟩
abbrev cJ5_getBytes_840e7 : ByteArray := prog_22_method_65_code
def yJ5_getBytes_840e7 : MethodName := ⟨RJ5, "getBytes", "([BIB)V"⟩
abbrev cJ5_getCoder_7d493 : ByteArray := prog_22_method_67_code
def yJ5_getCoder_7d493 : MethodName := ⟨RJ5, "getCoder", "()B"⟩
abbrev cJ5_isLatin1_aae02 : ByteArray := prog_22_method_68_code
def yJ5_isLatin1_aae02 : MethodName := ⟨RJ5, "isLatin1", "()Z"⟩
abbrev cJ5_inflateIfNeededFor_a7421 : ByteArray := prog_22_method_71_code
def yJ5_inflateIfNeededFor_a7421 : MethodName := ⟨RJ5, "inflateIfNeededFor", "(Ljava/lang/String;)V"⟩
abbrev cJ5_inflateIfNeededFor_56e69 : ByteArray := prog_22_method_72_code
def yJ5_inflateIfNeededFor_56e69 : MethodName := ⟨RJ5, "inflateIfNeededFor", "(Ljava/lang/AbstractStringBuilder;)V"⟩
abbrev cJ5_putStringAt_47b60 : ByteArray := prog_22_method_73_code
def yJ5_putStringAt_47b60 : MethodName := ⟨RJ5, "putStringAt", "(ILjava/lang/String;)V"⟩
abbrev cJ6_getChars_ba4f3 : ByteArray := prog_28_method_12_code
def yJ6_getChars_ba4f3 : MethodName := ⟨RJ6, "getChars", "(II[B)I"⟩
abbrev cJ6_stringSize_0f7a4 : ByteArray := prog_28_method_13_code
def yJ6_stringSize_0f7a4 : MethodName := ⟨RJ6, "stringSize", "(I)I"⟩
abbrev cJ6_valueOf_2dffe : ByteArray := prog_28_method_22_code
def yJ6_valueOf_2dffe : MethodName := ⟨RJ6, "valueOf", "(I)Ljava/lang/Integer;"⟩
abbrev cJ6_intValue_8abf5 : ByteArray := prog_28_method_27_code
def yJ6_intValue_8abf5 : MethodName := ⟨RJ6, "intValue", "()I"⟩
abbrev cJ6_equals_9ea2d : ByteArray := prog_28_method_34_code
def yJ6_equals_9ea2d : MethodName := ⟨RJ6, "equals", "(Ljava/lang/Object;)Z"⟩
abbrev cJ6_bitCount_0f7a4 : ByteArray := prog_28_method_49_code
def yJ6_bitCount_0f7a4 : MethodName := ⟨RJ6, "bitCount", "(I)I"⟩
abbrev cJ13_bitCount_95d88 : ByteArray := prog_31_method_50_code
def yJ13_bitCount_95d88 : MethodName := ⟨RJ13, "bitCount", "(J)I"⟩
abbrev cJ0_init_81219 : ByteArray := prog_34_method_53_code
def yJ0_init_81219 : MethodName := ⟨RJ0, "<init>", "(Ljava/lang/StringBuilder;)V"⟩
abbrev cJ0_length_8abf5 : ByteArray := prog_34_method_54_code
def yJ0_length_8abf5 : MethodName := ⟨RJ0, "length", "()I"⟩
abbrev cJ0_charAt_5068e : ByteArray := prog_34_method_56_code
def yJ0_charAt_5068e : MethodName := ⟨RJ0, "charAt", "(I)C"⟩
abbrev cJ0_indexOf_0f7a4 : ByteArray := prog_34_method_79_code
def yJ0_indexOf_0f7a4 : MethodName := ⟨RJ0, "indexOf", "(I)I"⟩
abbrev cJ0_indexOf_7cf53 : ByteArray := prog_34_method_80_code
def yJ0_indexOf_7cf53 : MethodName := ⟨RJ0, "indexOf", "(II)I"⟩
abbrev cJ0_getBytes_840e7 : ByteArray := prog_34_method_147_code
def yJ0_getBytes_840e7 : MethodName := ⟨RJ0, "getBytes", "([BIB)V"⟩
abbrev cJ0_init_db425 : ByteArray := prog_34_method_150_code
def yJ0_init_db425 : MethodName := ⟨RJ0, "<init>", "(Ljava/lang/AbstractStringBuilder;Ljava/lang/Void;)V"⟩
abbrev cJ0_coder_7d493 : ByteArray := prog_34_method_152_code
def yJ0_coder_7d493 : MethodName := ⟨RJ0, "coder", "()B"⟩
abbrev cJ0_isLatin1_aae02 : ByteArray := prog_34_method_154_code
def yJ0_isLatin1_aae02 : MethodName := ⟨RJ0, "isLatin1", "()Z"⟩
abbrev cJ0_checkIndex_df160 : ByteArray := prog_34_method_155_code
def yJ0_checkIndex_df160 : MethodName := ⟨RJ0, "checkIndex", "(II)V"⟩
abbrev cJ4_init_da8c8 : ByteArray := prog_35_method_1_code
def yJ4_init_da8c8 : MethodName := ⟨RJ4, "<init>", "()V"⟩
abbrev cJ4_init_a7421 : ByteArray := prog_35_method_3_code
def yJ4_init_a7421 : MethodName := ⟨RJ4, "<init>", "(Ljava/lang/String;)V"⟩
abbrev cJ4_append_15ec4 : ByteArray := prog_35_method_7_code
def yJ4_append_15ec4 : MethodName := ⟨RJ4, "append", "(Ljava/lang/String;)Ljava/lang/StringBuilder;"⟩
abbrev cJ4_append_1fab5 : ByteArray := prog_35_method_9_code
def yJ4_append_1fab5 : MethodName := ⟨RJ4, "append", "(Ljava/lang/CharSequence;)Ljava/lang/StringBuilder;"⟩
abbrev cJ4_append_cf468 : ByteArray := prog_35_method_14_code
def yJ4_append_cf468 : MethodName := ⟨RJ4, "append", "(C)Ljava/lang/StringBuilder;"⟩
abbrev cJ4_append_bf812 : ByteArray := prog_35_method_15_code
def yJ4_append_bf812 : MethodName := ⟨RJ4, "append", "(I)Ljava/lang/StringBuilder;"⟩
abbrev cJ4_toString_0e30d : ByteArray := prog_35_method_42_code
def yJ4_toString_0e30d : MethodName := ⟨RJ4, "toString", "()Ljava/lang/String;"⟩
abbrev cJ4_append_cf1ce : ByteArray := prog_35_method_80_code
def yJ4_append_cf1ce : MethodName := ⟨RJ4, "append", "(Ljava/lang/String;)Ljava/lang/AbstractStringBuilder;"⟩
abbrev cJ4_length_8abf5 : ByteArray := prog_35_method_93_code
def yJ4_length_8abf5 : MethodName := ⟨RJ4, "length", "()I"⟩
abbrev cJ1_charAt_3b067 : ByteArray := prog_36_method_2_code
def yJ1_charAt_3b067 : MethodName := ⟨RJ1, "charAt", "([BI)C"⟩
abbrev cJ1_canEncode_fc78d : ByteArray := prog_36_method_3_code
def yJ1_canEncode_fc78d : MethodName := ⟨RJ1, "canEncode", "(C)Z"⟩
abbrev cJ1_canEncode_9a6ad : ByteArray := prog_36_method_4_code
def yJ1_canEncode_9a6ad : MethodName := ⟨RJ1, "canEncode", "(I)Z"⟩
abbrev cJ1_indexOf_4cfef : ByteArray := prog_36_method_22_code
def yJ1_indexOf_4cfef : MethodName := ⟨RJ1, "indexOf", "([BIII)I"⟩
abbrev cJ1_indexOfChar_4cfef : ByteArray := prog_36_method_23_code
def yJ1_indexOfChar_4cfef : MethodName := ⟨RJ1, "indexOfChar", "([BIII)I"⟩
abbrev cJxa1e45_init_da8c8 : ByteArray := prog_41_method_1_code
def yJxa1e45_init_da8c8 : MethodName := ⟨RJxa1e45, "<init>", "()V"⟩
abbrev cJxc12de_init_da8c8 : ByteArray := prog_42_method_1_code
def yJxc12de_init_da8c8 : MethodName := ⟨RJxc12de, "<init>", "()V"⟩
abbrev cJx4a65c_init_da8c8 : ByteArray := prog_43_method_2_code
def yJx4a65c_init_da8c8 : MethodName := ⟨RJx4a65c, "<init>", "()V"⟩
abbrev cJx4a65c_grow_92f84 : ByteArray := prog_43_method_6_code
def yJx4a65c_grow_92f84 : MethodName := ⟨RJx4a65c, "grow", "(I)[Ljava/lang/Object;"⟩
abbrev cJx4a65c_grow_d5877 : ByteArray := prog_43_method_7_code
def yJx4a65c_grow_d5877 : MethodName := ⟨RJx4a65c, "grow", "()[Ljava/lang/Object;"⟩
abbrev cJx4a65c_size_8abf5 : ByteArray := prog_43_method_8_code
def yJx4a65c_size_8abf5 : MethodName := ⟨RJx4a65c, "size", "()I"⟩
abbrev cJx4a65c_contains_9ea2d : ByteArray := prog_43_method_10_code
def yJx4a65c_contains_9ea2d : MethodName := ⟨RJx4a65c, "contains", "(Ljava/lang/Object;)Z"⟩
abbrev cJx4a65c_indexOf_e47da : ByteArray := prog_43_method_11_code
def yJx4a65c_indexOf_e47da : MethodName := ⟨RJx4a65c, "indexOf", "(Ljava/lang/Object;)I"⟩
abbrev cJx4a65c_indexOfRange_bf822 : ByteArray := prog_43_method_12_code
def yJx4a65c_indexOfRange_bf822 : MethodName := ⟨RJx4a65c, "indexOfRange", "(Ljava/lang/Object;II)I"⟩
abbrev cJx4a65c_elementData_915e3 : ByteArray := prog_43_method_18_code
def yJx4a65c_elementData_915e3 : MethodName := ⟨RJx4a65c, "elementData", "(I)Ljava/lang/Object;"⟩
abbrev cJx4a65c_get_915e3 : ByteArray := prog_43_method_20_code
def yJx4a65c_get_915e3 : MethodName := ⟨RJx4a65c, "get", "(I)Ljava/lang/Object;"⟩
abbrev cJx4a65c_add_72be8 : ByteArray := prog_43_method_24_code
def yJx4a65c_add_72be8 : MethodName := ⟨RJx4a65c, "add", "(Ljava/lang/Object;[Ljava/lang/Object;I)V"⟩
abbrev cJx4a65c_add_9ea2d : ByteArray := prog_43_method_25_code
def yJx4a65c_add_9ea2d : MethodName := ⟨RJx4a65c, "add", "(Ljava/lang/Object;)Z"⟩
abbrev cJ7_fill_d0a16 : ByteArray := prog_44_method_101_code
def yJ7_fill_d0a16 : MethodName := ⟨RJ7, "fill", "([JJ)V"⟩
abbrev cJ7_fill_53178 : ByteArray := prog_44_method_103_code
def yJ7_fill_53178 : MethodName := ⟨RJ7, "fill", "([II)V"⟩
abbrev cJ7_copyOf_9075b : ByteArray := prog_44_method_121_code
def yJ7_copyOf_9075b : MethodName := ⟨RJ7, "copyOf", "([BI)[B"⟩
abbrev cJ7_checkLength_df160 : ByteArray := prog_44_method_131_code
def yJ7_checkLength_df160 : MethodName := ⟨RJ7, "checkLength", "(II)V"⟩
abbrev cJ7_copyOfRange_39247 : ByteArray := prog_44_method_132_code
def yJ7_copyOfRange_39247 : MethodName := ⟨RJ7, "copyOfRange", "([BII)[B"⟩
abbrev cJ7_copyOfRangeByte_39247 : ByteArray := prog_44_method_133_code
def yJ7_copyOfRangeByte_39247 : MethodName := ⟨RJ7, "copyOfRangeByte", "([BII)[B"⟩
abbrev cJ15_checkIndex_7cf53 : ByteArray := prog_47_method_17_code
def yJ15_checkIndex_7cf53 : MethodName := ⟨RJ15, "checkIndex", "(II)I"⟩
abbrev cJ8_newLength_cabcc : ByteArray := prog_50_method_27_code
def yJ8_newLength_cabcc : MethodName := ⟨RJ8, "newLength", "(III)I"⟩
abbrev cJ3_checkIndex_8e157 : ByteArray := prog_51_method_11_code
def yJ3_checkIndex_8e157 : MethodName := ⟨RJ3, "checkIndex", "(IILjava/util/function/BiFunction;)I"⟩
abbrev cL_cell : ByteArray := method_2_code
def yL_cell : MethodName := ⟨RL, "cell", "([II)I"⟩
abbrev cL_pick : ByteArray := method_3_code
def yL_pick : MethodName := ⟨RL, "pick", "([III)I"⟩
abbrev cL_feeds : ByteArray := method_4_code
def yL_feeds : MethodName := ⟨RL, "feeds", "(LBatonZones;Ljava/lang/String;)Z"⟩
abbrev cL_all : ByteArray := method_5_code
def yL_all : MethodName := ⟨RL, "all", "(LBatonZones;)[I"⟩
abbrev cL_runs : ByteArray := method_7_code
def yL_runs : MethodName := ⟨RL, "runs", "(LBatonZones;[II)Z"⟩
abbrev cL_judged : ByteArray := method_8_code
def yL_judged : MethodName := ⟨RL, "judged", "(LBatonZones;)Z"⟩
