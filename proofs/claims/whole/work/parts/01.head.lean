-- ===== PART A: goes FIRST, ahead of the names: the tables' words, and 'selects' of the private methods out of them =====
/-- a private method of a class that the tables say can be made, by its rows of tables_1 -/
def lw_okq (q : MethodName × Nat) : Prop := (q.1.cls ≠ "java/lang/invoke/MethodHandle" ∧ q.1.cls ≠ "java/lang/invoke/VarHandle") ∧ Cond.instantiable q.1.cls q.2 ∈ tables_1 ∧ Cond.privateMethod q.1 ∈ tables_1 ∧ Cond.instanceMethod q.1 ∈ tables_1
theorem lw_p0 : lw_okq (⟨"BatonZones", "feedNumber", "(I)V"⟩, 10) := ⟨⟨by decide +kernel, by decide +kernel⟩, List.mem_of_getElem? (i := 24) (by decide +kernel), List.mem_of_getElem? (i := 474) (by decide +kernel), List.mem_of_getElem? (i := 475) (by decide +kernel)⟩
theorem lw_p1 : lw_okq (⟨"BatonZones$Tokens", "byteAt", "(I)I"⟩, 7) := ⟨⟨by decide +kernel, by decide +kernel⟩, List.mem_of_getElem? (i := 255) (by decide +kernel), List.mem_of_getElem? (i := 512) (by decide +kernel), List.mem_of_getElem? (i := 513) (by decide +kernel)⟩
theorem lw_p2 : lw_okq (⟨"BatonZones$Tokens", "takeWord", "()V"⟩, 7) := ⟨⟨by decide +kernel, by decide +kernel⟩, List.mem_of_getElem? (i := 255) (by decide +kernel), List.mem_of_getElem? (i := 519) (by decide +kernel), List.mem_of_getElem? (i := 520) (by decide +kernel)⟩
theorem lw_p3 : lw_okq (⟨"BatonZones$Tokens", "takeNumber", "()V"⟩, 7) := ⟨⟨by decide +kernel, by decide +kernel⟩, List.mem_of_getElem? (i := 255) (by decide +kernel), List.mem_of_getElem? (i := 526) (by decide +kernel), List.mem_of_getElem? (i := 527) (by decide +kernel)⟩
theorem lw_p4 : lw_okq (⟨"BatonZones$Reader", "readTrack", "(LBatonZones$Book;)Z"⟩, 7) := ⟨⟨by decide +kernel, by decide +kernel⟩, List.mem_of_getElem? (i := 249) (by decide +kernel), List.mem_of_getElem? (i := 615) (by decide +kernel), List.mem_of_getElem? (i := 616) (by decide +kernel)⟩
theorem lw_p5 : lw_okq (⟨"BatonZones$Reader", "takeWord", "(Ljava/lang/String;I)Z"⟩, 7) := ⟨⟨by decide +kernel, by decide +kernel⟩, List.mem_of_getElem? (i := 249) (by decide +kernel), List.mem_of_getElem? (i := 620) (by decide +kernel), List.mem_of_getElem? (i := 621) (by decide +kernel)⟩
theorem lw_p6 : lw_okq (⟨"BatonZones$Reader", "fail", "(I)Z"⟩, 7) := ⟨⟨by decide +kernel, by decide +kernel⟩, List.mem_of_getElem? (i := 249) (by decide +kernel), List.mem_of_getElem? (i := 652) (by decide +kernel), List.mem_of_getElem? (i := 653) (by decide +kernel)⟩
theorem lw_p7 : lw_okq (⟨"BatonZones$Reader", "takeNumber", "(II)Z"⟩, 7) := ⟨⟨by decide +kernel, by decide +kernel⟩, List.mem_of_getElem? (i := 249) (by decide +kernel), List.mem_of_getElem? (i := 657) (by decide +kernel), List.mem_of_getElem? (i := 658) (by decide +kernel)⟩
theorem lw_p8 : lw_okq (⟨"BatonZones$Reader", "takeSign", "(C)Z"⟩, 7) := ⟨⟨by decide +kernel, by decide +kernel⟩, List.mem_of_getElem? (i := 249) (by decide +kernel), List.mem_of_getElem? (i := 661) (by decide +kernel), List.mem_of_getElem? (i := 662) (by decide +kernel)⟩
theorem lw_p9 : lw_okq (⟨"BatonZones$Reader", "readTeam", "(LBatonZones$Book;)Z"⟩, 7) := ⟨⟨by decide +kernel, by decide +kernel⟩, List.mem_of_getElem? (i := 249) (by decide +kernel), List.mem_of_getElem? (i := 665) (by decide +kernel), List.mem_of_getElem? (i := 666) (by decide +kernel)⟩
theorem lw_p10 : lw_okq (⟨"BatonZones$Reader", "readRuns", "(LBatonZones$Book;)Z"⟩, 7) := ⟨⟨by decide +kernel, by decide +kernel⟩, List.mem_of_getElem? (i := 249) (by decide +kernel), List.mem_of_getElem? (i := 709) (by decide +kernel), List.mem_of_getElem? (i := 710) (by decide +kernel)⟩
theorem lw_p11 : lw_okq (⟨"BatonZones$Reader", "takeTeam", "(LBatonZones$Book;I)I"⟩, 7) := ⟨⟨by decide +kernel, by decide +kernel⟩, List.mem_of_getElem? (i := 249) (by decide +kernel), List.mem_of_getElem? (i := 715) (by decide +kernel), List.mem_of_getElem? (i := 716) (by decide +kernel)⟩
theorem lw_p12 : lw_okq (⟨"BatonZones$Reader", "readAct", "(LBatonZones$Book;)Z"⟩, 7) := ⟨⟨by decide +kernel, by decide +kernel⟩, List.mem_of_getElem? (i := 249) (by decide +kernel), List.mem_of_getElem? (i := 731) (by decide +kernel), List.mem_of_getElem? (i := 732) (by decide +kernel)⟩
theorem lw_p13 : lw_okq (⟨"BatonZones$Reader", "readRule", "(LBatonZones$Book;)Z"⟩, 7) := ⟨⟨by decide +kernel, by decide +kernel⟩, List.mem_of_getElem? (i := 249) (by decide +kernel), List.mem_of_getElem? (i := 748) (by decide +kernel), List.mem_of_getElem? (i := 749) (by decide +kernel)⟩
theorem lw_p14 : lw_okq (⟨"BatonZones$Conditions", "comparisonEnds", "(LBatonZones$Tokens;)Z"⟩, 7) := ⟨⟨by decide +kernel, by decide +kernel⟩, List.mem_of_getElem? (i := 289) (by decide +kernel), List.mem_of_getElem? (i := 764) (by decide +kernel), List.mem_of_getElem? (i := 765) (by decide +kernel)⟩
theorem lw_p15 : lw_okq (⟨"BatonZones$Conditions", "reduce", "(LBatonZones$Terms;I)V"⟩, 7) := ⟨⟨by decide +kernel, by decide +kernel⟩, List.mem_of_getElem? (i := 289) (by decide +kernel), List.mem_of_getElem? (i := 768) (by decide +kernel), List.mem_of_getElem? (i := 769) (by decide +kernel)⟩
def lw_privs_1 : List (MethodName × Nat) := [(⟨"BatonZones", "feedNumber", "(I)V"⟩, 10), (⟨"BatonZones$Tokens", "byteAt", "(I)I"⟩, 7), (⟨"BatonZones$Tokens", "takeWord", "()V"⟩, 7), (⟨"BatonZones$Tokens", "takeNumber", "()V"⟩, 7), (⟨"BatonZones$Reader", "readTrack", "(LBatonZones$Book;)Z"⟩, 7), (⟨"BatonZones$Reader", "takeWord", "(Ljava/lang/String;I)Z"⟩, 7), (⟨"BatonZones$Reader", "fail", "(I)Z"⟩, 7), (⟨"BatonZones$Reader", "takeNumber", "(II)Z"⟩, 7), (⟨"BatonZones$Reader", "takeSign", "(C)Z"⟩, 7), (⟨"BatonZones$Reader", "readTeam", "(LBatonZones$Book;)Z"⟩, 7), (⟨"BatonZones$Reader", "readRuns", "(LBatonZones$Book;)Z"⟩, 7), (⟨"BatonZones$Reader", "takeTeam", "(LBatonZones$Book;I)I"⟩, 7), (⟨"BatonZones$Reader", "readAct", "(LBatonZones$Book;)Z"⟩, 7), (⟨"BatonZones$Reader", "readRule", "(LBatonZones$Book;)Z"⟩, 7), (⟨"BatonZones$Conditions", "comparisonEnds", "(LBatonZones$Tokens;)Z"⟩, 7), (⟨"BatonZones$Conditions", "reduce", "(LBatonZones$Terms;I)V"⟩, 7)]
theorem lw_r1 : ∀ q ∈ lw_privs_1, lw_okq q := List.forall_mem_cons.mpr ⟨lw_p0, List.forall_mem_cons.mpr ⟨lw_p1, List.forall_mem_cons.mpr ⟨lw_p2, List.forall_mem_cons.mpr ⟨lw_p3, List.forall_mem_cons.mpr ⟨lw_p4, List.forall_mem_cons.mpr ⟨lw_p5, List.forall_mem_cons.mpr ⟨lw_p6, List.forall_mem_cons.mpr ⟨lw_p7, List.forall_mem_cons.mpr ⟨lw_p8, List.forall_mem_cons.mpr ⟨lw_p9, List.forall_mem_cons.mpr ⟨lw_p10, List.forall_mem_cons.mpr ⟨lw_p11, List.forall_mem_cons.mpr ⟨lw_p12, List.forall_mem_cons.mpr ⟨lw_p13, List.forall_mem_cons.mpr ⟨lw_p14, List.forall_mem_cons.mpr ⟨lw_p15, fun _ h => absurd h List.not_mem_nil⟩⟩⟩⟩⟩⟩⟩⟩⟩⟩⟩⟩⟩⟩⟩⟩
theorem lw_p16 : lw_okq (⟨"BatonZones$Conditions", "truthEnds", "(LBatonZones$Tokens;)Z"⟩, 7) := ⟨⟨by decide +kernel, by decide +kernel⟩, List.mem_of_getElem? (i := 289) (by decide +kernel), List.mem_of_getElem? (i := 776) (by decide +kernel), List.mem_of_getElem? (i := 777) (by decide +kernel)⟩
theorem lw_p17 : lw_okq (⟨"BatonZones$Conditions", "comparisonStarts", "(LBatonZones$Tokens;)Z"⟩, 7) := ⟨⟨by decide +kernel, by decide +kernel⟩, List.mem_of_getElem? (i := 289) (by decide +kernel), List.mem_of_getElem? (i := 786) (by decide +kernel), List.mem_of_getElem? (i := 787) (by decide +kernel)⟩
theorem lw_p18 : lw_okq (⟨"BatonZones$Conditions", "openOne", "(LBatonZones$Terms;I)I"⟩, 7) := ⟨⟨by decide +kernel, by decide +kernel⟩, List.mem_of_getElem? (i := 289) (by decide +kernel), List.mem_of_getElem? (i := 790) (by decide +kernel), List.mem_of_getElem? (i := 791) (by decide +kernel)⟩
theorem lw_p19 : lw_okq (⟨"BatonZones$Conditions", "push", "(LBatonZones$Terms;I)V"⟩, 7) := ⟨⟨by decide +kernel, by decide +kernel⟩, List.mem_of_getElem? (i := 289) (by decide +kernel), List.mem_of_getElem? (i := 794) (by decide +kernel), List.mem_of_getElem? (i := 795) (by decide +kernel)⟩
theorem lw_p20 : lw_okq (⟨"BatonZones$Conditions", "startNumber", "(LBatonZones$Tokens;LBatonZones$Terms;)I"⟩, 7) := ⟨⟨by decide +kernel, by decide +kernel⟩, List.mem_of_getElem? (i := 289) (by decide +kernel), List.mem_of_getElem? (i := 798) (by decide +kernel), List.mem_of_getElem? (i := 799) (by decide +kernel)⟩
theorem lw_p21 : lw_okq (⟨"BatonZones$Conditions", "goOnWithNumber", "(LBatonZones$Tokens;LBatonZones$Terms;)I"⟩, 7) := ⟨⟨by decide +kernel, by decide +kernel⟩, List.mem_of_getElem? (i := 289) (by decide +kernel), List.mem_of_getElem? (i := 803) (by decide +kernel), List.mem_of_getElem? (i := 804) (by decide +kernel)⟩
theorem lw_p22 : lw_okq (⟨"BatonZones$Conditions", "join", "(LBatonZones$Terms;II)I"⟩, 7) := ⟨⟨by decide +kernel, by decide +kernel⟩, List.mem_of_getElem? (i := 289) (by decide +kernel), List.mem_of_getElem? (i := 807) (by decide +kernel), List.mem_of_getElem? (i := 808) (by decide +kernel)⟩
theorem lw_p23 : lw_okq (⟨"BatonZones$Conditions", "closeCurly", "(LBatonZones$Terms;)I"⟩, 7) := ⟨⟨by decide +kernel, by decide +kernel⟩, List.mem_of_getElem? (i := 289) (by decide +kernel), List.mem_of_getElem? (i := 814) (by decide +kernel), List.mem_of_getElem? (i := 815) (by decide +kernel)⟩
theorem lw_p24 : lw_okq (⟨"BatonZones$Conditions", "goOnWithTruth", "(LBatonZones$Tokens;LBatonZones$Terms;)I"⟩, 7) := ⟨⟨by decide +kernel, by decide +kernel⟩, List.mem_of_getElem? (i := 289) (by decide +kernel), List.mem_of_getElem? (i := 818) (by decide +kernel), List.mem_of_getElem? (i := 819) (by decide +kernel)⟩
theorem lw_p25 : lw_okq (⟨"BatonZones$Reader", "readThrough", "(LBatonZones$Book;)Z"⟩, 7) := ⟨⟨by decide +kernel, by decide +kernel⟩, List.mem_of_getElem? (i := 249) (by decide +kernel), List.mem_of_getElem? (i := 827) (by decide +kernel), List.mem_of_getElem? (i := 828) (by decide +kernel)⟩
theorem lw_p26 : lw_okq (⟨"BatonZones$Reader", "readWithin", "(LBatonZones$Book;)Z"⟩, 7) := ⟨⟨by decide +kernel, by decide +kernel⟩, List.mem_of_getElem? (i := 249) (by decide +kernel), List.mem_of_getElem? (i := 831) (by decide +kernel), List.mem_of_getElem? (i := 832) (by decide +kernel)⟩
theorem lw_p27 : lw_okq (⟨"BatonZones", "settleAll", "()V"⟩, 10) := ⟨⟨by decide +kernel, by decide +kernel⟩, List.mem_of_getElem? (i := 24) (by decide +kernel), List.mem_of_getElem? (i := 839) (by decide +kernel), List.mem_of_getElem? (i := 840) (by decide +kernel)⟩
theorem lw_p28 : lw_okq (⟨"BatonZones$Book", "metresOutside", "(I)I"⟩, 19) := ⟨⟨by decide +kernel, by decide +kernel⟩, List.mem_of_getElem? (i := 32) (by decide +kernel), List.mem_of_getElem? (i := 858) (by decide +kernel), List.mem_of_getElem? (i := 859) (by decide +kernel)⟩
theorem lw_p29 : lw_okq (⟨"BatonZones$Judge", "work", "(LBatonZones$Terms;I)J"⟩, 8) := ⟨⟨by decide +kernel, by decide +kernel⟩, List.mem_of_getElem? (i := 351) (by decide +kernel), List.mem_of_getElem? (i := 932) (by decide +kernel), List.mem_of_getElem? (i := 933) (by decide +kernel)⟩
theorem lw_p30 : lw_okq (⟨"BatonZones$Verdict", "strike", "(LBatonZones$Act;)V"⟩, 9) := ⟨⟨by decide +kernel, by decide +kernel⟩, List.mem_of_getElem? (i := 383) (by decide +kernel), List.mem_of_getElem? (i := 964) (by decide +kernel), List.mem_of_getElem? (i := 965) (by decide +kernel)⟩
theorem lw_p31 : lw_okq (⟨"BatonZones$Verdict", "decideThrough", "(LBatonZones$Book;)V"⟩, 9) := ⟨⟨by decide +kernel, by decide +kernel⟩, List.mem_of_getElem? (i := 383) (by decide +kernel), List.mem_of_getElem? (i := 974) (by decide +kernel), List.mem_of_getElem? (i := 975) (by decide +kernel)⟩
def lw_privs_2 : List (MethodName × Nat) := [(⟨"BatonZones$Conditions", "truthEnds", "(LBatonZones$Tokens;)Z"⟩, 7), (⟨"BatonZones$Conditions", "comparisonStarts", "(LBatonZones$Tokens;)Z"⟩, 7), (⟨"BatonZones$Conditions", "openOne", "(LBatonZones$Terms;I)I"⟩, 7), (⟨"BatonZones$Conditions", "push", "(LBatonZones$Terms;I)V"⟩, 7), (⟨"BatonZones$Conditions", "startNumber", "(LBatonZones$Tokens;LBatonZones$Terms;)I"⟩, 7), (⟨"BatonZones$Conditions", "goOnWithNumber", "(LBatonZones$Tokens;LBatonZones$Terms;)I"⟩, 7), (⟨"BatonZones$Conditions", "join", "(LBatonZones$Terms;II)I"⟩, 7), (⟨"BatonZones$Conditions", "closeCurly", "(LBatonZones$Terms;)I"⟩, 7), (⟨"BatonZones$Conditions", "goOnWithTruth", "(LBatonZones$Tokens;LBatonZones$Terms;)I"⟩, 7), (⟨"BatonZones$Reader", "readThrough", "(LBatonZones$Book;)Z"⟩, 7), (⟨"BatonZones$Reader", "readWithin", "(LBatonZones$Book;)Z"⟩, 7), (⟨"BatonZones", "settleAll", "()V"⟩, 10), (⟨"BatonZones$Book", "metresOutside", "(I)I"⟩, 19), (⟨"BatonZones$Judge", "work", "(LBatonZones$Terms;I)J"⟩, 8), (⟨"BatonZones$Verdict", "strike", "(LBatonZones$Act;)V"⟩, 9), (⟨"BatonZones$Verdict", "decideThrough", "(LBatonZones$Book;)V"⟩, 9)]
theorem lw_r2 : ∀ q ∈ lw_privs_2, lw_okq q := List.forall_mem_cons.mpr ⟨lw_p16, List.forall_mem_cons.mpr ⟨lw_p17, List.forall_mem_cons.mpr ⟨lw_p18, List.forall_mem_cons.mpr ⟨lw_p19, List.forall_mem_cons.mpr ⟨lw_p20, List.forall_mem_cons.mpr ⟨lw_p21, List.forall_mem_cons.mpr ⟨lw_p22, List.forall_mem_cons.mpr ⟨lw_p23, List.forall_mem_cons.mpr ⟨lw_p24, List.forall_mem_cons.mpr ⟨lw_p25, List.forall_mem_cons.mpr ⟨lw_p26, List.forall_mem_cons.mpr ⟨lw_p27, List.forall_mem_cons.mpr ⟨lw_p28, List.forall_mem_cons.mpr ⟨lw_p29, List.forall_mem_cons.mpr ⟨lw_p30, List.forall_mem_cons.mpr ⟨lw_p31, fun _ h => absurd h List.not_mem_nil⟩⟩⟩⟩⟩⟩⟩⟩⟩⟩⟩⟩⟩⟩⟩⟩
theorem lw_p32 : lw_okq (⟨"BatonZones$Verdict", "isIn", "(I)Z"⟩, 9) := ⟨⟨by decide +kernel, by decide +kernel⟩, List.mem_of_getElem? (i := 383) (by decide +kernel), List.mem_of_getElem? (i := 978) (by decide +kernel), List.mem_of_getElem? (i := 979) (by decide +kernel)⟩
theorem lw_p33 : lw_okq (⟨"BatonZones$Book", "teamsAhead", "([II)I"⟩, 19) := ⟨⟨by decide +kernel, by decide +kernel⟩, List.mem_of_getElem? (i := 32) (by decide +kernel), List.mem_of_getElem? (i := 1053) (by decide +kernel), List.mem_of_getElem? (i := 1054) (by decide +kernel)⟩
theorem lw_p34 : lw_okq (⟨"BatonZones$Race", "lastTenth", "(LBatonZones$Book;)I"⟩, 1) := ⟨⟨by decide +kernel, by decide +kernel⟩, List.mem_of_getElem? (i := 341) (by decide +kernel), List.mem_of_getElem? (i := 1065) (by decide +kernel), List.mem_of_getElem? (i := 1066) (by decide +kernel)⟩
theorem lw_p35 : lw_okq (⟨"BatonZones$Race", "leadAt", "(LBatonZones$Book;II)I"⟩, 1) := ⟨⟨by decide +kernel, by decide +kernel⟩, List.mem_of_getElem? (i := 341) (by decide +kernel), List.mem_of_getElem? (i := 1072) (by decide +kernel), List.mem_of_getElem? (i := 1073) (by decide +kernel)⟩
theorem lw_p36 : lw_okq (⟨"BatonZones$Book", "boxFrom", "(I)I"⟩, 19) := ⟨⟨by decide +kernel, by decide +kernel⟩, List.mem_of_getElem? (i := 32) (by decide +kernel), List.mem_of_getElem? (i := 1146) (by decide +kernel), List.mem_of_getElem? (i := 1147) (by decide +kernel)⟩
theorem lw_p37 : lw_okq (⟨"BatonZones$Book", "boxTo", "(I)I"⟩, 19) := ⟨⟨by decide +kernel, by decide +kernel⟩, List.mem_of_getElem? (i := 32) (by decide +kernel), List.mem_of_getElem? (i := 1150) (by decide +kernel), List.mem_of_getElem? (i := 1151) (by decide +kernel)⟩
theorem lw_p38 : lw_okq (⟨"BatonZones", "canHold", "(III)Z"⟩, 10) := ⟨⟨by decide +kernel, by decide +kernel⟩, List.mem_of_getElem? (i := 24) (by decide +kernel), List.mem_of_getElem? (i := 1199) (by decide +kernel), List.mem_of_getElem? (i := 1200) (by decide +kernel)⟩
theorem lw_p39 : lw_okq (⟨"BatonZones$Judge", "choose", "(LBatonZones$Terms;II)V"⟩, 8) := ⟨⟨by decide +kernel, by decide +kernel⟩, List.mem_of_getElem? (i := 351) (by decide +kernel), List.mem_of_getElem? (i := 1212) (by decide +kernel), List.mem_of_getElem? (i := 1213) (by decide +kernel)⟩
theorem lw_p40 : lw_okq (⟨"BatonZones$Judge", "weigh", "(LBatonZones$Terms;I)I"⟩, 8) := ⟨⟨by decide +kernel, by decide +kernel⟩, List.mem_of_getElem? (i := 351) (by decide +kernel), List.mem_of_getElem? (i := 1216) (by decide +kernel), List.mem_of_getElem? (i := 1217) (by decide +kernel)⟩
theorem lw_p41 : lw_okq (⟨"BatonZones$Judge", "isOfBoth", "(II)Z"⟩, 8) := ⟨⟨by decide +kernel, by decide +kernel⟩, List.mem_of_getElem? (i := 351) (by decide +kernel), List.mem_of_getElem? (i := 1220) (by decide +kernel), List.mem_of_getElem? (i := 1221) (by decide +kernel)⟩
theorem lw_p42 : lw_okq (⟨"BatonZones$Judge", "isLeftEnough", "(LBatonZones$Terms;I)Z"⟩, 8) := ⟨⟨by decide +kernel, by decide +kernel⟩, List.mem_of_getElem? (i := 351) (by decide +kernel), List.mem_of_getElem? (i := 1224) (by decide +kernel), List.mem_of_getElem? (i := 1225) (by decide +kernel)⟩
theorem lw_p43 : lw_okq (⟨"BatonZones$Judge", "pick", "(IZ)V"⟩, 8) := ⟨⟨by decide +kernel, by decide +kernel⟩, List.mem_of_getElem? (i := 351) (by decide +kernel), List.mem_of_getElem? (i := 1228) (by decide +kernel), List.mem_of_getElem? (i := 1229) (by decide +kernel)⟩
theorem lw_p44 : lw_okq (⟨"BatonZones$Judge", "isUnstruck", "(LBatonZones$Book;IJ)Z"⟩, 8) := ⟨⟨by decide +kernel, by decide +kernel⟩, List.mem_of_getElem? (i := 351) (by decide +kernel), List.mem_of_getElem? (i := 1354) (by decide +kernel), List.mem_of_getElem? (i := 1355) (by decide +kernel)⟩
theorem lw_p45 : lw_okq (⟨"BatonZonesModel", "four", "(I)V"⟩, 72) := ⟨⟨by decide +kernel, by decide +kernel⟩, List.mem_of_getElem? (i := 1390) (by decide +kernel), List.mem_of_getElem? (i := 1631) (by decide +kernel), List.mem_of_getElem? (i := 1632) (by decide +kernel)⟩
theorem lw_p46 : lw_okq (⟨"BatonZonesModel", "goOn", "()V"⟩, 72) := ⟨⟨by decide +kernel, by decide +kernel⟩, List.mem_of_getElem? (i := 1390) (by decide +kernel), List.mem_of_getElem? (i := 1646) (by decide +kernel), List.mem_of_getElem? (i := 1647) (by decide +kernel)⟩
theorem lw_p47 : lw_okq (⟨"BatonZonesModel", "here", "(I)I"⟩, 72) := ⟨⟨by decide +kernel, by decide +kernel⟩, List.mem_of_getElem? (i := 1390) (by decide +kernel), List.mem_of_getElem? (i := 1650) (by decide +kernel), List.mem_of_getElem? (i := 1651) (by decide +kernel)⟩
def lw_privs_3 : List (MethodName × Nat) := [(⟨"BatonZones$Verdict", "isIn", "(I)Z"⟩, 9), (⟨"BatonZones$Book", "teamsAhead", "([II)I"⟩, 19), (⟨"BatonZones$Race", "lastTenth", "(LBatonZones$Book;)I"⟩, 1), (⟨"BatonZones$Race", "leadAt", "(LBatonZones$Book;II)I"⟩, 1), (⟨"BatonZones$Book", "boxFrom", "(I)I"⟩, 19), (⟨"BatonZones$Book", "boxTo", "(I)I"⟩, 19), (⟨"BatonZones", "canHold", "(III)Z"⟩, 10), (⟨"BatonZones$Judge", "choose", "(LBatonZones$Terms;II)V"⟩, 8), (⟨"BatonZones$Judge", "weigh", "(LBatonZones$Terms;I)I"⟩, 8), (⟨"BatonZones$Judge", "isOfBoth", "(II)Z"⟩, 8), (⟨"BatonZones$Judge", "isLeftEnough", "(LBatonZones$Terms;I)Z"⟩, 8), (⟨"BatonZones$Judge", "pick", "(IZ)V"⟩, 8), (⟨"BatonZones$Judge", "isUnstruck", "(LBatonZones$Book;IJ)Z"⟩, 8), (⟨"BatonZonesModel", "four", "(I)V"⟩, 72), (⟨"BatonZonesModel", "goOn", "()V"⟩, 72), (⟨"BatonZonesModel", "here", "(I)I"⟩, 72)]
theorem lw_r3 : ∀ q ∈ lw_privs_3, lw_okq q := List.forall_mem_cons.mpr ⟨lw_p32, List.forall_mem_cons.mpr ⟨lw_p33, List.forall_mem_cons.mpr ⟨lw_p34, List.forall_mem_cons.mpr ⟨lw_p35, List.forall_mem_cons.mpr ⟨lw_p36, List.forall_mem_cons.mpr ⟨lw_p37, List.forall_mem_cons.mpr ⟨lw_p38, List.forall_mem_cons.mpr ⟨lw_p39, List.forall_mem_cons.mpr ⟨lw_p40, List.forall_mem_cons.mpr ⟨lw_p41, List.forall_mem_cons.mpr ⟨lw_p42, List.forall_mem_cons.mpr ⟨lw_p43, List.forall_mem_cons.mpr ⟨lw_p44, List.forall_mem_cons.mpr ⟨lw_p45, List.forall_mem_cons.mpr ⟨lw_p46, List.forall_mem_cons.mpr ⟨lw_p47, fun _ h => absurd h List.not_mem_nil⟩⟩⟩⟩⟩⟩⟩⟩⟩⟩⟩⟩⟩⟩⟩⟩
theorem lw_p48 : lw_okq (⟨"BatonZonesModel", "trackLine", "()V"⟩, 72) := ⟨⟨by decide +kernel, by decide +kernel⟩, List.mem_of_getElem? (i := 1390) (by decide +kernel), List.mem_of_getElem? (i := 1663) (by decide +kernel), List.mem_of_getElem? (i := 1664) (by decide +kernel)⟩
theorem lw_p49 : lw_okq (⟨"BatonZonesModel", "isWord", "(J)Z"⟩, 72) := ⟨⟨by decide +kernel, by decide +kernel⟩, List.mem_of_getElem? (i := 1390) (by decide +kernel), List.mem_of_getElem? (i := 1668) (by decide +kernel), List.mem_of_getElem? (i := 1669) (by decide +kernel)⟩
theorem lw_p50 : lw_okq (⟨"BatonZonesModel", "wrong", "(I)V"⟩, 72) := ⟨⟨by decide +kernel, by decide +kernel⟩, List.mem_of_getElem? (i := 1390) (by decide +kernel), List.mem_of_getElem? (i := 1672) (by decide +kernel), List.mem_of_getElem? (i := 1673) (by decide +kernel)⟩
theorem lw_p51 : lw_okq (⟨"BatonZonesModel", "isGood", "()Z"⟩, 72) := ⟨⟨by decide +kernel, by decide +kernel⟩, List.mem_of_getElem? (i := 1390) (by decide +kernel), List.mem_of_getElem? (i := 1676) (by decide +kernel), List.mem_of_getElem? (i := 1677) (by decide +kernel)⟩
theorem lw_p52 : lw_okq (⟨"BatonZonesModel", "number", "(II)I"⟩, 72) := ⟨⟨by decide +kernel, by decide +kernel⟩, List.mem_of_getElem? (i := 1390) (by decide +kernel), List.mem_of_getElem? (i := 1680) (by decide +kernel), List.mem_of_getElem? (i := 1681) (by decide +kernel)⟩
theorem lw_p53 : lw_okq (⟨"BatonZonesModel", "must", "(I)V"⟩, 72) := ⟨⟨by decide +kernel, by decide +kernel⟩, List.mem_of_getElem? (i := 1390) (by decide +kernel), List.mem_of_getElem? (i := 1684) (by decide +kernel), List.mem_of_getElem? (i := 1685) (by decide +kernel)⟩
theorem lw_p54 : lw_okq (⟨"BatonZonesModel", "isSignHere", "(I)Z"⟩, 72) := ⟨⟨by decide +kernel, by decide +kernel⟩, List.mem_of_getElem? (i := 1390) (by decide +kernel), List.mem_of_getElem? (i := 1688) (by decide +kernel), List.mem_of_getElem? (i := 1689) (by decide +kernel)⟩
theorem lw_p55 : lw_okq (⟨"BatonZonesModel", "line", "()V"⟩, 72) := ⟨⟨by decide +kernel, by decide +kernel⟩, List.mem_of_getElem? (i := 1390) (by decide +kernel), List.mem_of_getElem? (i := 1692) (by decide +kernel), List.mem_of_getElem? (i := 1693) (by decide +kernel)⟩
theorem lw_p56 : lw_okq (⟨"BatonZonesModel", "teamLine", "()V"⟩, 72) := ⟨⟨by decide +kernel, by decide +kernel⟩, List.mem_of_getElem? (i := 1390) (by decide +kernel), List.mem_of_getElem? (i := 1697) (by decide +kernel), List.mem_of_getElem? (i := 1698) (by decide +kernel)⟩
theorem lw_p57 : lw_okq (⟨"BatonZonesModel", "freshName", "([JI)V"⟩, 72) := ⟨⟨by decide +kernel, by decide +kernel⟩, List.mem_of_getElem? (i := 1390) (by decide +kernel), List.mem_of_getElem? (i := 1701) (by decide +kernel), List.mem_of_getElem? (i := 1702) (by decide +kernel)⟩
theorem lw_p58 : lw_okq (⟨"BatonZonesModel", "isKept", "()Z"⟩, 72) := ⟨⟨by decide +kernel, by decide +kernel⟩, List.mem_of_getElem? (i := 1390) (by decide +kernel), List.mem_of_getElem? (i := 1705) (by decide +kernel), List.mem_of_getElem? (i := 1706) (by decide +kernel)⟩
theorem lw_p59 : lw_okq (⟨"BatonZonesModel", "runsLine", "()V"⟩, 72) := ⟨⟨by decide +kernel, by decide +kernel⟩, List.mem_of_getElem? (i := 1390) (by decide +kernel), List.mem_of_getElem? (i := 1723) (by decide +kernel), List.mem_of_getElem? (i := 1724) (by decide +kernel)⟩
theorem lw_p60 : lw_okq (⟨"BatonZonesModel", "teamHere", "()I"⟩, 72) := ⟨⟨by decide +kernel, by decide +kernel⟩, List.mem_of_getElem? (i := 1390) (by decide +kernel), List.mem_of_getElem? (i := 1727) (by decide +kernel), List.mem_of_getElem? (i := 1728) (by decide +kernel)⟩
theorem lw_p61 : lw_okq (⟨"BatonZonesModel", "actLine", "()V"⟩, 72) := ⟨⟨by decide +kernel, by decide +kernel⟩, List.mem_of_getElem? (i := 1390) (by decide +kernel), List.mem_of_getElem? (i := 1731) (by decide +kernel), List.mem_of_getElem? (i := 1732) (by decide +kernel)⟩
theorem lw_p62 : lw_okq (⟨"BatonZonesModel", "kindHere", "(I)I"⟩, 72) := ⟨⟨by decide +kernel, by decide +kernel⟩, List.mem_of_getElem? (i := 1390) (by decide +kernel), List.mem_of_getElem? (i := 1735) (by decide +kernel), List.mem_of_getElem? (i := 1736) (by decide +kernel)⟩
theorem lw_p63 : lw_okq (⟨"BatonZonesModel", "ruleLine", "()V"⟩, 72) := ⟨⟨by decide +kernel, by decide +kernel⟩, List.mem_of_getElem? (i := 1390) (by decide +kernel), List.mem_of_getElem? (i := 1739) (by decide +kernel), List.mem_of_getElem? (i := 1740) (by decide +kernel)⟩
def lw_privs_4 : List (MethodName × Nat) := [(⟨"BatonZonesModel", "trackLine", "()V"⟩, 72), (⟨"BatonZonesModel", "isWord", "(J)Z"⟩, 72), (⟨"BatonZonesModel", "wrong", "(I)V"⟩, 72), (⟨"BatonZonesModel", "isGood", "()Z"⟩, 72), (⟨"BatonZonesModel", "number", "(II)I"⟩, 72), (⟨"BatonZonesModel", "must", "(I)V"⟩, 72), (⟨"BatonZonesModel", "isSignHere", "(I)Z"⟩, 72), (⟨"BatonZonesModel", "line", "()V"⟩, 72), (⟨"BatonZonesModel", "teamLine", "()V"⟩, 72), (⟨"BatonZonesModel", "freshName", "([JI)V"⟩, 72), (⟨"BatonZonesModel", "isKept", "()Z"⟩, 72), (⟨"BatonZonesModel", "runsLine", "()V"⟩, 72), (⟨"BatonZonesModel", "teamHere", "()I"⟩, 72), (⟨"BatonZonesModel", "actLine", "()V"⟩, 72), (⟨"BatonZonesModel", "kindHere", "(I)I"⟩, 72), (⟨"BatonZonesModel", "ruleLine", "()V"⟩, 72)]
theorem lw_r4 : ∀ q ∈ lw_privs_4, lw_okq q := List.forall_mem_cons.mpr ⟨lw_p48, List.forall_mem_cons.mpr ⟨lw_p49, List.forall_mem_cons.mpr ⟨lw_p50, List.forall_mem_cons.mpr ⟨lw_p51, List.forall_mem_cons.mpr ⟨lw_p52, List.forall_mem_cons.mpr ⟨lw_p53, List.forall_mem_cons.mpr ⟨lw_p54, List.forall_mem_cons.mpr ⟨lw_p55, List.forall_mem_cons.mpr ⟨lw_p56, List.forall_mem_cons.mpr ⟨lw_p57, List.forall_mem_cons.mpr ⟨lw_p58, List.forall_mem_cons.mpr ⟨lw_p59, List.forall_mem_cons.mpr ⟨lw_p60, List.forall_mem_cons.mpr ⟨lw_p61, List.forall_mem_cons.mpr ⟨lw_p62, List.forall_mem_cons.mpr ⟨lw_p63, fun _ h => absurd h List.not_mem_nil⟩⟩⟩⟩⟩⟩⟩⟩⟩⟩⟩⟩⟩⟩⟩⟩
theorem lw_p64 : lw_okq (⟨"BatonZonesModel", "test", "()V"⟩, 72) := ⟨⟨by decide +kernel, by decide +kernel⟩, List.mem_of_getElem? (i := 1390) (by decide +kernel), List.mem_of_getElem? (i := 1743) (by decide +kernel), List.mem_of_getElem? (i := 1744) (by decide +kernel)⟩
theorem lw_p65 : lw_okq (⟨"BatonZonesModel", "comparison", "()V"⟩, 72) := ⟨⟨by decide +kernel, by decide +kernel⟩, List.mem_of_getElem? (i := 1390) (by decide +kernel), List.mem_of_getElem? (i := 1747) (by decide +kernel), List.mem_of_getElem? (i := 1748) (by decide +kernel)⟩
theorem lw_p66 : lw_okq (⟨"BatonZonesModel", "opens", "(I)V"⟩, 72) := ⟨⟨by decide +kernel, by decide +kernel⟩, List.mem_of_getElem? (i := 1390) (by decide +kernel), List.mem_of_getElem? (i := 1751) (by decide +kernel), List.mem_of_getElem? (i := 1752) (by decide +kernel)⟩
theorem lw_p67 : lw_okq (⟨"BatonZonesModel", "waitsFor", "(I)V"⟩, 72) := ⟨⟨by decide +kernel, by decide +kernel⟩, List.mem_of_getElem? (i := 1390) (by decide +kernel), List.mem_of_getElem? (i := 1755) (by decide +kernel), List.mem_of_getElem? (i := 1756) (by decide +kernel)⟩
theorem lw_p68 : lw_okq (⟨"BatonZonesModel", "numberFormula", "()V"⟩, 72) := ⟨⟨by decide +kernel, by decide +kernel⟩, List.mem_of_getElem? (i := 1390) (by decide +kernel), List.mem_of_getElem? (i := 1759) (by decide +kernel), List.mem_of_getElem? (i := 1760) (by decide +kernel)⟩
theorem lw_p69 : lw_okq (⟨"BatonZonesModel", "operand", "()V"⟩, 72) := ⟨⟨by decide +kernel, by decide +kernel⟩, List.mem_of_getElem? (i := 1390) (by decide +kernel), List.mem_of_getElem? (i := 1763) (by decide +kernel), List.mem_of_getElem? (i := 1764) (by decide +kernel)⟩
theorem lw_p70 : lw_okq (⟨"BatonZonesModel", "emits", "(I)V"⟩, 72) := ⟨⟨by decide +kernel, by decide +kernel⟩, List.mem_of_getElem? (i := 1390) (by decide +kernel), List.mem_of_getElem? (i := 1767) (by decide +kernel), List.mem_of_getElem? (i := 1768) (by decide +kernel)⟩
theorem lw_p71 : lw_okq (⟨"BatonZonesModel", "works", "(II)V"⟩, 72) := ⟨⟨by decide +kernel, by decide +kernel⟩, List.mem_of_getElem? (i := 1390) (by decide +kernel), List.mem_of_getElem? (i := 1771) (by decide +kernel), List.mem_of_getElem? (i := 1772) (by decide +kernel)⟩
theorem lw_p72 : lw_okq (⟨"BatonZonesModel", "top", "()I"⟩, 72) := ⟨⟨by decide +kernel, by decide +kernel⟩, List.mem_of_getElem? (i := 1390) (by decide +kernel), List.mem_of_getElem? (i := 1775) (by decide +kernel), List.mem_of_getElem? (i := 1776) (by decide +kernel)⟩
theorem lw_p73 : lw_okq (⟨"BatonZonesModel", "closes", "(I)V"⟩, 72) := ⟨⟨by decide +kernel, by decide +kernel⟩, List.mem_of_getElem? (i := 1390) (by decide +kernel), List.mem_of_getElem? (i := 1779) (by decide +kernel), List.mem_of_getElem? (i := 1780) (by decide +kernel)⟩
theorem lw_p74 : lw_okq (⟨"BatonZonesModel", "ends", "()V"⟩, 72) := ⟨⟨by decide +kernel, by decide +kernel⟩, List.mem_of_getElem? (i := 1390) (by decide +kernel), List.mem_of_getElem? (i := 1783) (by decide +kernel), List.mem_of_getElem? (i := 1784) (by decide +kernel)⟩
theorem lw_p75 : lw_okq (⟨"BatonZonesModel", "once", "(I)V"⟩, 72) := ⟨⟨by decide +kernel, by decide +kernel⟩, List.mem_of_getElem? (i := 1390) (by decide +kernel), List.mem_of_getElem? (i := 1787) (by decide +kernel), List.mem_of_getElem? (i := 1788) (by decide +kernel)⟩
theorem lw_p76 : lw_okq (⟨"BatonZonesModel", "takes", "()V"⟩, 72) := ⟨⟨by decide +kernel, by decide +kernel⟩, List.mem_of_getElem? (i := 1390) (by decide +kernel), List.mem_of_getElem? (i := 1794) (by decide +kernel), List.mem_of_getElem? (i := 1795) (by decide +kernel)⟩
theorem lw_p77 : lw_okq (⟨"BatonZonesModel", "allActs", "()I"⟩, 72) := ⟨⟨by decide +kernel, by decide +kernel⟩, List.mem_of_getElem? (i := 1390) (by decide +kernel), List.mem_of_getElem? (i := 1811) (by decide +kernel), List.mem_of_getElem? (i := 1812) (by decide +kernel)⟩
theorem lw_p78 : lw_okq (⟨"BatonZonesModel", "boxesOf", "(I)I"⟩, 72) := ⟨⟨by decide +kernel, by decide +kernel⟩, List.mem_of_getElem? (i := 1390) (by decide +kernel), List.mem_of_getElem? (i := 1815) (by decide +kernel), List.mem_of_getElem? (i := 1816) (by decide +kernel)⟩
theorem lw_p79 : lw_okq (⟨"BatonZonesModel", "isTeam", "(I)Z"⟩, 72) := ⟨⟨by decide +kernel, by decide +kernel⟩, List.mem_of_getElem? (i := 1390) (by decide +kernel), List.mem_of_getElem? (i := 1828) (by decide +kernel), List.mem_of_getElem? (i := 1829) (by decide +kernel)⟩
def lw_privs_5 : List (MethodName × Nat) := [(⟨"BatonZonesModel", "test", "()V"⟩, 72), (⟨"BatonZonesModel", "comparison", "()V"⟩, 72), (⟨"BatonZonesModel", "opens", "(I)V"⟩, 72), (⟨"BatonZonesModel", "waitsFor", "(I)V"⟩, 72), (⟨"BatonZonesModel", "numberFormula", "()V"⟩, 72), (⟨"BatonZonesModel", "operand", "()V"⟩, 72), (⟨"BatonZonesModel", "emits", "(I)V"⟩, 72), (⟨"BatonZonesModel", "works", "(II)V"⟩, 72), (⟨"BatonZonesModel", "top", "()I"⟩, 72), (⟨"BatonZonesModel", "closes", "(I)V"⟩, 72), (⟨"BatonZonesModel", "ends", "()V"⟩, 72), (⟨"BatonZonesModel", "once", "(I)V"⟩, 72), (⟨"BatonZonesModel", "takes", "()V"⟩, 72), (⟨"BatonZonesModel", "allActs", "()I"⟩, 72), (⟨"BatonZonesModel", "boxesOf", "(I)I"⟩, 72), (⟨"BatonZonesModel", "isTeam", "(I)Z"⟩, 72)]
theorem lw_r5 : ∀ q ∈ lw_privs_5, lw_okq q := List.forall_mem_cons.mpr ⟨lw_p64, List.forall_mem_cons.mpr ⟨lw_p65, List.forall_mem_cons.mpr ⟨lw_p66, List.forall_mem_cons.mpr ⟨lw_p67, List.forall_mem_cons.mpr ⟨lw_p68, List.forall_mem_cons.mpr ⟨lw_p69, List.forall_mem_cons.mpr ⟨lw_p70, List.forall_mem_cons.mpr ⟨lw_p71, List.forall_mem_cons.mpr ⟨lw_p72, List.forall_mem_cons.mpr ⟨lw_p73, List.forall_mem_cons.mpr ⟨lw_p74, List.forall_mem_cons.mpr ⟨lw_p75, List.forall_mem_cons.mpr ⟨lw_p76, List.forall_mem_cons.mpr ⟨lw_p77, List.forall_mem_cons.mpr ⟨lw_p78, List.forall_mem_cons.mpr ⟨lw_p79, fun _ h => absurd h List.not_mem_nil⟩⟩⟩⟩⟩⟩⟩⟩⟩⟩⟩⟩⟩⟩⟩⟩
theorem lw_p80 : lw_okq (⟨"BatonZonesModel", "timeOf", "(I)I"⟩, 72) := ⟨⟨by decide +kernel, by decide +kernel⟩, List.mem_of_getElem? (i := 1390) (by decide +kernel), List.mem_of_getElem? (i := 1833) (by decide +kernel), List.mem_of_getElem? (i := 1834) (by decide +kernel)⟩
theorem lw_p81 : lw_okq (⟨"BatonZonesModel", "endTenth", "(II)I"⟩, 72) := ⟨⟨by decide +kernel, by decide +kernel⟩, List.mem_of_getElem? (i := 1390) (by decide +kernel), List.mem_of_getElem? (i := 1837) (by decide +kernel), List.mem_of_getElem? (i := 1838) (by decide +kernel)⟩
theorem lw_p82 : lw_okq (⟨"BatonZonesModel", "tenthsOf", "(II)I"⟩, 72) := ⟨⟨by decide +kernel, by decide +kernel⟩, List.mem_of_getElem? (i := 1390) (by decide +kernel), List.mem_of_getElem? (i := 1841) (by decide +kernel), List.mem_of_getElem? (i := 1842) (by decide +kernel)⟩
theorem lw_p83 : lw_okq (⟨"BatonZonesModel", "isWhole", "(I)Z"⟩, 72) := ⟨⟨by decide +kernel, by decide +kernel⟩, List.mem_of_getElem? (i := 1390) (by decide +kernel), List.mem_of_getElem? (i := 1845) (by decide +kernel), List.mem_of_getElem? (i := 1846) (by decide +kernel)⟩
theorem lw_p84 : lw_okq (⟨"BatonZonesModel", "isTenth", "(I)Z"⟩, 72) := ⟨⟨by decide +kernel, by decide +kernel⟩, List.mem_of_getElem? (i := 1390) (by decide +kernel), List.mem_of_getElem? (i := 1860) (by decide +kernel), List.mem_of_getElem? (i := 1861) (by decide +kernel)⟩
theorem lw_p85 : lw_okq (⟨"BatonZonesModel", "placeOf", "(II)I"⟩, 72) := ⟨⟨by decide +kernel, by decide +kernel⟩, List.mem_of_getElem? (i := 1390) (by decide +kernel), List.mem_of_getElem? (i := 1865) (by decide +kernel), List.mem_of_getElem? (i := 1866) (by decide +kernel)⟩
theorem lw_p86 : lw_okq (⟨"BatonZonesModel", "legAt", "(II)I"⟩, 72) := ⟨⟨by decide +kernel, by decide +kernel⟩, List.mem_of_getElem? (i := 1390) (by decide +kernel), List.mem_of_getElem? (i := 1869) (by decide +kernel), List.mem_of_getElem? (i := 1870) (by decide +kernel)⟩
theorem lw_p87 : lw_okq (⟨"BatonZonesModel", "endPlace", "(II)I"⟩, 72) := ⟨⟨by decide +kernel, by decide +kernel⟩, List.mem_of_getElem? (i := 1390) (by decide +kernel), List.mem_of_getElem? (i := 1873) (by decide +kernel), List.mem_of_getElem? (i := 1874) (by decide +kernel)⟩
theorem lw_p88 : lw_okq (⟨"BatonZonesModel", "metresOf", "(II)I"⟩, 72) := ⟨⟨by decide +kernel, by decide +kernel⟩, List.mem_of_getElem? (i := 1390) (by decide +kernel), List.mem_of_getElem? (i := 1877) (by decide +kernel), List.mem_of_getElem? (i := 1878) (by decide +kernel)⟩
theorem lw_p89 : lw_okq (⟨"BatonZonesModel", "comesTo", "(II)I"⟩, 72) := ⟨⟨by decide +kernel, by decide +kernel⟩, List.mem_of_getElem? (i := 1390) (by decide +kernel), List.mem_of_getElem? (i := 1885) (by decide +kernel), List.mem_of_getElem? (i := 1886) (by decide +kernel)⟩
theorem lw_p90 : lw_okq (⟨"BatonZonesModel", "keyedAt", "(I)I"⟩, 72) := ⟨⟨by decide +kernel, by decide +kernel⟩, List.mem_of_getElem? (i := 1390) (by decide +kernel), List.mem_of_getElem? (i := 1893) (by decide +kernel), List.mem_of_getElem? (i := 1894) (by decide +kernel)⟩
theorem lw_p91 : lw_okq (⟨"BatonZonesModel", "inBoxOf", "(III)I"⟩, 72) := ⟨⟨by decide +kernel, by decide +kernel⟩, List.mem_of_getElem? (i := 1390) (by decide +kernel), List.mem_of_getElem? (i := 1926) (by decide +kernel), List.mem_of_getElem? (i := 1927) (by decide +kernel)⟩
theorem lw_p92 : lw_okq (⟨"BatonZonesModel", "isAct", "(I)Z"⟩, 72) := ⟨⟨by decide +kernel, by decide +kernel⟩, List.mem_of_getElem? (i := 1390) (by decide +kernel), List.mem_of_getElem? (i := 1939) (by decide +kernel), List.mem_of_getElem? (i := 1940) (by decide +kernel)⟩
theorem lw_p93 : lw_okq (⟨"BatonZonesModel", "kindOf", "(I)I"⟩, 72) := ⟨⟨by decide +kernel, by decide +kernel⟩, List.mem_of_getElem? (i := 1390) (by decide +kernel), List.mem_of_getElem? (i := 1945) (by decide +kernel), List.mem_of_getElem? (i := 1946) (by decide +kernel)⟩
theorem lw_p94 : lw_okq (⟨"BatonZonesModel", "teamOf", "(I)I"⟩, 72) := ⟨⟨by decide +kernel, by decide +kernel⟩, List.mem_of_getElem? (i := 1390) (by decide +kernel), List.mem_of_getElem? (i := 1949) (by decide +kernel), List.mem_of_getElem? (i := 1950) (by decide +kernel)⟩
theorem lw_p95 : lw_okq (⟨"BatonZonesModel", "boxTeam", "(I)I"⟩, 72) := ⟨⟨by decide +kernel, by decide +kernel⟩, List.mem_of_getElem? (i := 1390) (by decide +kernel), List.mem_of_getElem? (i := 1953) (by decide +kernel), List.mem_of_getElem? (i := 1954) (by decide +kernel)⟩
def lw_privs_6 : List (MethodName × Nat) := [(⟨"BatonZonesModel", "timeOf", "(I)I"⟩, 72), (⟨"BatonZonesModel", "endTenth", "(II)I"⟩, 72), (⟨"BatonZonesModel", "tenthsOf", "(II)I"⟩, 72), (⟨"BatonZonesModel", "isWhole", "(I)Z"⟩, 72), (⟨"BatonZonesModel", "isTenth", "(I)Z"⟩, 72), (⟨"BatonZonesModel", "placeOf", "(II)I"⟩, 72), (⟨"BatonZonesModel", "legAt", "(II)I"⟩, 72), (⟨"BatonZonesModel", "endPlace", "(II)I"⟩, 72), (⟨"BatonZonesModel", "metresOf", "(II)I"⟩, 72), (⟨"BatonZonesModel", "comesTo", "(II)I"⟩, 72), (⟨"BatonZonesModel", "keyedAt", "(I)I"⟩, 72), (⟨"BatonZonesModel", "inBoxOf", "(III)I"⟩, 72), (⟨"BatonZonesModel", "isAct", "(I)Z"⟩, 72), (⟨"BatonZonesModel", "kindOf", "(I)I"⟩, 72), (⟨"BatonZonesModel", "teamOf", "(I)I"⟩, 72), (⟨"BatonZonesModel", "boxTeam", "(I)I"⟩, 72)]
theorem lw_r6 : ∀ q ∈ lw_privs_6, lw_okq q := List.forall_mem_cons.mpr ⟨lw_p80, List.forall_mem_cons.mpr ⟨lw_p81, List.forall_mem_cons.mpr ⟨lw_p82, List.forall_mem_cons.mpr ⟨lw_p83, List.forall_mem_cons.mpr ⟨lw_p84, List.forall_mem_cons.mpr ⟨lw_p85, List.forall_mem_cons.mpr ⟨lw_p86, List.forall_mem_cons.mpr ⟨lw_p87, List.forall_mem_cons.mpr ⟨lw_p88, List.forall_mem_cons.mpr ⟨lw_p89, List.forall_mem_cons.mpr ⟨lw_p90, List.forall_mem_cons.mpr ⟨lw_p91, List.forall_mem_cons.mpr ⟨lw_p92, List.forall_mem_cons.mpr ⟨lw_p93, List.forall_mem_cons.mpr ⟨lw_p94, List.forall_mem_cons.mpr ⟨lw_p95, fun _ h => absurd h List.not_mem_nil⟩⟩⟩⟩⟩⟩⟩⟩⟩⟩⟩⟩⟩⟩⟩⟩
theorem lw_p96 : lw_okq (⟨"BatonZonesModel", "otherOf", "(I)I"⟩, 72) := ⟨⟨by decide +kernel, by decide +kernel⟩, List.mem_of_getElem? (i := 1390) (by decide +kernel), List.mem_of_getElem? (i := 1957) (by decide +kernel), List.mem_of_getElem? (i := 1958) (by decide +kernel)⟩
theorem lw_p97 : lw_okq (⟨"BatonZonesModel", "tenthOf", "(I)I"⟩, 72) := ⟨⟨by decide +kernel, by decide +kernel⟩, List.mem_of_getElem? (i := 1390) (by decide +kernel), List.mem_of_getElem? (i := 1961) (by decide +kernel), List.mem_of_getElem? (i := 1962) (by decide +kernel)⟩
theorem lw_p98 : lw_okq (⟨"BatonZonesModel", "boxLeg", "(I)I"⟩, 72) := ⟨⟨by decide +kernel, by decide +kernel⟩, List.mem_of_getElem? (i := 1390) (by decide +kernel), List.mem_of_getElem? (i := 1965) (by decide +kernel), List.mem_of_getElem? (i := 1966) (by decide +kernel)⟩
theorem lw_p99 : lw_okq (⟨"BatonZonesModel", "sizeOf", "(I)I"⟩, 72) := ⟨⟨by decide +kernel, by decide +kernel⟩, List.mem_of_getElem? (i := 1390) (by decide +kernel), List.mem_of_getElem? (i := 1969) (by decide +kernel), List.mem_of_getElem? (i := 1970) (by decide +kernel)⟩
theorem lw_p100 : lw_okq (⟨"BatonZonesModel", "isWaived", "(I)Z"⟩, 72) := ⟨⟨by decide +kernel, by decide +kernel⟩, List.mem_of_getElem? (i := 1390) (by decide +kernel), List.mem_of_getElem? (i := 1973) (by decide +kernel), List.mem_of_getElem? (i := 1974) (by decide +kernel)⟩
theorem lw_p101 : lw_okq (⟨"BatonZonesModel", "factOf", "(II)I"⟩, 72) := ⟨⟨by decide +kernel, by decide +kernel⟩, List.mem_of_getElem? (i := 1390) (by decide +kernel), List.mem_of_getElem? (i := 1981) (by decide +kernel), List.mem_of_getElem? (i := 1982) (by decide +kernel)⟩
theorem lw_p102 : lw_okq (⟨"BatonZonesModel", "isAhead", "(II)Z"⟩, 72) := ⟨⟨by decide +kernel, by decide +kernel⟩, List.mem_of_getElem? (i := 1390) (by decide +kernel), List.mem_of_getElem? (i := 1985) (by decide +kernel), List.mem_of_getElem? (i := 1986) (by decide +kernel)⟩
theorem lw_p103 : lw_okq (⟨"BatonZonesModel", "isRule", "(I)Z"⟩, 72) := ⟨⟨by decide +kernel, by decide +kernel⟩, List.mem_of_getElem? (i := 1390) (by decide +kernel), List.mem_of_getElem? (i := 1993) (by decide +kernel), List.mem_of_getElem? (i := 1994) (by decide +kernel)⟩
theorem lw_p104 : lw_okq (⟨"BatonZonesModel", "hasExcuse", "(I)Z"⟩, 72) := ⟨⟨by decide +kernel, by decide +kernel⟩, List.mem_of_getElem? (i := 1390) (by decide +kernel), List.mem_of_getElem? (i := 1997) (by decide +kernel), List.mem_of_getElem? (i := 1998) (by decide +kernel)⟩
theorem lw_p105 : lw_okq (⟨"BatonZonesModel", "isAsked", "(III)Z"⟩, 72) := ⟨⟨by decide +kernel, by decide +kernel⟩, List.mem_of_getElem? (i := 1390) (by decide +kernel), List.mem_of_getElem? (i := 2007) (by decide +kernel), List.mem_of_getElem? (i := 2008) (by decide +kernel)⟩
theorem lw_p106 : lw_okq (⟨"BatonZonesModel", "holdsPart", "(III)Z"⟩, 72) := ⟨⟨by decide +kernel, by decide +kernel⟩, List.mem_of_getElem? (i := 1390) (by decide +kernel), List.mem_of_getElem? (i := 2011) (by decide +kernel), List.mem_of_getElem? (i := 2012) (by decide +kernel)⟩
theorem lw_p107 : lw_okq (⟨"BatonZonesModel", "worked", "(III)Z"⟩, 72) := ⟨⟨by decide +kernel, by decide +kernel⟩, List.mem_of_getElem? (i := 1390) (by decide +kernel), List.mem_of_getElem? (i := 2015) (by decide +kernel), List.mem_of_getElem? (i := 2016) (by decide +kernel)⟩
theorem lw_p108 : lw_okq (⟨"BatonZonesModel", "kept", "(J)J"⟩, 72) := ⟨⟨by decide +kernel, by decide +kernel⟩, List.mem_of_getElem? (i := 1390) (by decide +kernel), List.mem_of_getElem? (i := 2019) (by decide +kernel), List.mem_of_getElem? (i := 2020) (by decide +kernel)⟩
theorem lw_p109 : lw_okq (⟨"BatonZonesModel", "joins", "(Z)V"⟩, 72) := ⟨⟨by decide +kernel, by decide +kernel⟩, List.mem_of_getElem? (i := 1390) (by decide +kernel), List.mem_of_getElem? (i := 2025) (by decide +kernel), List.mem_of_getElem? (i := 2026) (by decide +kernel)⟩
theorem lw_p110 : lw_okq (⟨"BatonZonesModel", "size", "(I)I"⟩, 72) := ⟨⟨by decide +kernel, by decide +kernel⟩, List.mem_of_getElem? (i := 1390) (by decide +kernel), List.mem_of_getElem? (i := 2029) (by decide +kernel), List.mem_of_getElem? (i := 2030) (by decide +kernel)⟩
theorem lw_p111 : lw_okq (⟨"BatonZonesModel", "compares", "(I)V"⟩, 72) := ⟨⟨by decide +kernel, by decide +kernel⟩, List.mem_of_getElem? (i := 1390) (by decide +kernel), List.mem_of_getElem? (i := 2036) (by decide +kernel), List.mem_of_getElem? (i := 2037) (by decide +kernel)⟩
def lw_privs_7 : List (MethodName × Nat) := [(⟨"BatonZonesModel", "otherOf", "(I)I"⟩, 72), (⟨"BatonZonesModel", "tenthOf", "(I)I"⟩, 72), (⟨"BatonZonesModel", "boxLeg", "(I)I"⟩, 72), (⟨"BatonZonesModel", "sizeOf", "(I)I"⟩, 72), (⟨"BatonZonesModel", "isWaived", "(I)Z"⟩, 72), (⟨"BatonZonesModel", "factOf", "(II)I"⟩, 72), (⟨"BatonZonesModel", "isAhead", "(II)Z"⟩, 72), (⟨"BatonZonesModel", "isRule", "(I)Z"⟩, 72), (⟨"BatonZonesModel", "hasExcuse", "(I)Z"⟩, 72), (⟨"BatonZonesModel", "isAsked", "(III)Z"⟩, 72), (⟨"BatonZonesModel", "holdsPart", "(III)Z"⟩, 72), (⟨"BatonZonesModel", "worked", "(III)Z"⟩, 72), (⟨"BatonZonesModel", "kept", "(J)J"⟩, 72), (⟨"BatonZonesModel", "joins", "(Z)V"⟩, 72), (⟨"BatonZonesModel", "size", "(I)I"⟩, 72), (⟨"BatonZonesModel", "compares", "(I)V"⟩, 72)]
theorem lw_r7 : ∀ q ∈ lw_privs_7, lw_okq q := List.forall_mem_cons.mpr ⟨lw_p96, List.forall_mem_cons.mpr ⟨lw_p97, List.forall_mem_cons.mpr ⟨lw_p98, List.forall_mem_cons.mpr ⟨lw_p99, List.forall_mem_cons.mpr ⟨lw_p100, List.forall_mem_cons.mpr ⟨lw_p101, List.forall_mem_cons.mpr ⟨lw_p102, List.forall_mem_cons.mpr ⟨lw_p103, List.forall_mem_cons.mpr ⟨lw_p104, List.forall_mem_cons.mpr ⟨lw_p105, List.forall_mem_cons.mpr ⟨lw_p106, List.forall_mem_cons.mpr ⟨lw_p107, List.forall_mem_cons.mpr ⟨lw_p108, List.forall_mem_cons.mpr ⟨lw_p109, List.forall_mem_cons.mpr ⟨lw_p110, List.forall_mem_cons.mpr ⟨lw_p111, fun _ h => absurd h List.not_mem_nil⟩⟩⟩⟩⟩⟩⟩⟩⟩⟩⟩⟩⟩⟩⟩⟩
theorem lw_p112 : lw_okq (⟨"BatonZonesModel", "isStruck", "(II)Z"⟩, 72) := ⟨⟨by decide +kernel, by decide +kernel⟩, List.mem_of_getElem? (i := 1390) (by decide +kernel), List.mem_of_getElem? (i := 2048) (by decide +kernel), List.mem_of_getElem? (i := 2049) (by decide +kernel)⟩
theorem lw_p113 : lw_okq (⟨"BatonZonesModel", "without", "(IIII)I"⟩, 72) := ⟨⟨by decide +kernel, by decide +kernel⟩, List.mem_of_getElem? (i := 1390) (by decide +kernel), List.mem_of_getElem? (i := 2056) (by decide +kernel), List.mem_of_getElem? (i := 2057) (by decide +kernel)⟩
theorem lw_p114 : lw_okq (⟨"BatonZonesModel", "firstRule", "(I)I"⟩, 72) := ⟨⟨by decide +kernel, by decide +kernel⟩, List.mem_of_getElem? (i := 1390) (by decide +kernel), List.mem_of_getElem? (i := 2060) (by decide +kernel), List.mem_of_getElem? (i := 2061) (by decide +kernel)⟩
theorem lw_p115 : lw_okq (⟨"BatonZonesModel", "laysStruck", "()V"⟩, 72) := ⟨⟨by decide +kernel, by decide +kernel⟩, List.mem_of_getElem? (i := 1390) (by decide +kernel), List.mem_of_getElem? (i := 2072) (by decide +kernel), List.mem_of_getElem? (i := 2073) (by decide +kernel)⟩
theorem lw_p116 : lw_okq (⟨"BatonZonesModel", "isInResult", "(I)Z"⟩, 72) := ⟨⟨by decide +kernel, by decide +kernel⟩, List.mem_of_getElem? (i := 1390) (by decide +kernel), List.mem_of_getElem? (i := 2080) (by decide +kernel), List.mem_of_getElem? (i := 2081) (by decide +kernel)⟩
theorem lw_p117 : lw_okq (⟨"BatonZonesModel", "rankOf", "(I)I"⟩, 72) := ⟨⟨by decide +kernel, by decide +kernel⟩, List.mem_of_getElem? (i := 1390) (by decide +kernel), List.mem_of_getElem? (i := 2084) (by decide +kernel), List.mem_of_getElem? (i := 2085) (by decide +kernel)⟩
theorem lw_p118 : lw_okq (⟨"BatonZonesModel", "resultAt", "(I)I"⟩, 72) := ⟨⟨by decide +kernel, by decide +kernel⟩, List.mem_of_getElem? (i := 1390) (by decide +kernel), List.mem_of_getElem? (i := 2096) (by decide +kernel), List.mem_of_getElem? (i := 2097) (by decide +kernel)⟩
theorem lw_p119 : lw_okq (⟨"BatonZonesModel", "besides", "()I"⟩, 72) := ⟨⟨by decide +kernel, by decide +kernel⟩, List.mem_of_getElem? (i := 1390) (by decide +kernel), List.mem_of_getElem? (i := 2112) (by decide +kernel), List.mem_of_getElem? (i := 2113) (by decide +kernel)⟩
theorem lw_p120 : lw_okq (⟨"BatonZonesModel", "isThrough", "(I)Z"⟩, 72) := ⟨⟨by decide +kernel, by decide +kernel⟩, List.mem_of_getElem? (i := 1390) (by decide +kernel), List.mem_of_getElem? (i := 2116) (by decide +kernel), List.mem_of_getElem? (i := 2117) (by decide +kernel)⟩
theorem lw_p121 : lw_okq (⟨"BatonZonesModel", "isClean", "(I)Z"⟩, 72) := ⟨⟨by decide +kernel, by decide +kernel⟩, List.mem_of_getElem? (i := 1390) (by decide +kernel), List.mem_of_getElem? (i := 2136) (by decide +kernel), List.mem_of_getElem? (i := 2137) (by decide +kernel)⟩
theorem lw_p122 : lw_okq (⟨"BatonZonesModel", "keeps", "()V"⟩, 72) := ⟨⟨by decide +kernel, by decide +kernel⟩, List.mem_of_getElem? (i := 1390) (by decide +kernel), List.mem_of_getElem? (i := 2145) (by decide +kernel), List.mem_of_getElem? (i := 2146) (by decide +kernel)⟩
def lw_privs_8 : List (MethodName × Nat) := [(⟨"BatonZonesModel", "isStruck", "(II)Z"⟩, 72), (⟨"BatonZonesModel", "without", "(IIII)I"⟩, 72), (⟨"BatonZonesModel", "firstRule", "(I)I"⟩, 72), (⟨"BatonZonesModel", "laysStruck", "()V"⟩, 72), (⟨"BatonZonesModel", "isInResult", "(I)Z"⟩, 72), (⟨"BatonZonesModel", "rankOf", "(I)I"⟩, 72), (⟨"BatonZonesModel", "resultAt", "(I)I"⟩, 72), (⟨"BatonZonesModel", "besides", "()I"⟩, 72), (⟨"BatonZonesModel", "isThrough", "(I)Z"⟩, 72), (⟨"BatonZonesModel", "isClean", "(I)Z"⟩, 72), (⟨"BatonZonesModel", "keeps", "()V"⟩, 72)]
theorem lw_r8 : ∀ q ∈ lw_privs_8, lw_okq q := List.forall_mem_cons.mpr ⟨lw_p112, List.forall_mem_cons.mpr ⟨lw_p113, List.forall_mem_cons.mpr ⟨lw_p114, List.forall_mem_cons.mpr ⟨lw_p115, List.forall_mem_cons.mpr ⟨lw_p116, List.forall_mem_cons.mpr ⟨lw_p117, List.forall_mem_cons.mpr ⟨lw_p118, List.forall_mem_cons.mpr ⟨lw_p119, List.forall_mem_cons.mpr ⟨lw_p120, List.forall_mem_cons.mpr ⟨lw_p121, List.forall_mem_cons.mpr ⟨lw_p122, fun _ h => absurd h List.not_mem_nil⟩⟩⟩⟩⟩⟩⟩⟩⟩⟩⟩
def lw_privs : List (MethodName × Nat) := lw_privs_1 ++ (lw_privs_2 ++ (lw_privs_3 ++ (lw_privs_4 ++ (lw_privs_5 ++ (lw_privs_6 ++ (lw_privs_7 ++ (lw_privs_8)))))))
def lw_tbl : List Cond := k2_sels lw_privs ++ tables_1
theorem lw_privs_ok : ∀ q ∈ lw_privs, lw_okq q := by
  show ∀ q ∈ lw_privs_1 ++ (lw_privs_2 ++ (lw_privs_3 ++ (lw_privs_4 ++ (lw_privs_5 ++ (lw_privs_6 ++ (lw_privs_7 ++ (lw_privs_8))))))), lw_okq q
  exact List.forall_mem_append.mpr ⟨lw_r1, List.forall_mem_append.mpr ⟨lw_r2, List.forall_mem_append.mpr ⟨lw_r3, List.forall_mem_append.mpr ⟨lw_r4, List.forall_mem_append.mpr ⟨lw_r5, List.forall_mem_append.mpr ⟨lw_r6, List.forall_mem_append.mpr ⟨lw_r7, lw_r8⟩⟩⟩⟩⟩⟩⟩
def RX0 : String := "BatonZones$Act"
def TX0 : u_T := fun k => match k with
  | 0 => ("BatonZones$Act", "kind", "I", false)
  | 1 => ("BatonZones$Act", "team", "I", false)
  | 2 => ("BatonZones$Act", "other", "I", false)
  | 3 => ("BatonZones$Act", "tenth", "I", false)
  | _ => ("BatonZones$Act", "size", "I", false)
def tyX0 : Nat → FieldType := fun k => match k with
  | 0 => .int
  | 1 => .int
  | 2 => .int
  | 3 => .int
  | _ => .int
theorem nmX0 : ∀ a, a < 5 → ∀ b, b < 5 → a ≠ b → (TX0 a).2.1 ≠ (TX0 b).2.1 := by decide +kernel
theorem tyX0_ok : ∀ k, k < 5 → parseFieldDescriptor (TX0 k).2.2.1 = some (tyX0 k) := by decide +kernel
def RX1 : String := "BatonZones$Appeals"
def TX1 : u_T := fun k => match k with
  | 0 => ("BatonZones$Appeals", "log", "[I", true)
  | 1 => ("BatonZones$Appeals", "next", "I", false)
  | _ => ("BatonZones$Appeals", "kept", "I", false)
def tyX1 : Nat → FieldType := fun k => match k with
  | 0 => .array .int
  | 1 => .int
  | _ => .int
theorem nmX1 : ∀ a, a < 3 → ∀ b, b < 3 → a ≠ b → (TX1 a).2.1 ≠ (TX1 b).2.1 := by decide +kernel
theorem tyX1_ok : ∀ k, k < 3 → parseFieldDescriptor (TX1 k).2.2.1 = some (tyX1 k) := by decide +kernel
def RX2 : String := "BatonZones$Book"
def TX2 : u_T := fun k => match k with
  | 0 => ("BatonZones$Book", "legs", "I", false)
  | 1 => ("BatonZones$Book", "length", "I", false)
  | 2 => ("BatonZones$Book", "before", "I", false)
  | 3 => ("BatonZones$Book", "after", "I", false)
  | 4 => ("BatonZones$Book", "cut", "I", false)
  | 5 => ("BatonZones$Book", "teams", "I", false)
  | 6 => ("BatonZones$Book", "actsTold", "I", false)
  | 7 => ("BatonZones$Book", "acts", "I", false)
  | 8 => ("BatonZones$Book", "rules", "I", false)
  | 9 => ("BatonZones$Book", "through", "I", false)
  | 10 => ("BatonZones$Book", "within", "I", false)
  | 11 => ("BatonZones$Book", "waived", "J", false)
  | 12 => ("BatonZones$Book", "terms", "LBatonZones$Terms;", true)
  | 13 => ("BatonZones$Book", "runners", "[LBatonZones$Team;", true)
  | 14 => ("BatonZones$Book", "deeds", "[LBatonZones$Act;", true)
  | 15 => ("BatonZones$Book", "ruleNames", "[J", true)
  | 16 => ("BatonZones$Book", "ruleKinds", "[I", true)
  | 17 => ("BatonZones$Book", "nobody", "LBatonZones$Team;", true)
  | _ => ("BatonZones$Book", "nothing", "LBatonZones$Act;", true)
def tyX2 : Nat → FieldType := fun k => match k with
  | 0 => .int
  | 1 => .int
  | 2 => .int
  | 3 => .int
  | 4 => .int
  | 5 => .int
  | 6 => .int
  | 7 => .int
  | 8 => .int
  | 9 => .int
  | 10 => .int
  | 11 => .long
  | 12 => .object "BatonZones$Terms"
  | 13 => .array (.object "BatonZones$Team")
  | 14 => .array (.object "BatonZones$Act")
  | 15 => .array .long
  | 16 => .array .int
  | 17 => .object "BatonZones$Team"
  | _ => .object "BatonZones$Act"
theorem nmX2 : ∀ a, a < 19 → ∀ b, b < 19 → a ≠ b → (TX2 a).2.1 ≠ (TX2 b).2.1 := by decide +kernel
theorem tyX2_ok : ∀ k, k < 19 → parseFieldDescriptor (TX2 k).2.2.1 = some (tyX2 k) := by decide +kernel
def RX3 : String := "BatonZones$Conditions"
def TX3 : u_T := fun k => match k with
  | 0 => ("BatonZones$Conditions", "state", "I", false)
  | 1 => ("BatonZones$Conditions", "open", "I", false)
  | 2 => ("BatonZones$Conditions", "curly", "I", false)
  | 3 => ("BatonZones$Conditions", "compared", "Z", false)
  | 4 => ("BatonZones$Conditions", "waiting", "[I", true)
  | 5 => ("BatonZones$Conditions", "operand", "[I", true)
  | _ => ("BatonZones$Conditions", "waits", "I", false)
def tyX3 : Nat → FieldType := fun k => match k with
  | 0 => .int
  | 1 => .int
  | 2 => .int
  | 3 => .boolean
  | 4 => .array .int
  | 5 => .array .int
  | _ => .int
theorem nmX3 : ∀ a, a < 7 → ∀ b, b < 7 → a ≠ b → (TX3 a).2.1 ≠ (TX3 b).2.1 := by decide +kernel
theorem tyX3_ok : ∀ k, k < 7 → parseFieldDescriptor (TX3 k).2.2.1 = some (tyX3 k) := by decide +kernel
def RX4 : String := "BatonZones$Judge"
def TX4 : u_T := fun k => match k with
  | 0 => ("BatonZones$Judge", "facts", "[I", true)
  | 1 => ("BatonZones$Judge", "value", "[J", true)
  | 2 => ("BatonZones$Judge", "weight", "[I", true)
  | 3 => ("BatonZones$Judge", "chosen", "[Z", true)
  | 4 => ("BatonZones$Judge", "earlier", "[J", true)
  | 5 => ("BatonZones$Judge", "forcers", "[J", true)
  | 6 => ("BatonZones$Judge", "judged", "[J", true)
  | _ => ("BatonZones$Judge", "struck", "[J", true)
def tyX4 : Nat → FieldType := fun k => match k with
  | 0 => .array .int
  | 1 => .array .long
  | 2 => .array .int
  | 3 => .array .boolean
  | 4 => .array .long
  | 5 => .array .long
  | 6 => .array .long
  | _ => .array .long
theorem nmX4 : ∀ a, a < 8 → ∀ b, b < 8 → a ≠ b → (TX4 a).2.1 ≠ (TX4 b).2.1 := by decide +kernel
theorem tyX4_ok : ∀ k, k < 8 → parseFieldDescriptor (TX4 k).2.2.1 = some (tyX4 k) := by decide +kernel
def RX5 : String := "BatonZones$Race"
def TX5 : u_T := fun k => match k with
  | _ => ("BatonZones$Race", "keys", "[I", true)
def tyX5 : Nat → FieldType := fun k => match k with
  | _ => .array .int
theorem nmX5 : ∀ a, a < 1 → ∀ b, b < 1 → a ≠ b → (TX5 a).2.1 ≠ (TX5 b).2.1 := by decide +kernel
theorem tyX5_ok : ∀ k, k < 1 → parseFieldDescriptor (TX5 k).2.2.1 = some (tyX5 k) := by decide +kernel
def RX6 : String := "BatonZones$Reader"
def TX6 : u_T := fun k => match k with
  | 0 => ("BatonZones$Reader", "tokens", "LBatonZones$Tokens;", true)
  | 1 => ("BatonZones$Reader", "conditions", "LBatonZones$Conditions;", true)
  | 2 => ("BatonZones$Reader", "throughTold", "Z", false)
  | 3 => ("BatonZones$Reader", "withinTold", "Z", false)
  | 4 => ("BatonZones$Reader", "taken", "I", false)
  | 5 => ("BatonZones$Reader", "fault", "I", false)
  | _ => ("BatonZones$Reader", "faultPlace", "I", false)
def tyX6 : Nat → FieldType := fun k => match k with
  | 0 => .object "BatonZones$Tokens"
  | 1 => .object "BatonZones$Conditions"
  | 2 => .boolean
  | 3 => .boolean
  | 4 => .int
  | 5 => .int
  | _ => .int
theorem nmX6 : ∀ a, a < 7 → ∀ b, b < 7 → a ≠ b → (TX6 a).2.1 ≠ (TX6 b).2.1 := by decide +kernel
theorem tyX6_ok : ∀ k, k < 7 → parseFieldDescriptor (TX6 k).2.2.1 = some (tyX6 k) := by decide +kernel
def RX7 : String := "BatonZones$Team"
def TX7 : u_T := fun k => match k with
  | 0 => ("BatonZones$Team", "tenths", "[I", true)
  | 1 => ("BatonZones$Team", "metres", "[I", true)
  | 2 => ("BatonZones$Team", "ends", "[I", true)
  | 3 => ("BatonZones$Team", "passes", "[I", true)
  | 4 => ("BatonZones$Team", "name", "J", false)
  | 5 => ("BatonZones$Team", "lane", "I", false)
  | _ => ("BatonZones$Team", "told", "I", false)
def tyX7 : Nat → FieldType := fun k => match k with
  | 0 => .array .int
  | 1 => .array .int
  | 2 => .array .int
  | 3 => .array .int
  | 4 => .long
  | 5 => .int
  | _ => .int
theorem nmX7 : ∀ a, a < 7 → ∀ b, b < 7 → a ≠ b → (TX7 a).2.1 ≠ (TX7 b).2.1 := by decide +kernel
theorem tyX7_ok : ∀ k, k < 7 → parseFieldDescriptor (TX7 k).2.2.1 = some (tyX7 k) := by decide +kernel
def RX8 : String := "BatonZones$Terms"
def TX8 : u_T := fun k => match k with
  | 0 => ("BatonZones$Terms", "op", "[I", true)
  | 1 => ("BatonZones$Terms", "number", "[I", true)
  | 2 => ("BatonZones$Terms", "left", "[I", true)
  | 3 => ("BatonZones$Terms", "from", "[I", true)
  | 4 => ("BatonZones$Terms", "to", "[I", true)
  | 5 => ("BatonZones$Terms", "comparisons", "[I", true)
  | 6 => ("BatonZones$Terms", "written", "I", false)
  | _ => ("BatonZones$Terms", "size", "I", false)
def tyX8 : Nat → FieldType := fun k => match k with
  | 0 => .array .int
  | 1 => .array .int
  | 2 => .array .int
  | 3 => .array .int
  | 4 => .array .int
  | 5 => .array .int
  | 6 => .int
  | _ => .int
theorem nmX8 : ∀ a, a < 8 → ∀ b, b < 8 → a ≠ b → (TX8 a).2.1 ≠ (TX8 b).2.1 := by decide +kernel
theorem tyX8_ok : ∀ k, k < 8 → parseFieldDescriptor (TX8 k).2.2.1 = some (tyX8 k) := by decide +kernel
def RX9 : String := "BatonZones$Tokens"
def TX9 : u_T := fun k => match k with
  | 0 => ("BatonZones$Tokens", "text", "[I", false)
  | 1 => ("BatonZones$Tokens", "length", "I", false)
  | 2 => ("BatonZones$Tokens", "next", "I", false)
  | 3 => ("BatonZones$Tokens", "kind", "I", false)
  | 4 => ("BatonZones$Tokens", "place", "I", false)
  | 5 => ("BatonZones$Tokens", "number", "I", false)
  | _ => ("BatonZones$Tokens", "word", "J", false)
def tyX9 : Nat → FieldType := fun k => match k with
  | 0 => .array .int
  | 1 => .int
  | 2 => .int
  | 3 => .int
  | 4 => .int
  | 5 => .int
  | _ => .long
theorem nmX9 : ∀ a, a < 7 → ∀ b, b < 7 → a ≠ b → (TX9 a).2.1 ≠ (TX9 b).2.1 := by decide +kernel
theorem tyX9_ok : ∀ k, k < 7 → parseFieldDescriptor (TX9 k).2.2.1 = some (tyX9 k) := by decide +kernel
def RX10 : String := "BatonZones$Verdict"
def TX10 : u_T := fun k => match k with
  | 0 => ("BatonZones$Verdict", "strikes", "[I", true)
  | 1 => ("BatonZones$Verdict", "would", "[I", true)
  | 2 => ("BatonZones$Verdict", "times", "[I", true)
  | 3 => ("BatonZones$Verdict", "fairTimes", "[I", true)
  | 4 => ("BatonZones$Verdict", "struck", "I", false)
  | 5 => ("BatonZones$Verdict", "through", "I", false)
  | 6 => ("BatonZones$Verdict", "impeded", "I", false)
  | 7 => ("BatonZones$Verdict", "besides", "I", false)
  | _ => ("BatonZones$Verdict", "whole", "I", false)
def tyX10 : Nat → FieldType := fun k => match k with
  | 0 => .array .int
  | 1 => .array .int
  | 2 => .array .int
  | 3 => .array .int
  | 4 => .int
  | 5 => .int
  | 6 => .int
  | 7 => .int
  | _ => .int
theorem nmX10 : ∀ a, a < 9 → ∀ b, b < 9 → a ≠ b → (TX10 a).2.1 ≠ (TX10 b).2.1 := by decide +kernel
theorem tyX10_ok : ∀ k, k < 9 → parseFieldDescriptor (TX10 k).2.2.1 = some (tyX10 k) := by decide +kernel
def RX11 : String := "BatonZones"
def TX11 : u_T := fun k => match k with
  | 0 => ("BatonZones", "tape", "[I", true)
  | 1 => ("BatonZones", "fed", "I", false)
  | 2 => ("BatonZones", "told", "LBatonZones$Book;", false)
  | 3 => ("BatonZones", "spare", "LBatonZones$Book;", false)
  | 4 => ("BatonZones", "reader", "LBatonZones$Reader;", true)
  | 5 => ("BatonZones", "race", "LBatonZones$Race;", true)
  | 6 => ("BatonZones", "judge", "LBatonZones$Judge;", true)
  | 7 => ("BatonZones", "verdict", "LBatonZones$Verdict;", true)
  | 8 => ("BatonZones", "supposed", "LBatonZones$Verdict;", true)
  | _ => ("BatonZones", "appeals", "LBatonZones$Appeals;", true)
def tyX11 : Nat → FieldType := fun k => match k with
  | 0 => .array .int
  | 1 => .int
  | 2 => .object "BatonZones$Book"
  | 3 => .object "BatonZones$Book"
  | 4 => .object "BatonZones$Reader"
  | 5 => .object "BatonZones$Race"
  | 6 => .object "BatonZones$Judge"
  | 7 => .object "BatonZones$Verdict"
  | 8 => .object "BatonZones$Verdict"
  | _ => .object "BatonZones$Appeals"
theorem nmX11 : ∀ a, a < 10 → ∀ b, b < 10 → a ≠ b → (TX11 a).2.1 ≠ (TX11 b).2.1 := by decide +kernel
theorem tyX11_ok : ∀ k, k < 10 → parseFieldDescriptor (TX11 k).2.2.1 = some (tyX11 k) := by decide +kernel
def RX12 : String := "BatonZonesModel"
def TX12 : u_T := fun k => match k with
  | 0 => ("BatonZonesModel", "tape", "[I", true)
  | 1 => ("BatonZonesModel", "taped", "I", false)
  | 2 => ("BatonZonesModel", "kinds", "[J", true)
  | 3 => ("BatonZonesModel", "facts", "[J", true)
  | 4 => ("BatonZonesModel", "bytes", "I", false)
  | 5 => ("BatonZonesModel", "at", "I", false)
  | 6 => ("BatonZonesModel", "place", "I", false)
  | 7 => ("BatonZonesModel", "sort", "I", false)
  | 8 => ("BatonZonesModel", "value", "I", false)
  | 9 => ("BatonZonesModel", "fault", "I", false)
  | 10 => ("BatonZonesModel", "faultPlace", "I", false)
  | 11 => ("BatonZonesModel", "toldFault", "I", false)
  | 12 => ("BatonZonesModel", "toldPlace", "I", false)
  | 13 => ("BatonZonesModel", "word", "J", false)
  | 14 => ("BatonZonesModel", "made", "[I", true)
  | 15 => ("BatonZonesModel", "code", "[I", true)
  | 16 => ("BatonZonesModel", "waits", "[I", true)
  | 17 => ("BatonZonesModel", "rMade", "I", false)
  | 18 => ("BatonZonesModel", "waiting", "I", false)
  | 19 => ("BatonZonesModel", "base", "I", false)
  | 20 => ("BatonZonesModel", "opened", "I", false)
  | 21 => ("BatonZonesModel", "rTeams", "I", false)
  | 22 => ("BatonZonesModel", "rActs", "I", false)
  | 23 => ("BatonZonesModel", "rRules", "I", false)
  | 24 => ("BatonZonesModel", "rOnce", "I", false)
  | 25 => ("BatonZonesModel", "rThrough", "I", false)
  | 26 => ("BatonZonesModel", "rWithin", "I", false)
  | 27 => ("BatonZonesModel", "lines", "I", false)
  | 28 => ("BatonZonesModel", "rTrack", "[I", true)
  | 29 => ("BatonZonesModel", "rLane", "[I", true)
  | 30 => ("BatonZonesModel", "rLegs", "[I", true)
  | 31 => ("BatonZonesModel", "rState", "[I", true)
  | 32 => ("BatonZonesModel", "rActKind", "[I", true)
  | 33 => ("BatonZonesModel", "rActTeam", "[I", true)
  | 34 => ("BatonZonesModel", "rActOther", "[I", true)
  | 35 => ("BatonZonesModel", "rRuleKind", "[I", true)
  | 36 => ("BatonZonesModel", "rCode", "[I", true)
  | 37 => ("BatonZonesModel", "rTeamName", "[J", true)
  | 38 => ("BatonZonesModel", "rRuleName", "[J", true)
  | 39 => ("BatonZonesModel", "teams", "I", false)
  | 40 => ("BatonZonesModel", "acts", "I", false)
  | 41 => ("BatonZonesModel", "rules", "I", false)
  | 42 => ("BatonZonesModel", "through", "I", false)
  | 43 => ("BatonZonesModel", "within", "I", false)
  | 44 => ("BatonZonesModel", "track", "[I", true)
  | 45 => ("BatonZonesModel", "laneOf", "[I", true)
  | 46 => ("BatonZonesModel", "legsOf", "[I", true)
  | 47 => ("BatonZonesModel", "actKind", "[I", true)
  | 48 => ("BatonZonesModel", "actTeam", "[I", true)
  | 49 => ("BatonZonesModel", "actOther", "[I", true)
  | 50 => ("BatonZonesModel", "ruleKind", "[I", true)
  | 51 => ("BatonZonesModel", "codeAt", "[I", true)
  | 52 => ("BatonZonesModel", "teamName", "[J", true)
  | 53 => ("BatonZonesModel", "ruleName", "[J", true)
  | 54 => ("BatonZonesModel", "now", "[I", true)
  | 55 => ("BatonZonesModel", "past", "[I", true)
  | 56 => ("BatonZonesModel", "undos", "I", false)
  | 57 => ("BatonZonesModel", "keyed", "[I", true)
  | 58 => ("BatonZonesModel", "among", "[Z", true)
  | 59 => ("BatonZonesModel", "turnedOver", "I", false)
  | 60 => ("BatonZonesModel", "waivedMore", "I", false)
  | 61 => ("BatonZonesModel", "pile", "[J", true)
  | 62 => ("BatonZonesModel", "whyA", "[J", true)
  | 63 => ("BatonZonesModel", "whyB", "[J", true)
  | 64 => ("BatonZonesModel", "whyC", "[J", true)
  | 65 => ("BatonZonesModel", "high", "I", false)
  | 66 => ("BatonZonesModel", "compared", "I", false)
  | 67 => ("BatonZonesModel", "isBeyond", "Z", false)
  | 68 => ("BatonZonesModel", "actStruck", "[Z", true)
  | 69 => ("BatonZonesModel", "teamStruck", "[Z", true)
  | 70 => ("BatonZonesModel", "impeded", "[Z", true)
  | _ => ("BatonZonesModel", "would", "[I", true)
def tyX12 : Nat → FieldType := fun k => match k with
  | 0 => .array .int
  | 1 => .int
  | 2 => .array .long
  | 3 => .array .long
  | 4 => .int
  | 5 => .int
  | 6 => .int
  | 7 => .int
  | 8 => .int
  | 9 => .int
  | 10 => .int
  | 11 => .int
  | 12 => .int
  | 13 => .long
  | 14 => .array .int
  | 15 => .array .int
  | 16 => .array .int
  | 17 => .int
  | 18 => .int
  | 19 => .int
  | 20 => .int
  | 21 => .int
  | 22 => .int
  | 23 => .int
  | 24 => .int
  | 25 => .int
  | 26 => .int
  | 27 => .int
  | 28 => .array .int
  | 29 => .array .int
  | 30 => .array .int
  | 31 => .array .int
  | 32 => .array .int
  | 33 => .array .int
  | 34 => .array .int
  | 35 => .array .int
  | 36 => .array .int
  | 37 => .array .long
  | 38 => .array .long
  | 39 => .int
  | 40 => .int
  | 41 => .int
  | 42 => .int
  | 43 => .int
  | 44 => .array .int
  | 45 => .array .int
  | 46 => .array .int
  | 47 => .array .int
  | 48 => .array .int
  | 49 => .array .int
  | 50 => .array .int
  | 51 => .array .int
  | 52 => .array .long
  | 53 => .array .long
  | 54 => .array .int
  | 55 => .array .int
  | 56 => .int
  | 57 => .array .int
  | 58 => .array .boolean
  | 59 => .int
  | 60 => .int
  | 61 => .array .long
  | 62 => .array .long
  | 63 => .array .long
  | 64 => .array .long
  | 65 => .int
  | 66 => .int
  | 67 => .boolean
  | 68 => .array .boolean
  | 69 => .array .boolean
  | 70 => .array .boolean
  | _ => .array .int
theorem nmX12 : ∀ a, a < 72 → ∀ b, b < 72 → a ≠ b → (TX12 a).2.1 ≠ (TX12 b).2.1 := by decide +kernel
theorem tyX12_ok : ∀ k, k < 72 → parseFieldDescriptor (TX12 k).2.2.1 = some (tyX12 k) := by decide +kernel
abbrev cX0_init : ByteArray := prog_2_method_1_code
def yX0_init : MethodName := ⟨RX0, "<init>", "()V"⟩
abbrev cX0_tell : ByteArray := prog_2_method_2_code
def yX0_tell : MethodName := ⟨RX0, "tell", "(IIIII)V"⟩
abbrev cX1_init : ByteArray := prog_3_method_1_code
def yX1_init : MethodName := ⟨RX1, "<init>", "()V"⟩
abbrev cX1_forget : ByteArray := prog_3_method_2_code
def yX1_forget : MethodName := ⟨RX1, "forget", "()V"⟩
abbrev cX1_keep : ByteArray := prog_3_method_3_code
def yX1_keep : MethodName := ⟨RX1, "keep", "(IIIII)V"⟩
abbrev cX1_takeBack : ByteArray := prog_3_method_4_code
def yX1_takeBack : MethodName := ⟨RX1, "takeBack", "(LBatonZones$Book;)V"⟩
abbrev cX2_init : ByteArray := prog_4_method_1_code
def yX2_init : MethodName := ⟨RX2, "<init>", "()V"⟩
abbrev cX2_clear : ByteArray := prog_4_method_2_code
def yX2_clear : MethodName := ⟨RX2, "clear", "()V"⟩
abbrev cX2_hasTeam : ByteArray := prog_4_method_3_code
def yX2_hasTeam : MethodName := ⟨RX2, "hasTeam", "(I)Z"⟩
abbrev cX2_hasRule : ByteArray := prog_4_method_4_code
def yX2_hasRule : MethodName := ⟨RX2, "hasRule", "(I)Z"⟩
abbrev cX2_hasAct : ByteArray := prog_4_method_5_code
def yX2_hasAct : MethodName := ⟨RX2, "hasAct", "(I)Z"⟩
abbrev cX2_wasTold : ByteArray := prog_4_method_6_code
def yX2_wasTold : MethodName := ⟨RX2, "wasTold", "(I)Z"⟩
abbrev cX2_hasLeg : ByteArray := prog_4_method_7_code
def yX2_hasLeg : MethodName := ⟨RX2, "hasLeg", "(II)Z"⟩
abbrev cX2_runner : ByteArray := prog_4_method_8_code
def yX2_runner : MethodName := ⟨RX2, "runner", "(I)LBatonZones$Team;"⟩
abbrev cX2_deed : ByteArray := prog_4_method_9_code
def yX2_deed : MethodName := ⟨RX2, "deed", "(I)LBatonZones$Act;"⟩
abbrev cX2_kindOfRule : ByteArray := prog_4_method_10_code
def yX2_kindOfRule : MethodName := ⟨RX2, "kindOfRule", "(I)I"⟩
abbrev cX2_nameOfRule : ByteArray := prog_4_method_11_code
def yX2_nameOfRule : MethodName := ⟨RX2, "nameOfRule", "(I)J"⟩
abbrev cX2_isWhole : ByteArray := prog_4_method_12_code
def yX2_isWhole : MethodName := ⟨RX2, "isWhole", "(I)Z"⟩
abbrev cX2_teamInLane : ByteArray := prog_4_method_13_code
def yX2_teamInLane : MethodName := ⟨RX2, "teamInLane", "(I)I"⟩
abbrev cX2_teamOfName : ByteArray := prog_4_method_14_code
def yX2_teamOfName : MethodName := ⟨RX2, "teamOfName", "(J)I"⟩
abbrev cX2_isNameTaken : ByteArray := prog_4_method_15_code
def yX2_isNameTaken : MethodName := ⟨RX2, "isNameTaken", "(J)Z"⟩
abbrev cX2_addTeam : ByteArray := prog_4_method_16_code
def yX2_addTeam : MethodName := ⟨RX2, "addTeam", "(JI)V"⟩
abbrev cX2_addAct : ByteArray := prog_4_method_17_code
def yX2_addAct : MethodName := ⟨RX2, "addAct", "(IIIII)V"⟩
abbrev cX2_addRule : ByteArray := prog_4_method_18_code
def yX2_addRule : MethodName := ⟨RX2, "addRule", "(JI)V"⟩
abbrev cX2_mostMetres : ByteArray := prog_4_method_19_code
def yX2_mostMetres : MethodName := ⟨RX2, "mostMetres", "(I)I"⟩
abbrev cX2_settle : ByteArray := prog_4_method_20_code
def yX2_settle : MethodName := ⟨RX2, "settle", "()V"⟩
abbrev cX2_metresOutside : ByteArray := prog_4_method_21_code
def yX2_metresOutside : MethodName := ⟨RX2, "metresOutside", "(I)I"⟩
abbrev cX2_boxFrom : ByteArray := prog_4_method_22_code
def yX2_boxFrom : MethodName := ⟨RX2, "boxFrom", "(I)I"⟩
abbrev cX2_boxTo : ByteArray := prog_4_method_23_code
def yX2_boxTo : MethodName := ⟨RX2, "boxTo", "(I)I"⟩
abbrev cX2_isInABox : ByteArray := prog_4_method_24_code
def yX2_isInABox : MethodName := ⟨RX2, "isInABox", "(I)Z"⟩
abbrev cX2_runInBox : ByteArray := prog_4_method_25_code
def yX2_runInBox : MethodName := ⟨RX2, "runInBox", "(LBatonZones$Team;II)I"⟩
abbrev cX2_earlier : ByteArray := prog_4_method_26_code
def yX2_earlier : MethodName := ⟨RX2, "earlier", "(II)J"⟩
abbrev cX2_forcers : ByteArray := prog_4_method_27_code
def yX2_forcers : MethodName := ⟨RX2, "forcers", "(II)J"⟩
abbrev cX2_kth : ByteArray := prog_4_method_28_code
def yX2_kth : MethodName := ⟨RX2, "kth", "([II)I"⟩
abbrev cX2_teamsAhead : ByteArray := prog_4_method_29_code
def yX2_teamsAhead : MethodName := ⟨RX2, "teamsAhead", "([II)I"⟩
abbrev cX3_init : ByteArray := prog_5_method_1_code
def yX3_init : MethodName := ⟨RX3, "<init>", "()V"⟩
abbrev cX3_read : ByteArray := prog_5_method_2_code
def yX3_read : MethodName := ⟨RX3, "read", "(LBatonZones$Tokens;LBatonZones$Terms;I)I"⟩
abbrev cX3_comparisonEnds : ByteArray := prog_5_method_3_code
def yX3_comparisonEnds : MethodName := ⟨RX3, "comparisonEnds", "(LBatonZones$Tokens;)Z"⟩
abbrev cX3_truthEnds : ByteArray := prog_5_method_4_code
def yX3_truthEnds : MethodName := ⟨RX3, "truthEnds", "(LBatonZones$Tokens;)Z"⟩
abbrev cX3_comparisonStarts : ByteArray := prog_5_method_5_code
def yX3_comparisonStarts : MethodName := ⟨RX3, "comparisonStarts", "(LBatonZones$Tokens;)Z"⟩
abbrev cX3_startNumber : ByteArray := prog_5_method_6_code
def yX3_startNumber : MethodName := ⟨RX3, "startNumber", "(LBatonZones$Tokens;LBatonZones$Terms;)I"⟩
abbrev cX3_openOne : ByteArray := prog_5_method_7_code
def yX3_openOne : MethodName := ⟨RX3, "openOne", "(LBatonZones$Terms;I)I"⟩
abbrev cX3_goOnWithNumber : ByteArray := prog_5_method_8_code
def yX3_goOnWithNumber : MethodName := ⟨RX3, "goOnWithNumber", "(LBatonZones$Tokens;LBatonZones$Terms;)I"⟩
abbrev cX3_closeCurly : ByteArray := prog_5_method_9_code
def yX3_closeCurly : MethodName := ⟨RX3, "closeCurly", "(LBatonZones$Terms;)I"⟩
abbrev cX3_goOnWithTruth : ByteArray := prog_5_method_10_code
def yX3_goOnWithTruth : MethodName := ⟨RX3, "goOnWithTruth", "(LBatonZones$Tokens;LBatonZones$Terms;)I"⟩
abbrev cX3_join : ByteArray := prog_5_method_11_code
def yX3_join : MethodName := ⟨RX3, "join", "(LBatonZones$Terms;II)I"⟩
abbrev cX3_push : ByteArray := prog_5_method_12_code
def yX3_push : MethodName := ⟨RX3, "push", "(LBatonZones$Terms;I)V"⟩
abbrev cX3_reduce : ByteArray := prog_5_method_13_code
def yX3_reduce : MethodName := ⟨RX3, "reduce", "(LBatonZones$Terms;I)V"⟩
abbrev cX4_init : ByteArray := prog_6_method_1_code
def yX4_init : MethodName := ⟨RX4, "<init>", "()V"⟩
abbrev cX4_factNow : ByteArray := prog_6_method_2_code
def yX4_factNow : MethodName := ⟨RX4, "factNow", "(I)I"⟩
abbrev cX4_lookAt : ByteArray := prog_6_method_3_code
def yX4_lookAt : MethodName := ⟨RX4, "lookAt", "(LBatonZones$Book;I)V"⟩
abbrev cX4_look : ByteArray := prog_6_method_4_code
def yX4_look : MethodName := ⟨RX4, "look", "(LBatonZones$Book;IIIJ)V"⟩
abbrev cX4_isSo : ByteArray := prog_6_method_5_code
def yX4_isSo : MethodName := ⟨RX4, "isSo", "(LBatonZones$Terms;II)Z"⟩
abbrev cX4_work : ByteArray := prog_6_method_6_code
def yX4_work : MethodName := ⟨RX4, "work", "(LBatonZones$Terms;I)J"⟩
abbrev cX4_reckon : ByteArray := prog_6_method_7_code
def yX4_reckon : MethodName := ⟨RX4, "reckon", "(IJJ)J"⟩
abbrev cX4_within32 : ByteArray := prog_6_method_8_code
def yX4_within32 : MethodName := ⟨RX4, "within32", "(J)J"⟩
abbrev cX4_reason : ByteArray := prog_6_method_9_code
def yX4_reason : MethodName := ⟨RX4, "reason", "(LBatonZones$Terms;III)I"⟩
abbrev cX4_choose : ByteArray := prog_6_method_10_code
def yX4_choose : MethodName := ⟨RX4, "choose", "(LBatonZones$Terms;II)V"⟩
abbrev cX4_pick : ByteArray := prog_6_method_11_code
def yX4_pick : MethodName := ⟨RX4, "pick", "(IZ)V"⟩
abbrev cX4_weigh : ByteArray := prog_6_method_12_code
def yX4_weigh : MethodName := ⟨RX4, "weigh", "(LBatonZones$Terms;I)I"⟩
abbrev cX4_isOfBoth : ByteArray := prog_6_method_13_code
def yX4_isOfBoth : MethodName := ⟨RX4, "isOfBoth", "(II)Z"⟩
abbrev cX4_isLeftEnough : ByteArray := prog_6_method_14_code
def yX4_isLeftEnough : MethodName := ⟨RX4, "isLeftEnough", "(LBatonZones$Terms;I)Z"⟩
abbrev cX4_rulesStriking : ByteArray := prog_6_method_15_code
def yX4_rulesStriking : MethodName := ⟨RX4, "rulesStriking", "(LBatonZones$Book;IIIJ)I"⟩
abbrev cX4_tally : ByteArray := prog_6_method_16_code
def yX4_tally : MethodName := ⟨RX4, "tally", "(LBatonZones$Book;IZI)I"⟩
abbrev cX4_fewestWaived : ByteArray := prog_6_method_17_code
def yX4_fewestWaived : MethodName := ⟨RX4, "fewestWaived", "(LBatonZones$Book;I)I"⟩
abbrev cX4_isUnstruck : ByteArray := prog_6_method_18_code
def yX4_isUnstruck : MethodName := ⟨RX4, "isUnstruck", "(LBatonZones$Book;IJ)Z"⟩
abbrev cX5_init : ByteArray := prog_7_method_1_code
def yX5_init : MethodName := ⟨RX5, "<init>", "()V"⟩
abbrev cX5_kthAt : ByteArray := prog_7_method_2_code
def yX5_kthAt : MethodName := ⟨RX5, "kthAt", "(LBatonZones$Book;II)I"⟩
abbrev cX5_lastTenth : ByteArray := prog_7_method_3_code
def yX5_lastTenth : MethodName := ⟨RX5, "lastTenth", "(LBatonZones$Book;)I"⟩
abbrev cX5_boldestTenth : ByteArray := prog_7_method_4_code
def yX5_boldestTenth : MethodName := ⟨RX5, "boldestTenth", "(LBatonZones$Book;I)I"⟩
abbrev cX5_leadAt : ByteArray := prog_7_method_5_code
def yX5_leadAt : MethodName := ⟨RX5, "leadAt", "(LBatonZones$Book;II)I"⟩
abbrev cX5_leadChanges : ByteArray := prog_7_method_6_code
def yX5_leadChanges : MethodName := ⟨RX5, "leadChanges", "(LBatonZones$Book;II)I"⟩
abbrev cX5_kthToCut : ByteArray := prog_7_method_7_code
def yX5_kthToCut : MethodName := ⟨RX5, "kthToCut", "(LBatonZones$Book;I)I"⟩
abbrev cX5_laterToLine : ByteArray := prog_7_method_8_code
def yX5_laterToLine : MethodName := ⟨RX5, "laterToLine", "(LBatonZones$Book;II)I"⟩
abbrev cX5_mostWithin : ByteArray := prog_7_method_9_code
def yX5_mostWithin : MethodName := ⟨RX5, "mostWithin", "(LBatonZones$Book;II)I"⟩
abbrev cX5_fastestOf : ByteArray := prog_7_method_10_code
def yX5_fastestOf : MethodName := ⟨RX5, "fastestOf", "(LBatonZones$Book;I)I"⟩
abbrev cX5_sumOf : ByteArray := prog_7_method_11_code
def yX5_sumOf : MethodName := ⟨RX5, "sumOf", "(LBatonZones$Book;I)I"⟩
abbrev cX6_init : ByteArray := prog_8_method_1_code
def yX6_init : MethodName := ⟨RX6, "<init>", "()V"⟩
abbrev cX6_read : ByteArray := prog_8_method_2_code
def yX6_read : MethodName := ⟨RX6, "read", "([IILBatonZones$Book;)I"⟩
abbrev cX6_fail : ByteArray := prog_8_method_3_code
def yX6_fail : MethodName := ⟨RX6, "fail", "(I)Z"⟩
abbrev cX6_takeSign : ByteArray := prog_8_method_4_code
def yX6_takeSign : MethodName := ⟨RX6, "takeSign", "(C)Z"⟩
abbrev cX6_takeWord : ByteArray := prog_8_method_5_code
def yX6_takeWord : MethodName := ⟨RX6, "takeWord", "(Ljava/lang/String;I)Z"⟩
abbrev cX6_takeNumber : ByteArray := prog_8_method_6_code
def yX6_takeNumber : MethodName := ⟨RX6, "takeNumber", "(II)Z"⟩
abbrev cX6_readTrack : ByteArray := prog_8_method_7_code
def yX6_readTrack : MethodName := ⟨RX6, "readTrack", "(LBatonZones$Book;)Z"⟩
abbrev cX6_readTeam : ByteArray := prog_8_method_8_code
def yX6_readTeam : MethodName := ⟨RX6, "readTeam", "(LBatonZones$Book;)Z"⟩
abbrev cX6_takeTeam : ByteArray := prog_8_method_9_code
def yX6_takeTeam : MethodName := ⟨RX6, "takeTeam", "(LBatonZones$Book;I)I"⟩
abbrev cX6_readRuns : ByteArray := prog_8_method_10_code
def yX6_readRuns : MethodName := ⟨RX6, "readRuns", "(LBatonZones$Book;)Z"⟩
abbrev cX6_readAct : ByteArray := prog_8_method_11_code
def yX6_readAct : MethodName := ⟨RX6, "readAct", "(LBatonZones$Book;)Z"⟩
abbrev cX6_readRule : ByteArray := prog_8_method_12_code
def yX6_readRule : MethodName := ⟨RX6, "readRule", "(LBatonZones$Book;)Z"⟩
abbrev cX6_readThrough : ByteArray := prog_8_method_13_code
def yX6_readThrough : MethodName := ⟨RX6, "readThrough", "(LBatonZones$Book;)Z"⟩
abbrev cX6_readWithin : ByteArray := prog_8_method_14_code
def yX6_readWithin : MethodName := ⟨RX6, "readWithin", "(LBatonZones$Book;)Z"⟩
abbrev cX7_init : ByteArray := prog_9_method_1_code
def yX7_init : MethodName := ⟨RX7, "<init>", "()V"⟩
abbrev cX7_addLeg : ByteArray := prog_9_method_2_code
def yX7_addLeg : MethodName := ⟨RX7, "addLeg", "(II)V"⟩
abbrev cX7_setLeg : ByteArray := prog_9_method_3_code
def yX7_setLeg : MethodName := ⟨RX7, "setLeg", "(III)V"⟩
abbrev cX7_settle : ByteArray := prog_9_method_4_code
def yX7_settle : MethodName := ⟨RX7, "settle", "(I)V"⟩
abbrev cX7_tenthsOf : ByteArray := prog_9_method_5_code
def yX7_tenthsOf : MethodName := ⟨RX7, "tenthsOf", "(I)I"⟩
abbrev cX7_metresOf : ByteArray := prog_9_method_6_code
def yX7_metresOf : MethodName := ⟨RX7, "metresOf", "(I)I"⟩
abbrev cX7_endOf : ByteArray := prog_9_method_7_code
def yX7_endOf : MethodName := ⟨RX7, "endOf", "(I)I"⟩
abbrev cX7_passOf : ByteArray := prog_9_method_8_code
def yX7_passOf : MethodName := ⟨RX7, "passOf", "(I)I"⟩
abbrev cX7_time : ByteArray := prog_9_method_9_code
def yX7_time : MethodName := ⟨RX7, "time", "()I"⟩
abbrev cX7_legAt : ByteArray := prog_9_method_10_code
def yX7_legAt : MethodName := ⟨RX7, "legAt", "(I)I"⟩
abbrev cX7_whereAt : ByteArray := prog_9_method_11_code
def yX7_whereAt : MethodName := ⟨RX7, "whereAt", "(I)I"⟩
abbrev cX7_arrival : ByteArray := prog_9_method_12_code
def yX7_arrival : MethodName := ⟨RX7, "arrival", "(I)I"⟩
abbrev cX8_init : ByteArray := prog_10_method_1_code
def yX8_init : MethodName := ⟨RX8, "<init>", "()V"⟩
abbrev cX8_condition : ByteArray := prog_10_method_2_code
def yX8_condition : MethodName := ⟨RX8, "condition", "(II)I"⟩
abbrev cX8_clear : ByteArray := prog_10_method_3_code
def yX8_clear : MethodName := ⟨RX8, "clear", "()V"⟩
abbrev cX8_begin : ByteArray := prog_10_method_4_code
def yX8_begin : MethodName := ⟨RX8, "begin", "(I)V"⟩
abbrev cX8_finish : ByteArray := prog_10_method_5_code
def yX8_finish : MethodName := ⟨RX8, "finish", "()V"⟩
abbrev cX8_put : ByteArray := prog_10_method_6_code
def yX8_put : MethodName := ⟨RX8, "put", "(III)V"⟩
abbrev cX8_isComparison : ByteArray := prog_10_method_7_code
def yX8_isComparison : MethodName := ⟨RX8, "isComparison", "(I)Z"⟩
abbrev cX8_isTold : ByteArray := prog_10_method_8_code
def yX8_isTold : MethodName := ⟨RX8, "isTold", "(II)Z"⟩
abbrev cX8_comparisonsOf : ByteArray := prog_10_method_9_code
def yX8_comparisonsOf : MethodName := ⟨RX8, "comparisonsOf", "(II)I"⟩
abbrev cX8_fromOf : ByteArray := prog_10_method_10_code
def yX8_fromOf : MethodName := ⟨RX8, "fromOf", "(II)I"⟩
abbrev cX8_toOf : ByteArray := prog_10_method_11_code
def yX8_toOf : MethodName := ⟨RX8, "toOf", "(II)I"⟩
abbrev cX8_opAt : ByteArray := prog_10_method_12_code
def yX8_opAt : MethodName := ⟨RX8, "opAt", "(I)I"⟩
abbrev cX8_numberAt : ByteArray := prog_10_method_13_code
def yX8_numberAt : MethodName := ⟨RX8, "numberAt", "(I)I"⟩
abbrev cX8_leftOf : ByteArray := prog_10_method_14_code
def yX8_leftOf : MethodName := ⟨RX8, "leftOf", "(I)I"⟩
abbrev cX9_init : ByteArray := prog_11_method_1_code
def yX9_init : MethodName := ⟨RX9, "<init>", "()V"⟩
abbrev cX9_open : ByteArray := prog_11_method_2_code
def yX9_open : MethodName := ⟨RX9, "open", "([II)V"⟩
abbrev cX9_byteAt : ByteArray := prog_11_method_3_code
def yX9_byteAt : MethodName := ⟨RX9, "byteAt", "(I)I"⟩
abbrev cX9_advance : ByteArray := prog_11_method_4_code
def yX9_advance : MethodName := ⟨RX9, "advance", "()V"⟩
abbrev cX9_isLetter : ByteArray := prog_11_method_5_code
def yX9_isLetter : MethodName := ⟨RX9, "isLetter", "(I)Z"⟩
abbrev cX9_isDigit : ByteArray := prog_11_method_6_code
def yX9_isDigit : MethodName := ⟨RX9, "isDigit", "(I)Z"⟩
abbrev cX9_takeWord : ByteArray := prog_11_method_7_code
def yX9_takeWord : MethodName := ⟨RX9, "takeWord", "()V"⟩
abbrev cX9_takeNumber : ByteArray := prog_11_method_8_code
def yX9_takeNumber : MethodName := ⟨RX9, "takeNumber", "()V"⟩
abbrev cX9_indexIn : ByteArray := prog_11_method_9_code
def yX9_indexIn : MethodName := ⟨RX9, "indexIn", "(Ljava/lang/String;)I"⟩
abbrev cX9_packed : ByteArray := prog_11_method_10_code
def yX9_packed : MethodName := ⟨RX9, "packed", "(Ljava/lang/String;I)J"⟩
abbrev cX9_isName : ByteArray := prog_11_method_11_code
def yX9_isName : MethodName := ⟨RX9, "isName", "()Z"⟩
abbrev cX9_letter : ByteArray := prog_11_method_12_code
def yX9_letter : MethodName := ⟨RX9, "letter", "(JI)I"⟩
abbrev cX10_init : ByteArray := prog_12_method_1_code
def yX10_init : MethodName := ⟨RX10, "<init>", "()V"⟩
abbrev cX10_decide : ByteArray := prog_12_method_2_code
def yX10_decide : MethodName := ⟨RX10, "decide", "(LBatonZones$Book;LBatonZones$Judge;J)V"⟩
abbrev cX10_strike : ByteArray := prog_12_method_3_code
def yX10_strike : MethodName := ⟨RX10, "strike", "(LBatonZones$Act;)V"⟩
abbrev cX10_decideThrough : ByteArray := prog_12_method_4_code
def yX10_decideThrough : MethodName := ⟨RX10, "decideThrough", "(LBatonZones$Book;)V"⟩
abbrev cX10_isIn : ByteArray := prog_12_method_5_code
def yX10_isIn : MethodName := ⟨RX10, "isIn", "(I)Z"⟩
abbrev cX10_rankOf : ByteArray := prog_12_method_6_code
def yX10_rankOf : MethodName := ⟨RX10, "rankOf", "([II)I"⟩
abbrev cX10_rankByTime : ByteArray := prog_12_method_7_code
def yX10_rankByTime : MethodName := ⟨RX10, "rankByTime", "(I)I"⟩
abbrev cX10_rankByWould : ByteArray := prog_12_method_8_code
def yX10_rankByWould : MethodName := ⟨RX10, "rankByWould", "(I)I"⟩
abbrev cX10_wouldOf : ByteArray := prog_12_method_9_code
def yX10_wouldOf : MethodName := ⟨RX10, "wouldOf", "(I)I"⟩
abbrev cX10_kthOfResult : ByteArray := prog_12_method_10_code
def yX10_kthOfResult : MethodName := ⟨RX10, "kthOfResult", "(LBatonZones$Book;I)I"⟩
abbrev cX10_isRunAgain : ByteArray := prog_12_method_11_code
def yX10_isRunAgain : MethodName := ⟨RX10, "isRunAgain", "()Z"⟩
abbrev cX10_rulesStriking : ByteArray := prog_12_method_12_code
def yX10_rulesStriking : MethodName := ⟨RX10, "rulesStriking", "(I)I"⟩
abbrev cX10_firstRuleStriking : ByteArray := prog_12_method_13_code
def yX10_firstRuleStriking : MethodName := ⟨RX10, "firstRuleStriking", "(I)I"⟩
abbrev cX10_firstStruckAct : ByteArray := prog_12_method_14_code
def yX10_firstStruckAct : MethodName := ⟨RX10, "firstStruckAct", "(LBatonZones$Book;I)I"⟩
abbrev cX10_struckActs : ByteArray := prog_12_method_15_code
def yX10_struckActs : MethodName := ⟨RX10, "struckActs", "(LBatonZones$Book;I)I"⟩
abbrev cX10_impedersOf : ByteArray := prog_12_method_16_code
def yX10_impedersOf : MethodName := ⟨RX10, "impedersOf", "(LBatonZones$Book;I)I"⟩
abbrev cX11_init : ByteArray := prog_1_method_1_code
def yX11_init : MethodName := ⟨RX11, "<init>", "()V"⟩
abbrev cX11_feed : ByteArray := prog_1_method_2_code
def yX11_feed : MethodName := ⟨RX11, "feed", "(IIIII)I"⟩
abbrev cX11_feedNumber : ByteArray := prog_1_method_3_code
def yX11_feedNumber : MethodName := ⟨RX11, "feedNumber", "(I)V"⟩
abbrev cX11_end : ByteArray := prog_1_method_4_code
def yX11_end : MethodName := ⟨RX11, "end", "(I)I"⟩
abbrev cX11_book : ByteArray := prog_1_method_5_code
def yX11_book : MethodName := ⟨RX11, "book", "()I"⟩
abbrev cX11_settleAll : ByteArray := prog_1_method_6_code
def yX11_settleAll : MethodName := ⟨RX11, "settleAll", "()V"⟩
abbrev cX11_fault : ByteArray := prog_1_method_7_code
def yX11_fault : MethodName := ⟨RX11, "fault", "(I)I"⟩
abbrev cX11_about : ByteArray := prog_1_method_8_code
def yX11_about : MethodName := ⟨RX11, "about", "(I)I"⟩
abbrev cX11_name : ByteArray := prog_1_method_9_code
def yX11_name : MethodName := ⟨RX11, "name", "(III)I"⟩
abbrev cX11_team : ByteArray := prog_1_method_10_code
def yX11_team : MethodName := ⟨RX11, "team", "(II)I"⟩
abbrev cX11_lane : ByteArray := prog_1_method_11_code
def yX11_lane : MethodName := ⟨RX11, "lane", "(I)I"⟩
abbrev cX11_isTenth : ByteArray := prog_1_method_12_code
def yX11_isTenth : MethodName := ⟨RX11, "isTenth", "(I)Z"⟩
abbrev cX11_place : ByteArray := prog_1_method_13_code
def yX11_place : MethodName := ⟨RX11, "place", "(II)I"⟩
abbrev cX11_comes : ByteArray := prog_1_method_14_code
def yX11_comes : MethodName := ⟨RX11, "comes", "(II)I"⟩
abbrev cX11_order : ByteArray := prog_1_method_15_code
def yX11_order : MethodName := ⟨RX11, "order", "(II)I"⟩
abbrev cX11_boldest : ByteArray := prog_1_method_16_code
def yX11_boldest : MethodName := ⟨RX11, "boldest", "(I)I"⟩
abbrev cX11_changes : ByteArray := prog_1_method_17_code
def yX11_changes : MethodName := ⟨RX11, "changes", "(II)I"⟩
abbrev cX11_cutIn : ByteArray := prog_1_method_18_code
def yX11_cutIn : MethodName := ⟨RX11, "cutIn", "(I)I"⟩
abbrev cX11_behind : ByteArray := prog_1_method_19_code
def yX11_behind : MethodName := ⟨RX11, "behind", "(II)I"⟩
abbrev cX11_crowd : ByteArray := prog_1_method_20_code
def yX11_crowd : MethodName := ⟨RX11, "crowd", "(II)I"⟩
abbrev cX11_fastest : ByteArray := prog_1_method_21_code
def yX11_fastest : MethodName := ⟨RX11, "fastest", "(II)I"⟩
abbrev cX11_leg : ByteArray := prog_1_method_22_code
def yX11_leg : MethodName := ⟨RX11, "leg", "(III)I"⟩
abbrev cX11_inBox : ByteArray := prog_1_method_23_code
def yX11_inBox : MethodName := ⟨RX11, "inBox", "(II)I"⟩
abbrev cX11_act : ByteArray := prog_1_method_24_code
def yX11_act : MethodName := ⟨RX11, "act", "(II)I"⟩
abbrev cX11_fact : ByteArray := prog_1_method_25_code
def yX11_fact : MethodName := ⟨RX11, "fact", "(II)I"⟩
abbrev cX11_rule : ByteArray := prog_1_method_26_code
def yX11_rule : MethodName := ⟨RX11, "rule", "(II)I"⟩
abbrev cX11_canHold : ByteArray := prog_1_method_27_code
def yX11_canHold : MethodName := ⟨RX11, "canHold", "(III)Z"⟩
abbrev cX11_holds : ByteArray := prog_1_method_28_code
def yX11_holds : MethodName := ⟨RX11, "holds", "(III)I"⟩
abbrev cX11_why : ByteArray := prog_1_method_29_code
def yX11_why : MethodName := ⟨RX11, "why", "(IIII)I"⟩
abbrev cX11_struckBy : ByteArray := prog_1_method_30_code
def yX11_struckBy : MethodName := ⟨RX11, "struckBy", "(II)I"⟩
abbrev cX11_clean : ByteArray := prog_1_method_31_code
def yX11_clean : MethodName := ⟨RX11, "clean", "(II)I"⟩
abbrev cX11_free : ByteArray := prog_1_method_32_code
def yX11_free : MethodName := ⟨RX11, "free", "(II)I"⟩
abbrev cX11_struck : ByteArray := prog_1_method_33_code
def yX11_struck : MethodName := ⟨RX11, "struck", "(II)I"⟩
abbrev cX11_rank : ByteArray := prog_1_method_34_code
def yX11_rank : MethodName := ⟨RX11, "rank", "(I)I"⟩
abbrev cX11_result : ByteArray := prog_1_method_35_code
def yX11_result : MethodName := ⟨RX11, "result", "(I)I"⟩
abbrev cX11_who : ByteArray := prog_1_method_36_code
def yX11_who : MethodName := ⟨RX11, "who", "(I)I"⟩
abbrev cX11_would : ByteArray := prog_1_method_37_code
def yX11_would : MethodName := ⟨RX11, "would", "(I)I"⟩
abbrev cX11_fairRank : ByteArray := prog_1_method_38_code
def yX11_fairRank : MethodName := ⟨RX11, "fairRank", "(I)I"⟩
abbrev cX11_margin : ByteArray := prog_1_method_39_code
def yX11_margin : MethodName := ⟨RX11, "margin", "(I)I"⟩
abbrev cX11_impeders : ByteArray := prog_1_method_40_code
def yX11_impeders : MethodName := ⟨RX11, "impeders", "(I)I"⟩
abbrev cX11_again : ByteArray := prog_1_method_41_code
def yX11_again : MethodName := ⟨RX11, "again", "()I"⟩
abbrev cX11_winner : ByteArray := prog_1_method_42_code
def yX11_winner : MethodName := ⟨RX11, "winner", "(I)I"⟩
abbrev cX11_stays : ByteArray := prog_1_method_43_code
def yX11_stays : MethodName := ⟨RX11, "stays", "(II)I"⟩
abbrev cX11_appeal : ByteArray := prog_1_method_44_code
def yX11_appeal : MethodName := ⟨RX11, "appeal", "(III)I"⟩
abbrev cX11_waive : ByteArray := prog_1_method_45_code
def yX11_waive : MethodName := ⟨RX11, "waive", "(I)I"⟩
abbrev cX11_measure : ByteArray := prog_1_method_46_code
def yX11_measure : MethodName := ⟨RX11, "measure", "(IIII)I"⟩
abbrev cX11_undo : ByteArray := prog_1_method_47_code
def yX11_undo : MethodName := ⟨RX11, "undo", "()I"⟩
abbrev cX11_at : ByteArray := prog_1_method_48_code
def yX11_at : MethodName := ⟨RX11, "at", "([II)I"⟩
abbrev cX11_longAt : ByteArray := prog_1_method_49_code
def yX11_longAt : MethodName := ⟨RX11, "longAt", "([JI)J"⟩
abbrev cX12_init : ByteArray := prog_14_method_1_code
def yX12_init : MethodName := ⟨RX12, "<init>", "()V"⟩
abbrev cX12_isIn : ByteArray := prog_14_method_2_code
def yX12_isIn : MethodName := ⟨RX12, "isIn", "(JJJ)Z"⟩
abbrev cX12_truth : ByteArray := prog_14_method_3_code
def yX12_truth : MethodName := ⟨RX12, "truth", "(Z)I"⟩
abbrev cX12_holds1 : ByteArray := prog_14_method_4_code
def yX12_holds1 : MethodName := ⟨RX12, "holds1", "(II)Z"⟩
abbrev cX12_feed : ByteArray := prog_14_method_5_code
def yX12_feed : MethodName := ⟨RX12, "feed", "(IIIII)I"⟩
abbrev cX12_four : ByteArray := prog_14_method_6_code
def yX12_four : MethodName := ⟨RX12, "four", "(I)V"⟩
abbrev cX12_end : ByteArray := prog_14_method_7_code
def yX12_end : MethodName := ⟨RX12, "end", "(I)I"⟩
abbrev cX12_here : ByteArray := prog_14_method_8_code
def yX12_here : MethodName := ⟨RX12, "here", "(I)I"⟩
abbrev cX12_isLetter : ByteArray := prog_14_method_9_code
def yX12_isLetter : MethodName := ⟨RX12, "isLetter", "(I)Z"⟩
abbrev cX12_isDigit : ByteArray := prog_14_method_10_code
def yX12_isDigit : MethodName := ⟨RX12, "isDigit", "(I)Z"⟩
abbrev cX12_isSign : ByteArray := prog_14_method_11_code
def yX12_isSign : MethodName := ⟨RX12, "isSign", "(I)Z"⟩
abbrev cX12_goOn : ByteArray := prog_14_method_12_code
def yX12_goOn : MethodName := ⟨RX12, "goOn", "()V"⟩
abbrev cX12_wrong : ByteArray := prog_14_method_13_code
def yX12_wrong : MethodName := ⟨RX12, "wrong", "(I)V"⟩
abbrev cX12_isGood : ByteArray := prog_14_method_14_code
def yX12_isGood : MethodName := ⟨RX12, "isGood", "()Z"⟩
abbrev cX12_isWord : ByteArray := prog_14_method_15_code
def yX12_isWord : MethodName := ⟨RX12, "isWord", "(J)Z"⟩
abbrev cX12_isSignHere : ByteArray := prog_14_method_16_code
def yX12_isSignHere : MethodName := ⟨RX12, "isSignHere", "(I)Z"⟩
abbrev cX12_among : ByteArray := prog_14_method_17_code
def yX12_among : MethodName := ⟨RX12, "among", "([JIJ)I"⟩
abbrev cX12_isKept : ByteArray := prog_14_method_18_code
def yX12_isKept : MethodName := ⟨RX12, "isKept", "()Z"⟩
abbrev cX12_must : ByteArray := prog_14_method_19_code
def yX12_must : MethodName := ⟨RX12, "must", "(I)V"⟩
abbrev cX12_number : ByteArray := prog_14_method_20_code
def yX12_number : MethodName := ⟨RX12, "number", "(II)I"⟩
abbrev cX12_emits : ByteArray := prog_14_method_21_code
def yX12_emits : MethodName := ⟨RX12, "emits", "(I)V"⟩
abbrev cX12_waitsFor : ByteArray := prog_14_method_22_code
def yX12_waitsFor : MethodName := ⟨RX12, "waitsFor", "(I)V"⟩
abbrev cX12_top : ByteArray := prog_14_method_23_code
def yX12_top : MethodName := ⟨RX12, "top", "()I"⟩
abbrev cX12_opens : ByteArray := prog_14_method_24_code
def yX12_opens : MethodName := ⟨RX12, "opens", "(I)V"⟩
abbrev cX12_works : ByteArray := prog_14_method_25_code
def yX12_works : MethodName := ⟨RX12, "works", "(II)V"⟩
abbrev cX12_operand : ByteArray := prog_14_method_26_code
def yX12_operand : MethodName := ⟨RX12, "operand", "()V"⟩
abbrev cX12_numberFormula : ByteArray := prog_14_method_27_code
def yX12_numberFormula : MethodName := ⟨RX12, "numberFormula", "()V"⟩
abbrev cX12_closes : ByteArray := prog_14_method_28_code
def yX12_closes : MethodName := ⟨RX12, "closes", "(I)V"⟩
abbrev cX12_comparison : ByteArray := prog_14_method_29_code
def yX12_comparison : MethodName := ⟨RX12, "comparison", "()V"⟩
abbrev cX12_ends : ByteArray := prog_14_method_30_code
def yX12_ends : MethodName := ⟨RX12, "ends", "()V"⟩
abbrev cX12_test : ByteArray := prog_14_method_31_code
def yX12_test : MethodName := ⟨RX12, "test", "()V"⟩
abbrev cX12_freshName : ByteArray := prog_14_method_32_code
def yX12_freshName : MethodName := ⟨RX12, "freshName", "([JI)V"⟩
abbrev cX12_teamHere : ByteArray := prog_14_method_33_code
def yX12_teamHere : MethodName := ⟨RX12, "teamHere", "()I"⟩
abbrev cX12_teamLine : ByteArray := prog_14_method_34_code
def yX12_teamLine : MethodName := ⟨RX12, "teamLine", "()V"⟩
abbrev cX12_runsLine : ByteArray := prog_14_method_35_code
def yX12_runsLine : MethodName := ⟨RX12, "runsLine", "()V"⟩
abbrev cX12_kindHere : ByteArray := prog_14_method_36_code
def yX12_kindHere : MethodName := ⟨RX12, "kindHere", "(I)I"⟩
abbrev cX12_actLine : ByteArray := prog_14_method_37_code
def yX12_actLine : MethodName := ⟨RX12, "actLine", "()V"⟩
abbrev cX12_ruleLine : ByteArray := prog_14_method_38_code
def yX12_ruleLine : MethodName := ⟨RX12, "ruleLine", "()V"⟩
abbrev cX12_once : ByteArray := prog_14_method_39_code
def yX12_once : MethodName := ⟨RX12, "once", "(I)V"⟩
abbrev cX12_line : ByteArray := prog_14_method_40_code
def yX12_line : MethodName := ⟨RX12, "line", "()V"⟩
abbrev cX12_trackLine : ByteArray := prog_14_method_41_code
def yX12_trackLine : MethodName := ⟨RX12, "trackLine", "()V"⟩
abbrev cX12_book : ByteArray := prog_14_method_42_code
def yX12_book : MethodName := ⟨RX12, "book", "()I"⟩
abbrev cX12_takes : ByteArray := prog_14_method_43_code
def yX12_takes : MethodName := ⟨RX12, "takes", "()V"⟩
abbrev cX12_fault : ByteArray := prog_14_method_44_code
def yX12_fault : MethodName := ⟨RX12, "fault", "(I)I"⟩
abbrev cX12_keeps : ByteArray := prog_14_method_45_code
def yX12_keeps : MethodName := ⟨RX12, "keeps", "()V"⟩
abbrev cX12_undo : ByteArray := prog_14_method_46_code
def yX12_undo : MethodName := ⟨RX12, "undo", "()I"⟩
abbrev cX12_isTeam : ByteArray := prog_14_method_47_code
def yX12_isTeam : MethodName := ⟨RX12, "isTeam", "(I)Z"⟩
abbrev cX12_isTenth : ByteArray := prog_14_method_48_code
def yX12_isTenth : MethodName := ⟨RX12, "isTenth", "(I)Z"⟩
abbrev cX12_tenthsOf : ByteArray := prog_14_method_49_code
def yX12_tenthsOf : MethodName := ⟨RX12, "tenthsOf", "(II)I"⟩
abbrev cX12_metresOf : ByteArray := prog_14_method_50_code
def yX12_metresOf : MethodName := ⟨RX12, "metresOf", "(II)I"⟩
abbrev cX12_endPlace : ByteArray := prog_14_method_51_code
def yX12_endPlace : MethodName := ⟨RX12, "endPlace", "(II)I"⟩
abbrev cX12_endTenth : ByteArray := prog_14_method_52_code
def yX12_endTenth : MethodName := ⟨RX12, "endTenth", "(II)I"⟩
abbrev cX12_timeOf : ByteArray := prog_14_method_53_code
def yX12_timeOf : MethodName := ⟨RX12, "timeOf", "(I)I"⟩
abbrev cX12_isWhole : ByteArray := prog_14_method_54_code
def yX12_isWhole : MethodName := ⟨RX12, "isWhole", "(I)Z"⟩
abbrev cX12_legAt : ByteArray := prog_14_method_55_code
def yX12_legAt : MethodName := ⟨RX12, "legAt", "(II)I"⟩
abbrev cX12_placeOf : ByteArray := prog_14_method_56_code
def yX12_placeOf : MethodName := ⟨RX12, "placeOf", "(II)I"⟩
abbrev cX12_about : ByteArray := prog_14_method_57_code
def yX12_about : MethodName := ⟨RX12, "about", "(I)I"⟩
abbrev cX12_name : ByteArray := prog_14_method_58_code
def yX12_name : MethodName := ⟨RX12, "name", "(III)I"⟩
abbrev cX12_team : ByteArray := prog_14_method_59_code
def yX12_team : MethodName := ⟨RX12, "team", "(II)I"⟩
abbrev cX12_lane : ByteArray := prog_14_method_60_code
def yX12_lane : MethodName := ⟨RX12, "lane", "(I)I"⟩
abbrev cX12_place : ByteArray := prog_14_method_61_code
def yX12_place : MethodName := ⟨RX12, "place", "(II)I"⟩
abbrev cX12_comesTo : ByteArray := prog_14_method_62_code
def yX12_comesTo : MethodName := ⟨RX12, "comesTo", "(II)I"⟩
abbrev cX12_comes : ByteArray := prog_14_method_63_code
def yX12_comes : MethodName := ⟨RX12, "comes", "(II)I"⟩
abbrev cX12_keyedAt : ByteArray := prog_14_method_64_code
def yX12_keyedAt : MethodName := ⟨RX12, "keyedAt", "(I)I"⟩
abbrev cX12_order : ByteArray := prog_14_method_65_code
def yX12_order : MethodName := ⟨RX12, "order", "(II)I"⟩
abbrev cX12_boldest : ByteArray := prog_14_method_66_code
def yX12_boldest : MethodName := ⟨RX12, "boldest", "(I)I"⟩
abbrev cX12_changes : ByteArray := prog_14_method_67_code
def yX12_changes : MethodName := ⟨RX12, "changes", "(II)I"⟩
abbrev cX12_cutIn : ByteArray := prog_14_method_68_code
def yX12_cutIn : MethodName := ⟨RX12, "cutIn", "(I)I"⟩
abbrev cX12_behind : ByteArray := prog_14_method_69_code
def yX12_behind : MethodName := ⟨RX12, "behind", "(II)I"⟩
abbrev cX12_crowd : ByteArray := prog_14_method_70_code
def yX12_crowd : MethodName := ⟨RX12, "crowd", "(II)I"⟩
abbrev cX12_fastest : ByteArray := prog_14_method_71_code
def yX12_fastest : MethodName := ⟨RX12, "fastest", "(II)I"⟩
abbrev cX12_inBoxOf : ByteArray := prog_14_method_72_code
def yX12_inBoxOf : MethodName := ⟨RX12, "inBoxOf", "(III)I"⟩
abbrev cX12_leg : ByteArray := prog_14_method_73_code
def yX12_leg : MethodName := ⟨RX12, "leg", "(III)I"⟩
abbrev cX12_inBox : ByteArray := prog_14_method_74_code
def yX12_inBox : MethodName := ⟨RX12, "inBox", "(II)I"⟩
abbrev cX12_boxesOf : ByteArray := prog_14_method_75_code
def yX12_boxesOf : MethodName := ⟨RX12, "boxesOf", "(I)I"⟩
abbrev cX12_allActs : ByteArray := prog_14_method_76_code
def yX12_allActs : MethodName := ⟨RX12, "allActs", "()I"⟩
abbrev cX12_isAct : ByteArray := prog_14_method_77_code
def yX12_isAct : MethodName := ⟨RX12, "isAct", "(I)Z"⟩
abbrev cX12_boxTeam : ByteArray := prog_14_method_78_code
def yX12_boxTeam : MethodName := ⟨RX12, "boxTeam", "(I)I"⟩
abbrev cX12_boxLeg : ByteArray := prog_14_method_79_code
def yX12_boxLeg : MethodName := ⟨RX12, "boxLeg", "(I)I"⟩
abbrev cX12_kindOf : ByteArray := prog_14_method_80_code
def yX12_kindOf : MethodName := ⟨RX12, "kindOf", "(I)I"⟩
abbrev cX12_teamOf : ByteArray := prog_14_method_81_code
def yX12_teamOf : MethodName := ⟨RX12, "teamOf", "(I)I"⟩
abbrev cX12_otherOf : ByteArray := prog_14_method_82_code
def yX12_otherOf : MethodName := ⟨RX12, "otherOf", "(I)I"⟩
abbrev cX12_tenthOf : ByteArray := prog_14_method_83_code
def yX12_tenthOf : MethodName := ⟨RX12, "tenthOf", "(I)I"⟩
abbrev cX12_sizeOf : ByteArray := prog_14_method_84_code
def yX12_sizeOf : MethodName := ⟨RX12, "sizeOf", "(I)I"⟩
abbrev cX12_isWaived : ByteArray := prog_14_method_85_code
def yX12_isWaived : MethodName := ⟨RX12, "isWaived", "(I)Z"⟩
abbrev cX12_isAhead : ByteArray := prog_14_method_86_code
def yX12_isAhead : MethodName := ⟨RX12, "isAhead", "(II)Z"⟩
abbrev cX12_factOf : ByteArray := prog_14_method_87_code
def yX12_factOf : MethodName := ⟨RX12, "factOf", "(II)I"⟩
abbrev cX12_act : ByteArray := prog_14_method_88_code
def yX12_act : MethodName := ⟨RX12, "act", "(II)I"⟩
abbrev cX12_fact : ByteArray := prog_14_method_89_code
def yX12_fact : MethodName := ⟨RX12, "fact", "(II)I"⟩
abbrev cX12_ones : ByteArray := prog_14_method_90_code
def yX12_ones : MethodName := ⟨RX12, "ones", "(J)I"⟩
abbrev cX12_size : ByteArray := prog_14_method_91_code
def yX12_size : MethodName := ⟨RX12, "size", "(I)I"⟩
abbrev cX12_kept : ByteArray := prog_14_method_92_code
def yX12_kept : MethodName := ⟨RX12, "kept", "(J)J"⟩
abbrev cX12_compares : ByteArray := prog_14_method_93_code
def yX12_compares : MethodName := ⟨RX12, "compares", "(I)V"⟩
abbrev cX12_joins : ByteArray := prog_14_method_94_code
def yX12_joins : MethodName := ⟨RX12, "joins", "(Z)V"⟩
abbrev cX12_worked : ByteArray := prog_14_method_95_code
def yX12_worked : MethodName := ⟨RX12, "worked", "(III)Z"⟩
abbrev cX12_hasExcuse : ByteArray := prog_14_method_96_code
def yX12_hasExcuse : MethodName := ⟨RX12, "hasExcuse", "(I)Z"⟩
abbrev cX12_holdsPart : ByteArray := prog_14_method_97_code
def yX12_holdsPart : MethodName := ⟨RX12, "holdsPart", "(III)Z"⟩
abbrev cX12_isRule : ByteArray := prog_14_method_98_code
def yX12_isRule : MethodName := ⟨RX12, "isRule", "(I)Z"⟩
abbrev cX12_isAsked : ByteArray := prog_14_method_99_code
def yX12_isAsked : MethodName := ⟨RX12, "isAsked", "(III)Z"⟩
abbrev cX12_rule : ByteArray := prog_14_method_100_code
def yX12_rule : MethodName := ⟨RX12, "rule", "(II)I"⟩
abbrev cX12_holds : ByteArray := prog_14_method_101_code
def yX12_holds : MethodName := ⟨RX12, "holds", "(III)I"⟩
abbrev cX12_why : ByteArray := prog_14_method_102_code
def yX12_why : MethodName := ⟨RX12, "why", "(IIII)I"⟩
abbrev cX12_isStruck : ByteArray := prog_14_method_103_code
def yX12_isStruck : MethodName := ⟨RX12, "isStruck", "(II)Z"⟩
abbrev cX12_struckBy : ByteArray := prog_14_method_104_code
def yX12_struckBy : MethodName := ⟨RX12, "struckBy", "(II)I"⟩
abbrev cX12_firstRule : ByteArray := prog_14_method_105_code
def yX12_firstRule : MethodName := ⟨RX12, "firstRule", "(I)I"⟩
abbrev cX12_without : ByteArray := prog_14_method_106_code
def yX12_without : MethodName := ⟨RX12, "without", "(IIII)I"⟩
abbrev cX12_clean : ByteArray := prog_14_method_107_code
def yX12_clean : MethodName := ⟨RX12, "clean", "(II)I"⟩
abbrev cX12_free : ByteArray := prog_14_method_108_code
def yX12_free : MethodName := ⟨RX12, "free", "(II)I"⟩
abbrev cX12_laysStruck : ByteArray := prog_14_method_109_code
def yX12_laysStruck : MethodName := ⟨RX12, "laysStruck", "()V"⟩
abbrev cX12_struck : ByteArray := prog_14_method_110_code
def yX12_struck : MethodName := ⟨RX12, "struck", "(II)I"⟩
abbrev cX12_isInResult : ByteArray := prog_14_method_111_code
def yX12_isInResult : MethodName := ⟨RX12, "isInResult", "(I)Z"⟩
abbrev cX12_rankOf : ByteArray := prog_14_method_112_code
def yX12_rankOf : MethodName := ⟨RX12, "rankOf", "(I)I"⟩
abbrev cX12_rank : ByteArray := prog_14_method_113_code
def yX12_rank : MethodName := ⟨RX12, "rank", "(I)I"⟩
abbrev cX12_fairRank : ByteArray := prog_14_method_114_code
def yX12_fairRank : MethodName := ⟨RX12, "fairRank", "(I)I"⟩
abbrev cX12_margin : ByteArray := prog_14_method_115_code
def yX12_margin : MethodName := ⟨RX12, "margin", "(I)I"⟩
abbrev cX12_impeders : ByteArray := prog_14_method_116_code
def yX12_impeders : MethodName := ⟨RX12, "impeders", "(I)I"⟩
abbrev cX12_resultAt : ByteArray := prog_14_method_117_code
def yX12_resultAt : MethodName := ⟨RX12, "resultAt", "(I)I"⟩
abbrev cX12_result : ByteArray := prog_14_method_118_code
def yX12_result : MethodName := ⟨RX12, "result", "(I)I"⟩
abbrev cX12_isThrough : ByteArray := prog_14_method_119_code
def yX12_isThrough : MethodName := ⟨RX12, "isThrough", "(I)Z"⟩
abbrev cX12_besides : ByteArray := prog_14_method_120_code
def yX12_besides : MethodName := ⟨RX12, "besides", "()I"⟩
abbrev cX12_who : ByteArray := prog_14_method_121_code
def yX12_who : MethodName := ⟨RX12, "who", "(I)I"⟩
abbrev cX12_would : ByteArray := prog_14_method_122_code
def yX12_would : MethodName := ⟨RX12, "would", "(I)I"⟩
abbrev cX12_again : ByteArray := prog_14_method_123_code
def yX12_again : MethodName := ⟨RX12, "again", "()I"⟩
abbrev cX12_winner : ByteArray := prog_14_method_124_code
def yX12_winner : MethodName := ⟨RX12, "winner", "(I)I"⟩
abbrev cX12_isClean : ByteArray := prog_14_method_125_code
def yX12_isClean : MethodName := ⟨RX12, "isClean", "(I)Z"⟩
abbrev cX12_stays : ByteArray := prog_14_method_126_code
def yX12_stays : MethodName := ⟨RX12, "stays", "(II)I"⟩
abbrev cX12_appeal : ByteArray := prog_14_method_127_code
def yX12_appeal : MethodName := ⟨RX12, "appeal", "(III)I"⟩
abbrev cX12_waive : ByteArray := prog_14_method_128_code
def yX12_waive : MethodName := ⟨RX12, "waive", "(I)I"⟩
abbrev cX12_measure : ByteArray := prog_14_method_129_code
def yX12_measure : MethodName := ⟨RX12, "measure", "(IIII)I"⟩
def RJx145de : String := "java/io/Serializable"
def RJx9f9b0 : String := "java/lang/CharSequence"
def RJ11 : String := "java/lang/Character"
def RJxb160c : String := "java/lang/Comparable"
def RJ6 : String := "java/lang/Integer"
abbrev cJ6_bitCount_0f7a4 : ByteArray := prog_16_method_49_code
def yJ6_bitCount_0f7a4 : MethodName := ⟨RJ6, "bitCount", "(I)I"⟩
def RJ13 : String := "java/lang/Long"
abbrev cJ13_bitCount_95d88 : ByteArray := prog_17_method_50_code
def yJ13_bitCount_95d88 : MethodName := ⟨RJ13, "bitCount", "(J)I"⟩
def RJ9 : String := "java/lang/Math"
def RJ0 : String := "java/lang/String"
abbrev cJ0_length_8abf5 : ByteArray := prog_19_method_54_code
def yJ0_length_8abf5 : MethodName := ⟨RJ0, "length", "()I"⟩
abbrev cJ0_charAt_5068e : ByteArray := prog_19_method_56_code
def yJ0_charAt_5068e : MethodName := ⟨RJ0, "charAt", "(I)C"⟩
abbrev cJ0_indexOf_0f7a4 : ByteArray := prog_19_method_79_code
def yJ0_indexOf_0f7a4 : MethodName := ⟨RJ0, "indexOf", "(I)I"⟩
abbrev cJ0_indexOf_7cf53 : ByteArray := prog_19_method_80_code
def yJ0_indexOf_7cf53 : MethodName := ⟨RJ0, "indexOf", "(II)I"⟩
abbrev cJ0_coder_7d493 : ByteArray := prog_19_method_152_code
def yJ0_coder_7d493 : MethodName := ⟨RJ0, "coder", "()B"⟩
abbrev cJ0_isLatin1_aae02 : ByteArray := prog_19_method_154_code
def yJ0_isLatin1_aae02 : MethodName := ⟨RJ0, "isLatin1", "()Z"⟩
abbrev cJ0_checkIndex_df160 : ByteArray := prog_19_method_155_code
def yJ0_checkIndex_df160 : MethodName := ⟨RJ0, "checkIndex", "(II)V"⟩
def RJ1 : String := "java/lang/StringLatin1"
abbrev cJ1_charAt_3b067 : ByteArray := prog_20_method_2_code
def yJ1_charAt_3b067 : MethodName := ⟨RJ1, "charAt", "([BI)C"⟩
abbrev cJ1_canEncode_9a6ad : ByteArray := prog_20_method_4_code
def yJ1_canEncode_9a6ad : MethodName := ⟨RJ1, "canEncode", "(I)Z"⟩
abbrev cJ1_indexOf_4cfef : ByteArray := prog_20_method_22_code
def yJ1_indexOf_4cfef : MethodName := ⟨RJ1, "indexOf", "([BIII)I"⟩
abbrev cJ1_indexOfChar_4cfef : ByteArray := prog_20_method_23_code
def yJ1_indexOfChar_4cfef : MethodName := ⟨RJ1, "indexOfChar", "([BIII)I"⟩
def RJ2 : String := "java/lang/StringUTF16"
def RJxfd54e : String := "java/lang/constant/Constable"
def RJx3cf43 : String := "java/lang/constant/ConstantDesc"
def RJ7 : String := "java/util/Arrays"
abbrev cJ7_fill_d0a16 : ByteArray := prog_22_method_101_code
def yJ7_fill_d0a16 : MethodName := ⟨RJ7, "fill", "([JJ)V"⟩
abbrev cJ7_fill_53178 : ByteArray := prog_22_method_103_code
def yJ7_fill_53178 : MethodName := ⟨RJ7, "fill", "([II)V"⟩
def RJ3 : String := "jdk/internal/util/Preconditions"
abbrev cJ3_checkIndex_8e157 : ByteArray := prog_23_method_11_code
def yJ3_checkIndex_8e157 : MethodName := ⟨RJ3, "checkIndex", "(IILjava/util/function/BiFunction;)I"⟩
