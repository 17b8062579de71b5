section
-- ===== PART A: goes FIRST, ahead of the names: the tables' words, and 'selects' of the private methods out of them =====
/-- a private method of a class that the tables say can be made, by its rows of tables_1 -/
def lw_okq (q : MethodName × Nat) : Prop := (q.1.cls ≠ "java/lang/invoke/MethodHandle" ∧ q.1.cls ≠ "java/lang/invoke/VarHandle") ∧ Cond.instantiable q.1.cls q.2 ∈ tables_1 ∧ Cond.privateMethod q.1 ∈ tables_1 ∧ Cond.instanceMethod q.1 ∈ tables_1
theorem lw_p0 : lw_okq (⟨"TwoHeads$Lands", "measure", "()V"⟩, 8) := ⟨⟨by decide +kernel, by decide +kernel⟩, List.mem_of_getElem? (i := 31) (by decide +kernel), List.mem_of_getElem? (i := 42) (by decide +kernel), List.mem_of_getElem? (i := 43) (by decide +kernel)⟩
theorem lw_p1 : lw_okq (⟨"TwoHeads", "isPerson", "(I)Z"⟩, 10) := ⟨⟨by decide +kernel, by decide +kernel⟩, List.mem_of_getElem? (i := 23) (by decide +kernel), List.mem_of_getElem? (i := 432) (by decide +kernel), List.mem_of_getElem? (i := 433) (by decide +kernel)⟩
theorem lw_p2 : lw_okq (⟨"TwoHeads$Lands", "turnOn", "(II)I"⟩, 8) := ⟨⟨by decide +kernel, by decide +kernel⟩, List.mem_of_getElem? (i := 31) (by decide +kernel), List.mem_of_getElem? (i := 459) (by decide +kernel), List.mem_of_getElem? (i := 460) (by decide +kernel)⟩
theorem lw_p3 : lw_okq (⟨"TwoHeads$Court", "landOf", "(I)I"⟩, 9) := ⟨⟨by decide +kernel, by decide +kernel⟩, List.mem_of_getElem? (i := 154) (by decide +kernel), List.mem_of_getElem? (i := 471) (by decide +kernel), List.mem_of_getElem? (i := 472) (by decide +kernel)⟩
theorem lw_p4 : lw_okq (⟨"TwoHeads$Court", "tellsApart", "(III)Z"⟩, 9) := ⟨⟨by decide +kernel, by decide +kernel⟩, List.mem_of_getElem? (i := 154) (by decide +kernel), List.mem_of_getElem? (i := 480) (by decide +kernel), List.mem_of_getElem? (i := 481) (by decide +kernel)⟩
theorem lw_p5 : lw_okq (⟨"TwoHeads$Court", "valueIfHeld", "(IIII)I"⟩, 9) := ⟨⟨by decide +kernel, by decide +kernel⟩, List.mem_of_getElem? (i := 154) (by decide +kernel), List.mem_of_getElem? (i := 484) (by decide +kernel), List.mem_of_getElem? (i := 485) (by decide +kernel)⟩
theorem lw_p6 : lw_okq (⟨"TwoHeads", "isAct", "(I)Z"⟩, 10) := ⟨⟨by decide +kernel, by decide +kernel⟩, List.mem_of_getElem? (i := 23) (by decide +kernel), List.mem_of_getElem? (i := 519) (by decide +kernel), List.mem_of_getElem? (i := 520) (by decide +kernel)⟩
theorem lw_p7 : lw_okq (⟨"TwoHeads$Reader", "findTokens", "()V"⟩, 13) := ⟨⟨by decide +kernel, by decide +kernel⟩, List.mem_of_getElem? (i := 228) (by decide +kernel), List.mem_of_getElem? (i := 563) (by decide +kernel), List.mem_of_getElem? (i := 564) (by decide +kernel)⟩
theorem lw_p8 : lw_okq (⟨"TwoHeads$Reader", "skipBlanks", "()V"⟩, 13) := ⟨⟨by decide +kernel, by decide +kernel⟩, List.mem_of_getElem? (i := 228) (by decide +kernel), List.mem_of_getElem? (i := 567) (by decide +kernel), List.mem_of_getElem? (i := 568) (by decide +kernel)⟩
theorem lw_p9 : lw_okq (⟨"TwoHeads$Reader", "findToken", "(I)I"⟩, 13) := ⟨⟨by decide +kernel, by decide +kernel⟩, List.mem_of_getElem? (i := 228) (by decide +kernel), List.mem_of_getElem? (i := 571) (by decide +kernel), List.mem_of_getElem? (i := 572) (by decide +kernel)⟩
theorem lw_p10 : lw_okq (⟨"TwoHeads$Reader", "findWord", "(I)I"⟩, 13) := ⟨⟨by decide +kernel, by decide +kernel⟩, List.mem_of_getElem? (i := 228) (by decide +kernel), List.mem_of_getElem? (i := 578) (by decide +kernel), List.mem_of_getElem? (i := 579) (by decide +kernel)⟩
theorem lw_p11 : lw_okq (⟨"TwoHeads$Reader", "nameFrom", "(I)I"⟩, 13) := ⟨⟨by decide +kernel, by decide +kernel⟩, List.mem_of_getElem? (i := 228) (by decide +kernel), List.mem_of_getElem? (i := 582) (by decide +kernel), List.mem_of_getElem? (i := 583) (by decide +kernel)⟩
theorem lw_p12 : lw_okq (⟨"TwoHeads$Reader", "spells", "(ILjava/lang/String;)Z"⟩, 13) := ⟨⟨by decide +kernel, by decide +kernel⟩, List.mem_of_getElem? (i := 228) (by decide +kernel), List.mem_of_getElem? (i := 587) (by decide +kernel), List.mem_of_getElem? (i := 588) (by decide +kernel)⟩
theorem lw_p13 : lw_okq (⟨"TwoHeads$Reader", "keyFrom", "(I)I"⟩, 13) := ⟨⟨by decide +kernel, by decide +kernel⟩, List.mem_of_getElem? (i := 228) (by decide +kernel), List.mem_of_getElem? (i := 644) (by decide +kernel), List.mem_of_getElem? (i := 645) (by decide +kernel)⟩
theorem lw_p14 : lw_okq (⟨"TwoHeads$Reader", "findNumber", "(I)I"⟩, 13) := ⟨⟨by decide +kernel, by decide +kernel⟩, List.mem_of_getElem? (i := 228) (by decide +kernel), List.mem_of_getElem? (i := 656) (by decide +kernel), List.mem_of_getElem? (i := 657) (by decide +kernel)⟩
theorem lw_p15 : lw_okq (⟨"TwoHeads$Reader", "readPart", "(I)LTwoHeads$Formula;"⟩, 13) := ⟨⟨by decide +kernel, by decide +kernel⟩, List.mem_of_getElem? (i := 228) (by decide +kernel), List.mem_of_getElem? (i := 663) (by decide +kernel), List.mem_of_getElem? (i := 664) (by decide +kernel)⟩
def lw_privs_1 : List (MethodName × Nat) := [(⟨"TwoHeads$Lands", "measure", "()V"⟩, 8), (⟨"TwoHeads", "isPerson", "(I)Z"⟩, 10), (⟨"TwoHeads$Lands", "turnOn", "(II)I"⟩, 8), (⟨"TwoHeads$Court", "landOf", "(I)I"⟩, 9), (⟨"TwoHeads$Court", "tellsApart", "(III)Z"⟩, 9), (⟨"TwoHeads$Court", "valueIfHeld", "(IIII)I"⟩, 9), (⟨"TwoHeads", "isAct", "(I)Z"⟩, 10), (⟨"TwoHeads$Reader", "findTokens", "()V"⟩, 13), (⟨"TwoHeads$Reader", "skipBlanks", "()V"⟩, 13), (⟨"TwoHeads$Reader", "findToken", "(I)I"⟩, 13), (⟨"TwoHeads$Reader", "findWord", "(I)I"⟩, 13), (⟨"TwoHeads$Reader", "nameFrom", "(I)I"⟩, 13), (⟨"TwoHeads$Reader", "spells", "(ILjava/lang/String;)Z"⟩, 13), (⟨"TwoHeads$Reader", "keyFrom", "(I)I"⟩, 13), (⟨"TwoHeads$Reader", "findNumber", "(I)I"⟩, 13), (⟨"TwoHeads$Reader", "readPart", "(I)LTwoHeads$Formula;"⟩, 13)]
theorem lw_r1 : ∀ q ∈ lw_privs_1, lw_okq q := List.forall_mem_cons.mpr ⟨lw_p0, List.forall_mem_cons.mpr ⟨lw_p1, List.forall_mem_cons.mpr ⟨lw_p2, List.forall_mem_cons.mpr ⟨lw_p3, List.forall_mem_cons.mpr ⟨lw_p4, List.forall_mem_cons.mpr ⟨lw_p5, List.forall_mem_cons.mpr ⟨lw_p6, List.forall_mem_cons.mpr ⟨lw_p7, List.forall_mem_cons.mpr ⟨lw_p8, List.forall_mem_cons.mpr ⟨lw_p9, List.forall_mem_cons.mpr ⟨lw_p10, List.forall_mem_cons.mpr ⟨lw_p11, List.forall_mem_cons.mpr ⟨lw_p12, List.forall_mem_cons.mpr ⟨lw_p13, List.forall_mem_cons.mpr ⟨lw_p14, List.forall_mem_cons.mpr ⟨lw_p15, fun _ h => absurd h List.not_mem_nil⟩⟩⟩⟩⟩⟩⟩⟩⟩⟩⟩⟩⟩⟩⟩⟩
theorem lw_p16 : lw_okq (⟨"TwoHeads$Reader", "expect", "(I)V"⟩, 13) := ⟨⟨by decide +kernel, by decide +kernel⟩, List.mem_of_getElem? (i := 228) (by decide +kernel), List.mem_of_getElem? (i := 667) (by decide +kernel), List.mem_of_getElem? (i := 668) (by decide +kernel)⟩
theorem lw_p17 : lw_okq (⟨"TwoHeads$Reader", "advance", "()V"⟩, 13) := ⟨⟨by decide +kernel, by decide +kernel⟩, List.mem_of_getElem? (i := 228) (by decide +kernel), List.mem_of_getElem? (i := 671) (by decide +kernel), List.mem_of_getElem? (i := 672) (by decide +kernel)⟩
theorem lw_p18 : lw_okq (⟨"TwoHeads$Reader", "fail", "()V"⟩, 13) := ⟨⟨by decide +kernel, by decide +kernel⟩, List.mem_of_getElem? (i := 228) (by decide +kernel), List.mem_of_getElem? (i := 675) (by decide +kernel), List.mem_of_getElem? (i := 676) (by decide +kernel)⟩
theorem lw_p19 : lw_okq (⟨"TwoHeads$Reader", "readEither", "(I)V"⟩, 13) := ⟨⟨by decide +kernel, by decide +kernel⟩, List.mem_of_getElem? (i := 228) (by decide +kernel), List.mem_of_getElem? (i := 679) (by decide +kernel), List.mem_of_getElem? (i := 680) (by decide +kernel)⟩
theorem lw_p20 : lw_okq (⟨"TwoHeads$Reader", "readBoth", "(I)V"⟩, 13) := ⟨⟨by decide +kernel, by decide +kernel⟩, List.mem_of_getElem? (i := 228) (by decide +kernel), List.mem_of_getElem? (i := 683) (by decide +kernel), List.mem_of_getElem? (i := 684) (by decide +kernel)⟩
theorem lw_p21 : lw_okq (⟨"TwoHeads$Reader", "readNot", "(I)V"⟩, 13) := ⟨⟨by decide +kernel, by decide +kernel⟩, List.mem_of_getElem? (i := 228) (by decide +kernel), List.mem_of_getElem? (i := 687) (by decide +kernel), List.mem_of_getElem? (i := 688) (by decide +kernel)⟩
theorem lw_p22 : lw_okq (⟨"TwoHeads$Reader", "mayOpen", "(I)Z"⟩, 13) := ⟨⟨by decide +kernel, by decide +kernel⟩, List.mem_of_getElem? (i := 228) (by decide +kernel), List.mem_of_getElem? (i := 691) (by decide +kernel), List.mem_of_getElem? (i := 692) (by decide +kernel)⟩
theorem lw_p23 : lw_okq (⟨"TwoHeads$Reader", "write", "(I)V"⟩, 13) := ⟨⟨by decide +kernel, by decide +kernel⟩, List.mem_of_getElem? (i := 228) (by decide +kernel), List.mem_of_getElem? (i := 695) (by decide +kernel), List.mem_of_getElem? (i := 696) (by decide +kernel)⟩
theorem lw_p24 : lw_okq (⟨"TwoHeads$Reader", "readSum", "(I)V"⟩, 13) := ⟨⟨by decide +kernel, by decide +kernel⟩, List.mem_of_getElem? (i := 228) (by decide +kernel), List.mem_of_getElem? (i := 699) (by decide +kernel), List.mem_of_getElem? (i := 700) (by decide +kernel)⟩
theorem lw_p25 : lw_okq (⟨"TwoHeads$Reader", "readTerm", "(I)V"⟩, 13) := ⟨⟨by decide +kernel, by decide +kernel⟩, List.mem_of_getElem? (i := 228) (by decide +kernel), List.mem_of_getElem? (i := 703) (by decide +kernel), List.mem_of_getElem? (i := 704) (by decide +kernel)⟩
theorem lw_p26 : lw_okq (⟨"TwoHeads$Reader", "readOne", "(I)V"⟩, 13) := ⟨⟨by decide +kernel, by decide +kernel⟩, List.mem_of_getElem? (i := 228) (by decide +kernel), List.mem_of_getElem? (i := 707) (by decide +kernel), List.mem_of_getElem? (i := 708) (by decide +kernel)⟩
theorem lw_p27 : lw_okq (⟨"TwoHeads$Court", "hangingWithin", "(I)I"⟩, 9) := ⟨⟨by decide +kernel, by decide +kernel⟩, List.mem_of_getElem? (i := 154) (by decide +kernel), List.mem_of_getElem? (i := 755) (by decide +kernel), List.mem_of_getElem? (i := 756) (by decide +kernel)⟩
theorem lw_p28 : lw_okq (⟨"TwoHeads$Court", "namingOn", "(III)I"⟩, 9) := ⟨⟨by decide +kernel, by decide +kernel⟩, List.mem_of_getElem? (i := 154) (by decide +kernel), List.mem_of_getElem? (i := 786) (by decide +kernel), List.mem_of_getElem? (i := 787) (by decide +kernel)⟩
theorem lw_p29 : lw_okq (⟨"TwoHeads", "isClause", "(I)Z"⟩, 10) := ⟨⟨by decide +kernel, by decide +kernel⟩, List.mem_of_getElem? (i := 23) (by decide +kernel), List.mem_of_getElem? (i := 903) (by decide +kernel), List.mem_of_getElem? (i := 904) (by decide +kernel)⟩
theorem lw_p30 : lw_okq (⟨"TwoHeads$Clauses", "isBetter", "(III)Z"⟩, 4) := ⟨⟨by decide +kernel, by decide +kernel⟩, List.mem_of_getElem? (i := 300) (by decide +kernel), List.mem_of_getElem? (i := 926) (by decide +kernel), List.mem_of_getElem? (i := 927) (by decide +kernel)⟩
theorem lw_p31 : lw_okq (⟨"TwoHeads$Envoys", "goOn", "(IIIII)V"⟩, 5) := ⟨⟨by decide +kernel, by decide +kernel⟩, List.mem_of_getElem? (i := 323) (by decide +kernel), List.mem_of_getElem? (i := 950) (by decide +kernel), List.mem_of_getElem? (i := 951) (by decide +kernel)⟩
def lw_privs_2 : List (MethodName × Nat) := [(⟨"TwoHeads$Reader", "expect", "(I)V"⟩, 13), (⟨"TwoHeads$Reader", "advance", "()V"⟩, 13), (⟨"TwoHeads$Reader", "fail", "()V"⟩, 13), (⟨"TwoHeads$Reader", "readEither", "(I)V"⟩, 13), (⟨"TwoHeads$Reader", "readBoth", "(I)V"⟩, 13), (⟨"TwoHeads$Reader", "readNot", "(I)V"⟩, 13), (⟨"TwoHeads$Reader", "mayOpen", "(I)Z"⟩, 13), (⟨"TwoHeads$Reader", "write", "(I)V"⟩, 13), (⟨"TwoHeads$Reader", "readSum", "(I)V"⟩, 13), (⟨"TwoHeads$Reader", "readTerm", "(I)V"⟩, 13), (⟨"TwoHeads$Reader", "readOne", "(I)V"⟩, 13), (⟨"TwoHeads$Court", "hangingWithin", "(I)I"⟩, 9), (⟨"TwoHeads$Court", "namingOn", "(III)I"⟩, 9), (⟨"TwoHeads", "isClause", "(I)Z"⟩, 10), (⟨"TwoHeads$Clauses", "isBetter", "(III)Z"⟩, 4), (⟨"TwoHeads$Envoys", "goOn", "(IIIII)V"⟩, 5)]
theorem lw_r2 : ∀ q ∈ lw_privs_2, lw_okq q := List.forall_mem_cons.mpr ⟨lw_p16, List.forall_mem_cons.mpr ⟨lw_p17, List.forall_mem_cons.mpr ⟨lw_p18, List.forall_mem_cons.mpr ⟨lw_p19, List.forall_mem_cons.mpr ⟨lw_p20, List.forall_mem_cons.mpr ⟨lw_p21, List.forall_mem_cons.mpr ⟨lw_p22, List.forall_mem_cons.mpr ⟨lw_p23, List.forall_mem_cons.mpr ⟨lw_p24, List.forall_mem_cons.mpr ⟨lw_p25, List.forall_mem_cons.mpr ⟨lw_p26, List.forall_mem_cons.mpr ⟨lw_p27, List.forall_mem_cons.mpr ⟨lw_p28, List.forall_mem_cons.mpr ⟨lw_p29, List.forall_mem_cons.mpr ⟨lw_p30, List.forall_mem_cons.mpr ⟨lw_p31, fun _ h => absurd h List.not_mem_nil⟩⟩⟩⟩⟩⟩⟩⟩⟩⟩⟩⟩⟩⟩⟩⟩
theorem lw_p32 : lw_okq (⟨"TwoHeads$Envoys", "mayBeWon", "(III)I"⟩, 5) := ⟨⟨by decide +kernel, by decide +kernel⟩, List.mem_of_getElem? (i := 323) (by decide +kernel), List.mem_of_getElem? (i := 954) (by decide +kernel), List.mem_of_getElem? (i := 955) (by decide +kernel)⟩
theorem lw_p33 : lw_okq (⟨"TwoHeads$Envoys", "keep", "(I)V"⟩, 5) := ⟨⟨by decide +kernel, by decide +kernel⟩, List.mem_of_getElem? (i := 323) (by decide +kernel), List.mem_of_getElem? (i := 959) (by decide +kernel), List.mem_of_getElem? (i := 960) (by decide +kernel)⟩
theorem lw_p34 : lw_okq (⟨"TwoHeads$Envoys", "giveUp", "(III)V"⟩, 5) := ⟨⟨by decide +kernel, by decide +kernel⟩, List.mem_of_getElem? (i := 323) (by decide +kernel), List.mem_of_getElem? (i := 964) (by decide +kernel), List.mem_of_getElem? (i := 965) (by decide +kernel)⟩
theorem lw_p35 : lw_okq (⟨"TwoHeadsModel", "ruleZero", "()V"⟩, 59) := ⟨⟨by decide +kernel, by decide +kernel⟩, List.mem_of_getElem? (i := 1019) (by decide +kernel), List.mem_of_getElem? (i := 1025) (by decide +kernel), List.mem_of_getElem? (i := 1026) (by decide +kernel)⟩
theorem lw_p36 : lw_okq (⟨"TwoHeadsModel", "isLand", "(I)Z"⟩, 59) := ⟨⟨by decide +kernel, by decide +kernel⟩, List.mem_of_getElem? (i := 1019) (by decide +kernel), List.mem_of_getElem? (i := 1212) (by decide +kernel), List.mem_of_getElem? (i := 1213) (by decide +kernel)⟩
theorem lw_p37 : lw_okq (⟨"TwoHeadsModel", "in", "(III)Z"⟩, 59) := ⟨⟨by decide +kernel, by decide +kernel⟩, List.mem_of_getElem? (i := 1019) (by decide +kernel), List.mem_of_getElem? (i := 1216) (by decide +kernel), List.mem_of_getElem? (i := 1217) (by decide +kernel)⟩
theorem lw_p38 : lw_okq (⟨"TwoHeadsModel", "findFar", "()V"⟩, 59) := ⟨⟨by decide +kernel, by decide +kernel⟩, List.mem_of_getElem? (i := 1019) (by decide +kernel), List.mem_of_getElem? (i := 1224) (by decide +kernel), List.mem_of_getElem? (i := 1225) (by decide +kernel)⟩
theorem lw_p39 : lw_okq (⟨"TwoHeadsModel", "isOffice", "(I)Z"⟩, 59) := ⟨⟨by decide +kernel, by decide +kernel⟩, List.mem_of_getElem? (i := 1019) (by decide +kernel), List.mem_of_getElem? (i := 1236) (by decide +kernel), List.mem_of_getElem? (i := 1237) (by decide +kernel)⟩
theorem lw_p40 : lw_okq (⟨"TwoHeadsModel", "isPerson", "(I)Z"⟩, 59) := ⟨⟨by decide +kernel, by decide +kernel⟩, List.mem_of_getElem? (i := 1019) (by decide +kernel), List.mem_of_getElem? (i := 1244) (by decide +kernel), List.mem_of_getElem? (i := 1245) (by decide +kernel)⟩
theorem lw_p41 : lw_okq (⟨"TwoHeadsModel", "isTurn", "(III)Z"⟩, 59) := ⟨⟨by decide +kernel, by decide +kernel⟩, List.mem_of_getElem? (i := 1019) (by decide +kernel), List.mem_of_getElem? (i := 1256) (by decide +kernel), List.mem_of_getElem? (i := 1257) (by decide +kernel)⟩
theorem lw_p42 : lw_okq (⟨"TwoHeadsModel", "isDay", "(I)Z"⟩, 59) := ⟨⟨by decide +kernel, by decide +kernel⟩, List.mem_of_getElem? (i := 1019) (by decide +kernel), List.mem_of_getElem? (i := 1260) (by decide +kernel), List.mem_of_getElem? (i := 1261) (by decide +kernel)⟩
theorem lw_p43 : lw_okq (⟨"TwoHeadsModel", "note", "(III)V"⟩, 59) := ⟨⟨by decide +kernel, by decide +kernel⟩, List.mem_of_getElem? (i := 1019) (by decide +kernel), List.mem_of_getElem? (i := 1264) (by decide +kernel), List.mem_of_getElem? (i := 1265) (by decide +kernel)⟩
theorem lw_p44 : lw_okq (⟨"TwoHeadsModel", "sideOf", "(II)I"⟩, 59) := ⟨⟨by decide +kernel, by decide +kernel⟩, List.mem_of_getElem? (i := 1019) (by decide +kernel), List.mem_of_getElem? (i := 1272) (by decide +kernel), List.mem_of_getElem? (i := 1273) (by decide +kernel)⟩
theorem lw_p45 : lw_okq (⟨"TwoHeadsModel", "soundBy", "(I)I"⟩, 59) := ⟨⟨by decide +kernel, by decide +kernel⟩, List.mem_of_getElem? (i := 1019) (by decide +kernel), List.mem_of_getElem? (i := 1280) (by decide +kernel), List.mem_of_getElem? (i := 1281) (by decide +kernel)⟩
theorem lw_p46 : lw_okq (⟨"TwoHeadsModel", "ask", "(III)I"⟩, 59) := ⟨⟨by decide +kernel, by decide +kernel⟩, List.mem_of_getElem? (i := 1019) (by decide +kernel), List.mem_of_getElem? (i := 1284) (by decide +kernel), List.mem_of_getElem? (i := 1285) (by decide +kernel)⟩
theorem lw_p47 : lw_okq (⟨"TwoHeadsModel", "rankOf", "(I)I"⟩, 59) := ⟨⟨by decide +kernel, by decide +kernel⟩, List.mem_of_getElem? (i := 1019) (by decide +kernel), List.mem_of_getElem? (i := 1288) (by decide +kernel), List.mem_of_getElem? (i := 1289) (by decide +kernel)⟩
def lw_privs_3 : List (MethodName × Nat) := [(⟨"TwoHeads$Envoys", "mayBeWon", "(III)I"⟩, 5), (⟨"TwoHeads$Envoys", "keep", "(I)V"⟩, 5), (⟨"TwoHeads$Envoys", "giveUp", "(III)V"⟩, 5), (⟨"TwoHeadsModel", "ruleZero", "()V"⟩, 59), (⟨"TwoHeadsModel", "isLand", "(I)Z"⟩, 59), (⟨"TwoHeadsModel", "in", "(III)Z"⟩, 59), (⟨"TwoHeadsModel", "findFar", "()V"⟩, 59), (⟨"TwoHeadsModel", "isOffice", "(I)Z"⟩, 59), (⟨"TwoHeadsModel", "isPerson", "(I)Z"⟩, 59), (⟨"TwoHeadsModel", "isTurn", "(III)Z"⟩, 59), (⟨"TwoHeadsModel", "isDay", "(I)Z"⟩, 59), (⟨"TwoHeadsModel", "note", "(III)V"⟩, 59), (⟨"TwoHeadsModel", "sideOf", "(II)I"⟩, 59), (⟨"TwoHeadsModel", "soundBy", "(I)I"⟩, 59), (⟨"TwoHeadsModel", "ask", "(III)I"⟩, 59), (⟨"TwoHeadsModel", "rankOf", "(I)I"⟩, 59)]
theorem lw_r3 : ∀ q ∈ lw_privs_3, lw_okq q := List.forall_mem_cons.mpr ⟨lw_p32, List.forall_mem_cons.mpr ⟨lw_p33, List.forall_mem_cons.mpr ⟨lw_p34, List.forall_mem_cons.mpr ⟨lw_p35, List.forall_mem_cons.mpr ⟨lw_p36, List.forall_mem_cons.mpr ⟨lw_p37, List.forall_mem_cons.mpr ⟨lw_p38, List.forall_mem_cons.mpr ⟨lw_p39, List.forall_mem_cons.mpr ⟨lw_p40, List.forall_mem_cons.mpr ⟨lw_p41, List.forall_mem_cons.mpr ⟨lw_p42, List.forall_mem_cons.mpr ⟨lw_p43, List.forall_mem_cons.mpr ⟨lw_p44, List.forall_mem_cons.mpr ⟨lw_p45, List.forall_mem_cons.mpr ⟨lw_p46, List.forall_mem_cons.mpr ⟨lw_p47, fun _ h => absurd h List.not_mem_nil⟩⟩⟩⟩⟩⟩⟩⟩⟩⟩⟩⟩⟩⟩⟩⟩
theorem lw_p48 : lw_okq (⟨"TwoHeadsModel", "ones", "(I)I"⟩, 59) := ⟨⟨by decide +kernel, by decide +kernel⟩, List.mem_of_getElem? (i := 1019) (by decide +kernel), List.mem_of_getElem? (i := 1292) (by decide +kernel), List.mem_of_getElem? (i := 1293) (by decide +kernel)⟩
theorem lw_p49 : lw_okq (⟨"TwoHeadsModel", "work", "(II)I"⟩, 59) := ⟨⟨by decide +kernel, by decide +kernel⟩, List.mem_of_getElem? (i := 1019) (by decide +kernel), List.mem_of_getElem? (i := 1296) (by decide +kernel), List.mem_of_getElem? (i := 1297) (by decide +kernel)⟩
theorem lw_p50 : lw_okq (⟨"TwoHeadsModel", "both", "(III)I"⟩, 59) := ⟨⟨by decide +kernel, by decide +kernel⟩, List.mem_of_getElem? (i := 1019) (by decide +kernel), List.mem_of_getElem? (i := 1300) (by decide +kernel), List.mem_of_getElem? (i := 1301) (by decide +kernel)⟩
theorem lw_p51 : lw_okq (⟨"TwoHeadsModel", "isAct", "(I)Z"⟩, 59) := ⟨⟨by decide +kernel, by decide +kernel⟩, List.mem_of_getElem? (i := 1019) (by decide +kernel), List.mem_of_getElem? (i := 1312) (by decide +kernel), List.mem_of_getElem? (i := 1313) (by decide +kernel)⟩
theorem lw_p52 : lw_okq (⟨"TwoHeadsModel", "lastsOf", "(I)I"⟩, 59) := ⟨⟨by decide +kernel, by decide +kernel⟩, List.mem_of_getElem? (i := 1019) (by decide +kernel), List.mem_of_getElem? (i := 1324) (by decide +kernel), List.mem_of_getElem? (i := 1325) (by decide +kernel)⟩
theorem lw_p53 : lw_okq (⟨"TwoHeadsModel", "isText", "()Z"⟩, 59) := ⟨⟨by decide +kernel, by decide +kernel⟩, List.mem_of_getElem? (i := 1019) (by decide +kernel), List.mem_of_getElem? (i := 1336) (by decide +kernel), List.mem_of_getElem? (i := 1337) (by decide +kernel)⟩
theorem lw_p54 : lw_okq (⟨"TwoHeadsModel", "next", "()V"⟩, 59) := ⟨⟨by decide +kernel, by decide +kernel⟩, List.mem_of_getElem? (i := 1019) (by decide +kernel), List.mem_of_getElem? (i := 1340) (by decide +kernel), List.mem_of_getElem? (i := 1341) (by decide +kernel)⟩
theorem lw_p55 : lw_okq (⟨"TwoHeadsModel", "isLetter", "(I)Z"⟩, 59) := ⟨⟨by decide +kernel, by decide +kernel⟩, List.mem_of_getElem? (i := 1019) (by decide +kernel), List.mem_of_getElem? (i := 1344) (by decide +kernel), List.mem_of_getElem? (i := 1345) (by decide +kernel)⟩
theorem lw_p56 : lw_okq (⟨"TwoHeadsModel", "wordToken", "()V"⟩, 59) := ⟨⟨by decide +kernel, by decide +kernel⟩, List.mem_of_getElem? (i := 1019) (by decide +kernel), List.mem_of_getElem? (i := 1348) (by decide +kernel), List.mem_of_getElem? (i := 1349) (by decide +kernel)⟩
theorem lw_p57 : lw_okq (⟨"TwoHeadsModel", "isWord", "(J)Z"⟩, 59) := ⟨⟨by decide +kernel, by decide +kernel⟩, List.mem_of_getElem? (i := 1019) (by decide +kernel), List.mem_of_getElem? (i := 1353) (by decide +kernel), List.mem_of_getElem? (i := 1354) (by decide +kernel)⟩
theorem lw_p58 : lw_okq (⟨"TwoHeadsModel", "isDigit", "(I)Z"⟩, 59) := ⟨⟨by decide +kernel, by decide +kernel⟩, List.mem_of_getElem? (i := 1019) (by decide +kernel), List.mem_of_getElem? (i := 1368) (by decide +kernel), List.mem_of_getElem? (i := 1369) (by decide +kernel)⟩
theorem lw_p59 : lw_okq (⟨"TwoHeadsModel", "isKey", "(I)Z"⟩, 59) := ⟨⟨by decide +kernel, by decide +kernel⟩, List.mem_of_getElem? (i := 1019) (by decide +kernel), List.mem_of_getElem? (i := 1372) (by decide +kernel), List.mem_of_getElem? (i := 1373) (by decide +kernel)⟩
theorem lw_p60 : lw_okq (⟨"TwoHeadsModel", "part", "()Z"⟩, 59) := ⟨⟨by decide +kernel, by decide +kernel⟩, List.mem_of_getElem? (i := 1019) (by decide +kernel), List.mem_of_getElem? (i := 1376) (by decide +kernel), List.mem_of_getElem? (i := 1377) (by decide +kernel)⟩
theorem lw_p61 : lw_okq (⟨"TwoHeadsModel", "ahead", "(Z)Z"⟩, 59) := ⟨⟨by decide +kernel, by decide +kernel⟩, List.mem_of_getElem? (i := 1019) (by decide +kernel), List.mem_of_getElem? (i := 1380) (by decide +kernel), List.mem_of_getElem? (i := 1381) (by decide +kernel)⟩
theorem lw_p62 : lw_okq (⟨"TwoHeadsModel", "isSign", "(I)Z"⟩, 59) := ⟨⟨by decide +kernel, by decide +kernel⟩, List.mem_of_getElem? (i := 1019) (by decide +kernel), List.mem_of_getElem? (i := 1384) (by decide +kernel), List.mem_of_getElem? (i := 1385) (by decide +kernel)⟩
theorem lw_p63 : lw_okq (⟨"TwoHeadsModel", "hold", "(I)V"⟩, 59) := ⟨⟨by decide +kernel, by decide +kernel⟩, List.mem_of_getElem? (i := 1019) (by decide +kernel), List.mem_of_getElem? (i := 1388) (by decide +kernel), List.mem_of_getElem? (i := 1389) (by decide +kernel)⟩
def lw_privs_4 : List (MethodName × Nat) := [(⟨"TwoHeadsModel", "ones", "(I)I"⟩, 59), (⟨"TwoHeadsModel", "work", "(II)I"⟩, 59), (⟨"TwoHeadsModel", "both", "(III)I"⟩, 59), (⟨"TwoHeadsModel", "isAct", "(I)Z"⟩, 59), (⟨"TwoHeadsModel", "lastsOf", "(I)I"⟩, 59), (⟨"TwoHeadsModel", "isText", "()Z"⟩, 59), (⟨"TwoHeadsModel", "next", "()V"⟩, 59), (⟨"TwoHeadsModel", "isLetter", "(I)Z"⟩, 59), (⟨"TwoHeadsModel", "wordToken", "()V"⟩, 59), (⟨"TwoHeadsModel", "isWord", "(J)Z"⟩, 59), (⟨"TwoHeadsModel", "isDigit", "(I)Z"⟩, 59), (⟨"TwoHeadsModel", "isKey", "(I)Z"⟩, 59), (⟨"TwoHeadsModel", "part", "()Z"⟩, 59), (⟨"TwoHeadsModel", "ahead", "(Z)Z"⟩, 59), (⟨"TwoHeadsModel", "isSign", "(I)Z"⟩, 59), (⟨"TwoHeadsModel", "hold", "(I)V"⟩, 59)]
theorem lw_r4 : ∀ q ∈ lw_privs_4, lw_okq q := List.forall_mem_cons.mpr ⟨lw_p48, List.forall_mem_cons.mpr ⟨lw_p49, List.forall_mem_cons.mpr ⟨lw_p50, List.forall_mem_cons.mpr ⟨lw_p51, List.forall_mem_cons.mpr ⟨lw_p52, List.forall_mem_cons.mpr ⟨lw_p53, List.forall_mem_cons.mpr ⟨lw_p54, List.forall_mem_cons.mpr ⟨lw_p55, List.forall_mem_cons.mpr ⟨lw_p56, List.forall_mem_cons.mpr ⟨lw_p57, List.forall_mem_cons.mpr ⟨lw_p58, List.forall_mem_cons.mpr ⟨lw_p59, List.forall_mem_cons.mpr ⟨lw_p60, List.forall_mem_cons.mpr ⟨lw_p61, List.forall_mem_cons.mpr ⟨lw_p62, List.forall_mem_cons.mpr ⟨lw_p63, fun _ h => absurd h List.not_mem_nil⟩⟩⟩⟩⟩⟩⟩⟩⟩⟩⟩⟩⟩⟩⟩⟩
theorem lw_p64 : lw_okq (⟨"TwoHeadsModel", "put", "(I)V"⟩, 59) := ⟨⟨by decide +kernel, by decide +kernel⟩, List.mem_of_getElem? (i := 1019) (by decide +kernel), List.mem_of_getElem? (i := 1392) (by decide +kernel), List.mem_of_getElem? (i := 1393) (by decide +kernel)⟩
theorem lw_p65 : lw_okq (⟨"TwoHeadsModel", "settle", "(I)V"⟩, 59) := ⟨⟨by decide +kernel, by decide +kernel⟩, List.mem_of_getElem? (i := 1019) (by decide +kernel), List.mem_of_getElem? (i := 1396) (by decide +kernel), List.mem_of_getElem? (i := 1397) (by decide +kernel)⟩
theorem lw_p66 : lw_okq (⟨"TwoHeadsModel", "rank", "(I)I"⟩, 59) := ⟨⟨by decide +kernel, by decide +kernel⟩, List.mem_of_getElem? (i := 1019) (by decide +kernel), List.mem_of_getElem? (i := 1400) (by decide +kernel), List.mem_of_getElem? (i := 1401) (by decide +kernel)⟩
theorem lw_p67 : lw_okq (⟨"TwoHeadsModel", "signOf", "()I"⟩, 59) := ⟨⟨by decide +kernel, by decide +kernel⟩, List.mem_of_getElem? (i := 1019) (by decide +kernel), List.mem_of_getElem? (i := 1404) (by decide +kernel), List.mem_of_getElem? (i := 1405) (by decide +kernel)⟩
theorem lw_p68 : lw_okq (⟨"TwoHeadsModel", "isSide", "(I)Z"⟩, 59) := ⟨⟨by decide +kernel, by decide +kernel⟩, List.mem_of_getElem? (i := 1019) (by decide +kernel), List.mem_of_getElem? (i := 1412) (by decide +kernel), List.mem_of_getElem? (i := 1413) (by decide +kernel)⟩
theorem lw_p69 : lw_okq (⟨"TwoHeadsModel", "savedBy", "(I)I"⟩, 59) := ⟨⟨by decide +kernel, by decide +kernel⟩, List.mem_of_getElem? (i := 1019) (by decide +kernel), List.mem_of_getElem? (i := 1425) (by decide +kernel), List.mem_of_getElem? (i := 1426) (by decide +kernel)⟩
theorem lw_p70 : lw_okq (⟨"TwoHeadsModel", "goodOf", "(II)I"⟩, 59) := ⟨⟨by decide +kernel, by decide +kernel⟩, List.mem_of_getElem? (i := 1019) (by decide +kernel), List.mem_of_getElem? (i := 1429) (by decide +kernel), List.mem_of_getElem? (i := 1430) (by decide +kernel)⟩
theorem lw_p71 : lw_okq (⟨"TwoHeadsModel", "firmOf", "(II)I"⟩, 59) := ⟨⟨by decide +kernel, by decide +kernel⟩, List.mem_of_getElem? (i := 1019) (by decide +kernel), List.mem_of_getElem? (i := 1433) (by decide +kernel), List.mem_of_getElem? (i := 1434) (by decide +kernel)⟩
theorem lw_p72 : lw_okq (⟨"TwoHeadsModel", "goodBy", "(I)I"⟩, 59) := ⟨⟨by decide +kernel, by decide +kernel⟩, List.mem_of_getElem? (i := 1019) (by decide +kernel), List.mem_of_getElem? (i := 1445) (by decide +kernel), List.mem_of_getElem? (i := 1446) (by decide +kernel)⟩
theorem lw_p73 : lw_okq (⟨"TwoHeadsModel", "isOn", "(II)Z"⟩, 59) := ⟨⟨by decide +kernel, by decide +kernel⟩, List.mem_of_getElem? (i := 1019) (by decide +kernel), List.mem_of_getElem? (i := 1449) (by decide +kernel), List.mem_of_getElem? (i := 1450) (by decide +kernel)⟩
theorem lw_p74 : lw_okq (⟨"TwoHeadsModel", "namingOf", "(III)I"⟩, 59) := ⟨⟨by decide +kernel, by decide +kernel⟩, List.mem_of_getElem? (i := 1019) (by decide +kernel), List.mem_of_getElem? (i := 1453) (by decide +kernel), List.mem_of_getElem? (i := 1454) (by decide +kernel)⟩
theorem lw_p75 : lw_okq (⟨"TwoHeadsModel", "rightOf", "(III)I"⟩, 59) := ⟨⟨by decide +kernel, by decide +kernel⟩, List.mem_of_getElem? (i := 1019) (by decide +kernel), List.mem_of_getElem? (i := 1461) (by decide +kernel), List.mem_of_getElem? (i := 1462) (by decide +kernel)⟩
theorem lw_p76 : lw_okq (⟨"TwoHeadsModel", "knownIn", "(II)I"⟩, 59) := ⟨⟨by decide +kernel, by decide +kernel⟩, List.mem_of_getElem? (i := 1019) (by decide +kernel), List.mem_of_getElem? (i := 1473) (by decide +kernel), List.mem_of_getElem? (i := 1474) (by decide +kernel)⟩
theorem lw_p77 : lw_okq (⟨"TwoHeadsModel", "knew", "(II)Z"⟩, 59) := ⟨⟨by decide +kernel, by decide +kernel⟩, List.mem_of_getElem? (i := 1019) (by decide +kernel), List.mem_of_getElem? (i := 1481) (by decide +kernel), List.mem_of_getElem? (i := 1482) (by decide +kernel)⟩
theorem lw_p78 : lw_okq (⟨"TwoHeadsModel", "canBuy", "(I)Z"⟩, 59) := ⟨⟨by decide +kernel, by decide +kernel⟩, List.mem_of_getElem? (i := 1019) (by decide +kernel), List.mem_of_getElem? (i := 1505) (by decide +kernel), List.mem_of_getElem? (i := 1506) (by decide +kernel)⟩
theorem lw_p79 : lw_okq (⟨"TwoHeadsModel", "priceOf", "(I)I"⟩, 59) := ⟨⟨by decide +kernel, by decide +kernel⟩, List.mem_of_getElem? (i := 1019) (by decide +kernel), List.mem_of_getElem? (i := 1509) (by decide +kernel), List.mem_of_getElem? (i := 1510) (by decide +kernel)⟩
def lw_privs_5 : List (MethodName × Nat) := [(⟨"TwoHeadsModel", "put", "(I)V"⟩, 59), (⟨"TwoHeadsModel", "settle", "(I)V"⟩, 59), (⟨"TwoHeadsModel", "rank", "(I)I"⟩, 59), (⟨"TwoHeadsModel", "signOf", "()I"⟩, 59), (⟨"TwoHeadsModel", "isSide", "(I)Z"⟩, 59), (⟨"TwoHeadsModel", "savedBy", "(I)I"⟩, 59), (⟨"TwoHeadsModel", "goodOf", "(II)I"⟩, 59), (⟨"TwoHeadsModel", "firmOf", "(II)I"⟩, 59), (⟨"TwoHeadsModel", "goodBy", "(I)I"⟩, 59), (⟨"TwoHeadsModel", "isOn", "(II)Z"⟩, 59), (⟨"TwoHeadsModel", "namingOf", "(III)I"⟩, 59), (⟨"TwoHeadsModel", "rightOf", "(III)I"⟩, 59), (⟨"TwoHeadsModel", "knownIn", "(II)I"⟩, 59), (⟨"TwoHeadsModel", "knew", "(II)Z"⟩, 59), (⟨"TwoHeadsModel", "canBuy", "(I)Z"⟩, 59), (⟨"TwoHeadsModel", "priceOf", "(I)I"⟩, 59)]
theorem lw_r5 : ∀ q ∈ lw_privs_5, lw_okq q := List.forall_mem_cons.mpr ⟨lw_p64, List.forall_mem_cons.mpr ⟨lw_p65, List.forall_mem_cons.mpr ⟨lw_p66, List.forall_mem_cons.mpr ⟨lw_p67, List.forall_mem_cons.mpr ⟨lw_p68, List.forall_mem_cons.mpr ⟨lw_p69, List.forall_mem_cons.mpr ⟨lw_p70, List.forall_mem_cons.mpr ⟨lw_p71, List.forall_mem_cons.mpr ⟨lw_p72, List.forall_mem_cons.mpr ⟨lw_p73, List.forall_mem_cons.mpr ⟨lw_p74, List.forall_mem_cons.mpr ⟨lw_p75, List.forall_mem_cons.mpr ⟨lw_p76, List.forall_mem_cons.mpr ⟨lw_p77, List.forall_mem_cons.mpr ⟨lw_p78, List.forall_mem_cons.mpr ⟨lw_p79, fun _ h => absurd h List.not_mem_nil⟩⟩⟩⟩⟩⟩⟩⟩⟩⟩⟩⟩⟩⟩⟩⟩
theorem lw_p80 : lw_okq (⟨"TwoHeadsModel", "seatsOf", "(III)I"⟩, 59) := ⟨⟨by decide +kernel, by decide +kernel⟩, List.mem_of_getElem? (i := 1019) (by decide +kernel), List.mem_of_getElem? (i := 1521) (by decide +kernel), List.mem_of_getElem? (i := 1522) (by decide +kernel)⟩
theorem lw_p81 : lw_okq (⟨"TwoHeadsModel", "isClause", "(I)Z"⟩, 59) := ⟨⟨by decide +kernel, by decide +kernel⟩, List.mem_of_getElem? (i := 1019) (by decide +kernel), List.mem_of_getElem? (i := 1534) (by decide +kernel), List.mem_of_getElem? (i := 1535) (by decide +kernel)⟩
theorem lw_p82 : lw_okq (⟨"TwoHeadsModel", "goTogether", "(I)Z"⟩, 59) := ⟨⟨by decide +kernel, by decide +kernel⟩, List.mem_of_getElem? (i := 1019) (by decide +kernel), List.mem_of_getElem? (i := 1546) (by decide +kernel), List.mem_of_getElem? (i := 1547) (by decide +kernel)⟩
theorem lw_p83 : lw_okq (⟨"TwoHeadsModel", "takersOf", "(I)I"⟩, 59) := ⟨⟨by decide +kernel, by decide +kernel⟩, List.mem_of_getElem? (i := 1019) (by decide +kernel), List.mem_of_getElem? (i := 1550) (by decide +kernel), List.mem_of_getElem? (i := 1551) (by decide +kernel)⟩
theorem lw_p84 : lw_okq (⟨"TwoHeadsModel", "isBetter", "(III)Z"⟩, 59) := ⟨⟨by decide +kernel, by decide +kernel⟩, List.mem_of_getElem? (i := 1019) (by decide +kernel), List.mem_of_getElem? (i := 1554) (by decide +kernel), List.mem_of_getElem? (i := 1555) (by decide +kernel)⟩
theorem lw_p85 : lw_okq (⟨"TwoHeadsModel", "undoneBy", "(II)I"⟩, 59) := ⟨⟨by decide +kernel, by decide +kernel⟩, List.mem_of_getElem? (i := 1019) (by decide +kernel), List.mem_of_getElem? (i := 1558) (by decide +kernel), List.mem_of_getElem? (i := 1559) (by decide +kernel)⟩
theorem lw_p86 : lw_okq (⟨"TwoHeadsModel", "wonBy", "(I)I"⟩, 59) := ⟨⟨by decide +kernel, by decide +kernel⟩, List.mem_of_getElem? (i := 1019) (by decide +kernel), List.mem_of_getElem? (i := 1570) (by decide +kernel), List.mem_of_getElem? (i := 1571) (by decide +kernel)⟩
theorem lw_p87 : lw_okq (⟨"TwoHeadsModel", "nextOrder", "()Z"⟩, 59) := ⟨⟨by decide +kernel, by decide +kernel⟩, List.mem_of_getElem? (i := 1019) (by decide +kernel), List.mem_of_getElem? (i := 1574) (by decide +kernel), List.mem_of_getElem? (i := 1575) (by decide +kernel)⟩
theorem lw_p88 : lw_okq (⟨"TwoHeadsModel", "isSheet", "(I)Z"⟩, 59) := ⟨⟨by decide +kernel, by decide +kernel⟩, List.mem_of_getElem? (i := 1019) (by decide +kernel), List.mem_of_getElem? (i := 1586) (by decide +kernel), List.mem_of_getElem? (i := 1587) (by decide +kernel)⟩
theorem lw_p89 : lw_okq (⟨"TwoHeadsModel", "isUnder", "(II)Z"⟩, 59) := ⟨⟨by decide +kernel, by decide +kernel⟩, List.mem_of_getElem? (i := 1019) (by decide +kernel), List.mem_of_getElem? (i := 1607) (by decide +kernel), List.mem_of_getElem? (i := 1608) (by decide +kernel)⟩
def lw_privs_6 : List (MethodName × Nat) := [(⟨"TwoHeadsModel", "seatsOf", "(III)I"⟩, 59), (⟨"TwoHeadsModel", "isClause", "(I)Z"⟩, 59), (⟨"TwoHeadsModel", "goTogether", "(I)Z"⟩, 59), (⟨"TwoHeadsModel", "takersOf", "(I)I"⟩, 59), (⟨"TwoHeadsModel", "isBetter", "(III)Z"⟩, 59), (⟨"TwoHeadsModel", "undoneBy", "(II)I"⟩, 59), (⟨"TwoHeadsModel", "wonBy", "(I)I"⟩, 59), (⟨"TwoHeadsModel", "nextOrder", "()Z"⟩, 59), (⟨"TwoHeadsModel", "isSheet", "(I)Z"⟩, 59), (⟨"TwoHeadsModel", "isUnder", "(II)Z"⟩, 59)]
theorem lw_r6 : ∀ q ∈ lw_privs_6, lw_okq q := List.forall_mem_cons.mpr ⟨lw_p80, List.forall_mem_cons.mpr ⟨lw_p81, List.forall_mem_cons.mpr ⟨lw_p82, List.forall_mem_cons.mpr ⟨lw_p83, List.forall_mem_cons.mpr ⟨lw_p84, List.forall_mem_cons.mpr ⟨lw_p85, List.forall_mem_cons.mpr ⟨lw_p86, List.forall_mem_cons.mpr ⟨lw_p87, List.forall_mem_cons.mpr ⟨lw_p88, List.forall_mem_cons.mpr ⟨lw_p89, fun _ h => absurd h List.not_mem_nil⟩⟩⟩⟩⟩⟩⟩⟩⟩⟩
def lw_privs : List (MethodName × Nat) := lw_privs_1 ++ (lw_privs_2 ++ (lw_privs_3 ++ (lw_privs_4 ++ (lw_privs_5 ++ (lw_privs_6)))))
def lw_tbl : List Cond := k2_sels lw_privs ++ tables_1
theorem lw_privs_ok : ∀ q ∈ lw_privs, lw_okq q := by
  show ∀ q ∈ lw_privs_1 ++ (lw_privs_2 ++ (lw_privs_3 ++ (lw_privs_4 ++ (lw_privs_5 ++ (lw_privs_6))))), lw_okq q
  exact List.forall_mem_append.mpr ⟨lw_r1, List.forall_mem_append.mpr ⟨lw_r2, List.forall_mem_append.mpr ⟨lw_r3, List.forall_mem_append.mpr ⟨lw_r4, List.forall_mem_append.mpr ⟨lw_r5, lw_r6⟩⟩⟩⟩⟩
-- ===== end of PART A; then your names; then what follows =====
end
section
/-! ===== BEGIN words of one list among another's, by their places ===== -/
theorem goodIn_r {big : List Cond} (ws : List Cond) (ps : List Nat) (hp : ws = ps.filterMap (fun i => big[i]?)) (h : ws.all goodWord = true) : GoodIn big ws := by
  intro w hw
  have h1 := List.all_eq_true.mp h w hw
  rw [hp] at hw
  obtain ⟨i, -, hi⟩ := List.mem_filterMap.mp hw
  have hm : w ∈ big := by first | exact List.mem_of_getElem? hi | exact List.getElem?_mem hi
  exact ⟨hm, good_of_word h1⟩
theorem goodIn_app {big a b : List Cond} (ha : GoodIn big a) (hb : GoodIn big b) : GoodIn big (a ++ b) := fun w h => (List.mem_append.mp h).elim (ha w) (hb w)
theorem goodIn_ca {big a b : List Cond} {c : Cond} (ha : GoodIn big (c :: a)) (hb : GoodIn big b) : GoodIn big (c :: (a ++ b)) := fun w h => (List.mem_cons.mp h).elim (fun e => ha w (List.mem_cons.mpr (Or.inl e))) (fun h => (List.mem_append.mp h).elim (fun h => ha w (List.mem_cons.mpr (Or.inr h))) (hb w))
theorem goodIn_sub {big ws : List Cond} (hm : ∀ w ∈ ws, w ∈ big) (h : ws.all goodWord = true) : GoodIn big ws := fun w hw => ⟨hm w hw, good_of_word (List.all_eq_true.mp h w hw)⟩
/-! ===== END ===== -/
def RX0 : String := "TwoHeads$Clauses"
def TX0 : u_T := fun k => match k with
  | 0 => ("TwoHeads$Clauses", "undoes", "[I", true)
  | 1 => ("TwoHeads$Clauses", "foes", "[I", true)
  | 2 => ("TwoHeads$Clauses", "worth", "[[I", true)
  | _ => ("TwoHeads$Clauses", "size", "I", false)
def tyX0 : Nat → FieldType := fun k => match k with
  | 0 => .array .int
  | 1 => .array .int
  | 2 => .array (.array .int)
  | _ => .int
abbrev wsX00 : List Cond := u_ws RX0 TX0 4
theorem nmX0 : ∀ a, a < 4 → ∀ b, b < 4 → a ≠ b → (TX0 a).2.1 ≠ (TX0 b).2.1 := by decide +kernel
theorem tyX0_ok : ∀ k, k < 4 → parseFieldDescriptor (TX0 k).2.2.1 = some (tyX0 k) := by decide +kernel
abbrev cX0_init : ByteArray := prog_2_method_1_code
def yX0_init : MethodName := ⟨RX0, "<init>", "()V"⟩
abbrev cX0_add : ByteArray := prog_2_method_2_code
def yX0_add : MethodName := ⟨RX0, "add", "(I)I"⟩
abbrev cX0_undoneBy : ByteArray := prog_2_method_3_code
def yX0_undoneBy : MethodName := ⟨RX0, "undoneBy", "(II)I"⟩
abbrev cX0_takersOf : ByteArray := prog_2_method_4_code
def yX0_takersOf : MethodName := ⟨RX0, "takersOf", "(I)I"⟩
abbrev cX0_settled : ByteArray := prog_2_method_5_code
def yX0_settled : MethodName := ⟨RX0, "settled", "(II)I"⟩
abbrev cX0_isBetter : ByteArray := prog_2_method_6_code
def yX0_isBetter : MethodName := ⟨RX0, "isBetter", "(III)Z"⟩
def RX1 : String := "TwoHeads$Court"
def TX1 : u_T := fun k => match k with
  | 0 => ("TwoHeads$Court", "lands", "LTwoHeads$Lands;", true)
  | 1 => ("TwoHeads$Court", "people", "LTwoHeads$People;", true)
  | 2 => ("TwoHeads$Court", "deeds", "LTwoHeads$Deeds;", true)
  | 3 => ("TwoHeads$Court", "binds", "[LTwoHeads$Formula;", true)
  | 4 => ("TwoHeads$Court", "saved", "[LTwoHeads$Formula;", true)
  | 5 => ("TwoHeads$Court", "texts", "I", false)
  | 6 => ("TwoHeads$Court", "textOf", "[I", true)
  | 7 => ("TwoHeads$Court", "facts", "[I", true)
  | _ => ("TwoHeads$Court", "stack", "[I", true)
def tyX1 : Nat → FieldType := fun k => match k with
  | 0 => .object "TwoHeads$Lands"
  | 1 => .object "TwoHeads$People"
  | 2 => .object "TwoHeads$Deeds"
  | 3 => .array (.object "TwoHeads$Formula")
  | 4 => .array (.object "TwoHeads$Formula")
  | 5 => .int
  | 6 => .array .int
  | 7 => .array .int
  | _ => .array .int
abbrev wsX10 : List Cond := u_ws RX1 TX1 9
theorem nmX1 : ∀ a, a < 9 → ∀ b, b < 9 → a ≠ b → (TX1 a).2.1 ≠ (TX1 b).2.1 := by decide +kernel
theorem tyX1_ok : ∀ k, k < 9 → parseFieldDescriptor (TX1 k).2.2.1 = some (tyX1 k) := by decide +kernel
abbrev cX1_init : ByteArray := prog_3_method_1_code
def yX1_init : MethodName := ⟨RX1, "<init>", "(LTwoHeads$Lands;LTwoHeads$People;LTwoHeads$Deeds;)V"⟩
abbrev cX1_addText : ByteArray := prog_3_method_2_code
def yX1_addText : MethodName := ⟨RX1, "addText", "(LTwoHeads$Formula;LTwoHeads$Formula;)I"⟩
abbrev cX1_landOf : ByteArray := prog_3_method_3_code
def yX1_landOf : MethodName := ⟨RX1, "landOf", "(I)I"⟩
abbrev cX1_valueOf : ByteArray := prog_3_method_4_code
def yX1_valueOf : MethodName := ⟨RX1, "valueOf", "(III)I"⟩
abbrev cX1_valueIfHeld : ByteArray := prog_3_method_5_code
def yX1_valueIfHeld : MethodName := ⟨RX1, "valueIfHeld", "(IIII)I"⟩
abbrev cX1_trueUnder : ByteArray := prog_3_method_6_code
def yX1_trueUnder : MethodName := ⟨RX1, "trueUnder", "(II)I"⟩
abbrev cX1_goodUnder : ByteArray := prog_3_method_7_code
def yX1_goodUnder : MethodName := ⟨RX1, "goodUnder", "(I)I"⟩
abbrev cX1_goodAmong : ByteArray := prog_3_method_8_code
def yX1_goodAmong : MethodName := ⟨RX1, "goodAmong", "(II)I"⟩
abbrev cX1_firmAmong : ByteArray := prog_3_method_9_code
def yX1_firmAmong : MethodName := ⟨RX1, "firmAmong", "(II)I"⟩
abbrev cX1_hangingWithin : ByteArray := prog_3_method_10_code
def yX1_hangingWithin : MethodName := ⟨RX1, "hangingWithin", "(I)I"⟩
abbrev cX1_forceOn : ByteArray := prog_3_method_11_code
def yX1_forceOn : MethodName := ⟨RX1, "forceOn", "(II)I"⟩
abbrev cX1_rightful : ByteArray := prog_3_method_12_code
def yX1_rightful : MethodName := ⟨RX1, "rightful", "(III)I"⟩
abbrev cX1_namingOn : ByteArray := prog_3_method_13_code
def yX1_namingOn : MethodName := ⟨RX1, "namingOn", "(III)I"⟩
abbrev cX1_knownFrom : ByteArray := prog_3_method_14_code
def yX1_knownFrom : MethodName := ⟨RX1, "knownFrom", "(II)I"⟩
abbrev cX1_knewOf : ByteArray := prog_3_method_15_code
def yX1_knewOf : MethodName := ⟨RX1, "knewOf", "(II)Z"⟩
abbrev cX1_changedBy : ByteArray := prog_3_method_16_code
def yX1_changedBy : MethodName := ⟨RX1, "changedBy", "(III)I"⟩
abbrev cX1_tellsApart : ByteArray := prog_3_method_17_code
def yX1_tellsApart : MethodName := ⟨RX1, "tellsApart", "(III)Z"⟩
def RX2 : String := "TwoHeads$Deeds"
def TX2 : u_T := fun k => match k with
  | 0 => ("TwoHeads$Deeds", "kind", "[I", true)
  | 1 => ("TwoHeads$Deeds", "by", "[I", true)
  | 2 => ("TwoHeads$Deeds", "on", "[I", true)
  | 3 => ("TwoHeads$Deeds", "day", "[I", true)
  | 4 => ("TwoHeads$Deeds", "faith", "[I", true)
  | 5 => ("TwoHeads$Deeds", "hangsOn", "[I", true)
  | 6 => ("TwoHeads$Deeds", "lifted", "[I", true)
  | _ => ("TwoHeads$Deeds", "size", "I", false)
def tyX2 : Nat → FieldType := fun k => match k with
  | 0 => .array .int
  | 1 => .array .int
  | 2 => .array .int
  | 3 => .array .int
  | 4 => .array .int
  | 5 => .array .int
  | 6 => .array .int
  | _ => .int
abbrev wsX20 : List Cond := u_ws RX2 TX2 8
theorem nmX2 : ∀ a, a < 8 → ∀ b, b < 8 → a ≠ b → (TX2 a).2.1 ≠ (TX2 b).2.1 := by decide +kernel
theorem tyX2_ok : ∀ k, k < 8 → parseFieldDescriptor (TX2 k).2.2.1 = some (tyX2 k) := by decide +kernel
abbrev cX2_init : ByteArray := prog_4_method_1_code
def yX2_init : MethodName := ⟨RX2, "<init>", "()V"⟩
abbrev cX2_add : ByteArray := prog_4_method_2_code
def yX2_add : MethodName := ⟨RX2, "add", "(IIIII)I"⟩
abbrev cX2_rankOf : ByteArray := prog_4_method_3_code
def yX2_rankOf : MethodName := ⟨RX2, "rankOf", "(I)I"⟩
abbrev cX2_lastsFor : ByteArray := prog_4_method_4_code
def yX2_lastsFor : MethodName := ⟨RX2, "lastsFor", "(I)I"⟩
abbrev cX2_runsOn : ByteArray := prog_4_method_5_code
def yX2_runsOn : MethodName := ⟨RX2, "runsOn", "(II)Z"⟩
abbrev cX2_tell : ByteArray := prog_4_method_6_code
def yX2_tell : MethodName := ⟨RX2, "tell", "(II)I"⟩
def RX3 : String := "TwoHeads$Electors"
def TX3 : u_T := fun k => match k with
  | 0 => ("TwoHeads$Electors", "price", "[I", true)
  | 1 => ("TwoHeads$Electors", "clashes", "[I", true)
  | 2 => ("TwoHeads$Electors", "ours", "I", false)
  | _ => ("TwoHeads$Electors", "size", "I", false)
def tyX3 : Nat → FieldType := fun k => match k with
  | 0 => .array .int
  | 1 => .array .int
  | 2 => .int
  | _ => .int
abbrev wsX30 : List Cond := u_ws RX3 TX3 4
theorem nmX3 : ∀ a, a < 4 → ∀ b, b < 4 → a ≠ b → (TX3 a).2.1 ≠ (TX3 b).2.1 := by decide +kernel
theorem tyX3_ok : ∀ k, k < 4 → parseFieldDescriptor (TX3 k).2.2.1 = some (tyX3 k) := by decide +kernel
abbrev cX3_init : ByteArray := prog_5_method_1_code
def yX3_init : MethodName := ⟨RX3, "<init>", "()V"⟩
abbrev cX3_add : ByteArray := prog_5_method_2_code
def yX3_add : MethodName := ⟨RX3, "add", "(II)I"⟩
abbrev cX3_cheapest : ByteArray := prog_5_method_3_code
def yX3_cheapest : MethodName := ⟨RX3, "cheapest", "()I"⟩
def RX4 : String := "TwoHeads$Envoys"
def TX4 : u_T := fun k => match k with
  | 0 => ("TwoHeads$Envoys", "lands", "LTwoHeads$Lands;", true)
  | 1 => ("TwoHeads$Envoys", "order", "[I", true)
  | 2 => ("TwoHeads$Envoys", "best", "[I", true)
  | 3 => ("TwoHeads$Envoys", "size", "I", false)
  | _ => ("TwoHeads$Envoys", "mostWon", "I", false)
def tyX4 : Nat → FieldType := fun k => match k with
  | 0 => .object "TwoHeads$Lands"
  | 1 => .array .int
  | 2 => .array .int
  | 3 => .int
  | _ => .int
abbrev wsX40 : List Cond := u_ws RX4 TX4 5
theorem nmX4 : ∀ a, a < 5 → ∀ b, b < 5 → a ≠ b → (TX4 a).2.1 ≠ (TX4 b).2.1 := by decide +kernel
theorem tyX4_ok : ∀ k, k < 5 → parseFieldDescriptor (TX4 k).2.2.1 = some (tyX4 k) := by decide +kernel
abbrev cX4_init : ByteArray := prog_6_method_1_code
def yX4_init : MethodName := ⟨RX4, "<init>", "(LTwoHeads$Lands;)V"⟩
abbrev cX4_plan : ByteArray := prog_6_method_2_code
def yX4_plan : MethodName := ⟨RX4, "plan", "(II)V"⟩
abbrev cX4_goOn : ByteArray := prog_6_method_3_code
def yX4_goOn : MethodName := ⟨RX4, "goOn", "(IIIII)V"⟩
abbrev cX4_mayBeWon : ByteArray := prog_6_method_4_code
def yX4_mayBeWon : MethodName := ⟨RX4, "mayBeWon", "(III)I"⟩
abbrev cX4_giveUp : ByteArray := prog_6_method_5_code
def yX4_giveUp : MethodName := ⟨RX4, "giveUp", "(III)V"⟩
abbrev cX4_keep : ByteArray := prog_6_method_6_code
def yX4_keep : MethodName := ⟨RX4, "keep", "(I)V"⟩
def RX5 : String := "TwoHeads$Formula"
def TX5 : u_T := fun k => match k with
  | _ => ("TwoHeads$Formula", "code", "[I", true)
def tyX5 : Nat → FieldType := fun k => match k with
  | _ => .array .int
abbrev wsX50 : List Cond := u_ws RX5 TX5 1
theorem nmX5 : ∀ a, a < 1 → ∀ b, b < 1 → a ≠ b → (TX5 a).2.1 ≠ (TX5 b).2.1 := by decide +kernel
theorem tyX5_ok : ∀ k, k < 1 → parseFieldDescriptor (TX5 k).2.2.1 = some (tyX5 k) := by decide +kernel
abbrev cX5_init : ByteArray := prog_7_method_1_code
def yX5_init : MethodName := ⟨RX5, "<init>", "([I)V"⟩
abbrev cX5_valueFor : ByteArray := prog_7_method_2_code
def yX5_valueFor : MethodName := ⟨RX5, "valueFor", "([I[I)I"⟩
abbrev cX5_joined : ByteArray := prog_7_method_3_code
def yX5_joined : MethodName := ⟨RX5, "joined", "(III)I"⟩
def RX6 : String := "TwoHeads$Lands"
def TX6 : u_T := fun k => match k with
  | 0 => ("TwoHeads$Lands", "roads", "[[I", true)
  | 1 => ("TwoHeads$Lands", "ways", "[[I", true)
  | 2 => ("TwoHeads$Lands", "turnLand", "[I", true)
  | 3 => ("TwoHeads$Lands", "turnFrom", "[I", true)
  | 4 => ("TwoHeads$Lands", "turnSide", "[I", true)
  | 5 => ("TwoHeads$Lands", "turns", "I", false)
  | 6 => ("TwoHeads$Lands", "seats", "[I", true)
  | _ => ("TwoHeads$Lands", "bounds", "[I", true)
def tyX6 : Nat → FieldType := fun k => match k with
  | 0 => .array (.array .int)
  | 1 => .array (.array .int)
  | 2 => .array .int
  | 3 => .array .int
  | 4 => .array .int
  | 5 => .int
  | 6 => .array .int
  | _ => .array .int
abbrev wsX60 : List Cond := u_ws RX6 TX6 8
theorem nmX6 : ∀ a, a < 8 → ∀ b, b < 8 → a ≠ b → (TX6 a).2.1 ≠ (TX6 b).2.1 := by decide +kernel
theorem tyX6_ok : ∀ k, k < 8 → parseFieldDescriptor (TX6 k).2.2.1 = some (tyX6 k) := by decide +kernel
abbrev cX6_init : ByteArray := prog_8_method_1_code
def yX6_init : MethodName := ⟨RX6, "<init>", "()V"⟩
abbrev cX6_lay : ByteArray := prog_8_method_2_code
def yX6_lay : MethodName := ⟨RX6, "lay", "(III)V"⟩
abbrev cX6_measure : ByteArray := prog_8_method_3_code
def yX6_measure : MethodName := ⟨RX6, "measure", "()V"⟩
abbrev cX6_addTurn : ByteArray := prog_8_method_4_code
def yX6_addTurn : MethodName := ⟨RX6, "addTurn", "(III)I"⟩
abbrev cX6_turnOn : ByteArray := prog_8_method_5_code
def yX6_turnOn : MethodName := ⟨RX6, "turnOn", "(II)I"⟩
abbrev cX6_sideOn : ByteArray := prog_8_method_6_code
def yX6_sideOn : MethodName := ⟨RX6, "sideOn", "(II)I"⟩
abbrev cX6_sideIfTurned : ByteArray := prog_8_method_7_code
def yX6_sideIfTurned : MethodName := ⟨RX6, "sideIfTurned", "(IIII)I"⟩
abbrev cX6_within : ByteArray := prog_8_method_8_code
def yX6_within : MethodName := ⟨RX6, "within", "(II)I"⟩
abbrev cX6_holdingToOne : ByteArray := prog_8_method_9_code
def yX6_holdingToOne : MethodName := ⟨RX6, "holdingToOne", "(I)I"⟩
abbrev cX6_call : ByteArray := prog_8_method_10_code
def yX6_call : MethodName := ⟨RX6, "call", "(III)I"⟩
def RX7 : String := "TwoHeads$People"
def TX7 : u_T := fun k => match k with
  | 0 => ("TwoHeads$People", "land", "[I", true)
  | 1 => ("TwoHeads$People", "size", "I", false)
  | 2 => ("TwoHeads$People", "officeLand", "[I", true)
  | _ => ("TwoHeads$People", "sitter", "[I", true)
def tyX7 : Nat → FieldType := fun k => match k with
  | 0 => .array .int
  | 1 => .int
  | 2 => .array .int
  | _ => .array .int
abbrev wsX70 : List Cond := u_ws RX7 TX7 4
theorem nmX7 : ∀ a, a < 4 → ∀ b, b < 4 → a ≠ b → (TX7 a).2.1 ≠ (TX7 b).2.1 := by decide +kernel
theorem tyX7_ok : ∀ k, k < 4 → parseFieldDescriptor (TX7 k).2.2.1 = some (tyX7 k) := by decide +kernel
abbrev cX7_init : ByteArray := prog_9_method_1_code
def yX7_init : MethodName := ⟨RX7, "<init>", "()V"⟩
def RX8 : String := "TwoHeads$Reader"
def TX8 : u_T := fun k => match k with
  | 0 => ("TwoHeads$Reader", "tape", "[B", true)
  | 1 => ("TwoHeads$Reader", "size", "I", false)
  | 2 => ("TwoHeads$Reader", "binds", "LTwoHeads$Formula;", false)
  | 3 => ("TwoHeads$Reader", "saved", "LTwoHeads$Formula;", false)
  | 4 => ("TwoHeads$Reader", "at", "I", false)
  | 5 => ("TwoHeads$Reader", "tokens", "[I", true)
  | 6 => ("TwoHeads$Reader", "places", "[I", true)
  | 7 => ("TwoHeads$Reader", "values", "[I", true)
  | 8 => ("TwoHeads$Reader", "current", "I", false)
  | 9 => ("TwoHeads$Reader", "token", "I", false)
  | 10 => ("TwoHeads$Reader", "fault", "I", false)
  | 11 => ("TwoHeads$Reader", "code", "[I", true)
  | _ => ("TwoHeads$Reader", "codeSize", "I", false)
def tyX8 : Nat → FieldType := fun k => match k with
  | 0 => .array .byte
  | 1 => .int
  | 2 => .object "TwoHeads$Formula"
  | 3 => .object "TwoHeads$Formula"
  | 4 => .int
  | 5 => .array .int
  | 6 => .array .int
  | 7 => .array .int
  | 8 => .int
  | 9 => .int
  | 10 => .int
  | 11 => .array .int
  | _ => .int
abbrev wsX80 : List Cond := u_ws RX8 TX8 13
theorem nmX8 : ∀ a, a < 13 → ∀ b, b < 13 → a ≠ b → (TX8 a).2.1 ≠ (TX8 b).2.1 := by decide +kernel
theorem tyX8_ok : ∀ k, k < 13 → parseFieldDescriptor (TX8 k).2.2.1 = some (tyX8 k) := by decide +kernel
abbrev cX8_init : ByteArray := prog_10_method_1_code
def yX8_init : MethodName := ⟨RX8, "<init>", "()V"⟩
abbrev cX8_append : ByteArray := prog_10_method_2_code
def yX8_append : MethodName := ⟨RX8, "append", "(IJ)V"⟩
abbrev cX8_readTape : ByteArray := prog_10_method_3_code
def yX8_readTape : MethodName := ⟨RX8, "readTape", "()I"⟩
abbrev cX8_findTokens : ByteArray := prog_10_method_4_code
def yX8_findTokens : MethodName := ⟨RX8, "findTokens", "()V"⟩
abbrev cX8_skipBlanks : ByteArray := prog_10_method_5_code
def yX8_skipBlanks : MethodName := ⟨RX8, "skipBlanks", "()V"⟩
abbrev cX8_findToken : ByteArray := prog_10_method_6_code
def yX8_findToken : MethodName := ⟨RX8, "findToken", "(I)I"⟩
abbrev cX8_findNumber : ByteArray := prog_10_method_7_code
def yX8_findNumber : MethodName := ⟨RX8, "findNumber", "(I)I"⟩
abbrev cX8_findWord : ByteArray := prog_10_method_8_code
def yX8_findWord : MethodName := ⟨RX8, "findWord", "(I)I"⟩
abbrev cX8_nameFrom : ByteArray := prog_10_method_9_code
def yX8_nameFrom : MethodName := ⟨RX8, "nameFrom", "(I)I"⟩
abbrev cX8_keyFrom : ByteArray := prog_10_method_10_code
def yX8_keyFrom : MethodName := ⟨RX8, "keyFrom", "(I)I"⟩
abbrev cX8_spells : ByteArray := prog_10_method_11_code
def yX8_spells : MethodName := ⟨RX8, "spells", "(ILjava/lang/String;)Z"⟩
abbrev cX8_isLetter : ByteArray := prog_10_method_12_code
def yX8_isLetter : MethodName := ⟨RX8, "isLetter", "(B)Z"⟩
abbrev cX8_isDigit : ByteArray := prog_10_method_13_code
def yX8_isDigit : MethodName := ⟨RX8, "isDigit", "(B)Z"⟩
abbrev cX8_isSign : ByteArray := prog_10_method_14_code
def yX8_isSign : MethodName := ⟨RX8, "isSign", "(B)Z"⟩
abbrev cX8_readPart : ByteArray := prog_10_method_15_code
def yX8_readPart : MethodName := ⟨RX8, "readPart", "(I)LTwoHeads$Formula;"⟩
abbrev cX8_readEither : ByteArray := prog_10_method_16_code
def yX8_readEither : MethodName := ⟨RX8, "readEither", "(I)V"⟩
abbrev cX8_readBoth : ByteArray := prog_10_method_17_code
def yX8_readBoth : MethodName := ⟨RX8, "readBoth", "(I)V"⟩
abbrev cX8_readNot : ByteArray := prog_10_method_18_code
def yX8_readNot : MethodName := ⟨RX8, "readNot", "(I)V"⟩
abbrev cX8_readSum : ByteArray := prog_10_method_19_code
def yX8_readSum : MethodName := ⟨RX8, "readSum", "(I)V"⟩
abbrev cX8_readTerm : ByteArray := prog_10_method_20_code
def yX8_readTerm : MethodName := ⟨RX8, "readTerm", "(I)V"⟩
abbrev cX8_readOne : ByteArray := prog_10_method_21_code
def yX8_readOne : MethodName := ⟨RX8, "readOne", "(I)V"⟩
abbrev cX8_mayOpen : ByteArray := prog_10_method_22_code
def yX8_mayOpen : MethodName := ⟨RX8, "mayOpen", "(I)Z"⟩
abbrev cX8_expect : ByteArray := prog_10_method_23_code
def yX8_expect : MethodName := ⟨RX8, "expect", "(I)V"⟩
abbrev cX8_advance : ByteArray := prog_10_method_24_code
def yX8_advance : MethodName := ⟨RX8, "advance", "()V"⟩
abbrev cX8_fail : ByteArray := prog_10_method_25_code
def yX8_fail : MethodName := ⟨RX8, "fail", "()V"⟩
abbrev cX8_write : ByteArray := prog_10_method_26_code
def yX8_write : MethodName := ⟨RX8, "write", "(I)V"⟩
def RX9 : String := "TwoHeads$Rents"
def TX9 : u_T := fun k => match k with
  | 0 => ("TwoHeads$Rents", "office", "[I", true)
  | 1 => ("TwoHeads$Rents", "person", "[I", true)
  | 2 => ("TwoHeads$Rents", "coins", "[I", true)
  | 3 => ("TwoHeads$Rents", "day", "[I", true)
  | _ => ("TwoHeads$Rents", "size", "I", false)
def tyX9 : Nat → FieldType := fun k => match k with
  | 0 => .array .int
  | 1 => .array .int
  | 2 => .array .int
  | 3 => .array .int
  | _ => .int
abbrev wsX90 : List Cond := u_ws RX9 TX9 5
theorem nmX9 : ∀ a, a < 5 → ∀ b, b < 5 → a ≠ b → (TX9 a).2.1 ≠ (TX9 b).2.1 := by decide +kernel
theorem tyX9_ok : ∀ k, k < 5 → parseFieldDescriptor (TX9 k).2.2.1 = some (tyX9 k) := by decide +kernel
abbrev cX9_init : ByteArray := prog_11_method_1_code
def yX9_init : MethodName := ⟨RX9, "<init>", "()V"⟩
abbrev cX9_add : ByteArray := prog_11_method_2_code
def yX9_add : MethodName := ⟨RX9, "add", "(IIII)I"⟩
abbrev cX9_owedAgain : ByteArray := prog_11_method_3_code
def yX9_owedAgain : MethodName := ⟨RX9, "owedAgain", "(LTwoHeads$Court;II)J"⟩
def RX10 : String := "TwoHeads$Sheet"
def TX10 : u_T := fun k => match k with
  | 0 => ("TwoHeads$Sheet", "sort", "I", false)
  | 1 => ("TwoHeads$Sheet", "size", "I", false)
  | _ => ("TwoHeads$Sheet", "items", "[I", true)
def tyX10 : Nat → FieldType := fun k => match k with
  | 0 => .int
  | 1 => .int
  | _ => .array .int
abbrev wsX100 : List Cond := u_ws RX10 TX10 3
theorem nmX10 : ∀ a, a < 3 → ∀ b, b < 3 → a ≠ b → (TX10 a).2.1 ≠ (TX10 b).2.1 := by decide +kernel
theorem tyX10_ok : ∀ k, k < 3 → parseFieldDescriptor (TX10 k).2.2.1 = some (tyX10 k) := by decide +kernel
abbrev cX10_init : ByteArray := prog_12_method_1_code
def yX10_init : MethodName := ⟨RX10, "<init>", "()V"⟩
abbrev cX10_become : ByteArray := prog_12_method_2_code
def yX10_become : MethodName := ⟨RX10, "become", "(II)V"⟩
abbrev cX10_isMissing : ByteArray := prog_12_method_3_code
def yX10_isMissing : MethodName := ⟨RX10, "isMissing", "()Z"⟩
abbrev cX10_put : ByteArray := prog_12_method_4_code
def yX10_put : MethodName := ⟨RX10, "put", "(II)V"⟩
abbrev cX10_holds : ByteArray := prog_12_method_5_code
def yX10_holds : MethodName := ⟨RX10, "holds", "(II)Z"⟩
def RX11 : String := "TwoHeads"
def TX11 : u_T := fun k => match k with
  | 0 => ("TwoHeads", "lands", "LTwoHeads$Lands;", true)
  | 1 => ("TwoHeads", "people", "LTwoHeads$People;", true)
  | 2 => ("TwoHeads", "deeds", "LTwoHeads$Deeds;", true)
  | 3 => ("TwoHeads", "court", "LTwoHeads$Court;", true)
  | 4 => ("TwoHeads", "rents", "LTwoHeads$Rents;", true)
  | 5 => ("TwoHeads", "reader", "LTwoHeads$Reader;", true)
  | 6 => ("TwoHeads", "electors", "LTwoHeads$Electors;", true)
  | 7 => ("TwoHeads", "clauses", "LTwoHeads$Clauses;", true)
  | 8 => ("TwoHeads", "envoys", "LTwoHeads$Envoys;", true)
  | _ => ("TwoHeads", "sheets", "[LTwoHeads$Sheet;", true)
def tyX11 : Nat → FieldType := fun k => match k with
  | 0 => .object "TwoHeads$Lands"
  | 1 => .object "TwoHeads$People"
  | 2 => .object "TwoHeads$Deeds"
  | 3 => .object "TwoHeads$Court"
  | 4 => .object "TwoHeads$Rents"
  | 5 => .object "TwoHeads$Reader"
  | 6 => .object "TwoHeads$Electors"
  | 7 => .object "TwoHeads$Clauses"
  | 8 => .object "TwoHeads$Envoys"
  | _ => .array (.object "TwoHeads$Sheet")
abbrev wsX110 : List Cond := u_ws RX11 TX11 10
theorem nmX11 : ∀ a, a < 10 → ∀ b, b < 10 → a ≠ b → (TX11 a).2.1 ≠ (TX11 b).2.1 := by decide +kernel
theorem tyX11_ok : ∀ k, k < 10 → parseFieldDescriptor (TX11 k).2.2.1 = some (tyX11 k) := by decide +kernel
abbrev cX11_init : ByteArray := prog_1_method_1_code
def yX11_init : MethodName := ⟨RX11, "<init>", "()V"⟩
abbrev cX11_road : ByteArray := prog_1_method_2_code
def yX11_road : MethodName := ⟨RX11, "road", "(III)I"⟩
abbrev cX11_far : ByteArray := prog_1_method_3_code
def yX11_far : MethodName := ⟨RX11, "far", "(II)I"⟩
abbrev cX11_person : ByteArray := prog_1_method_4_code
def yX11_person : MethodName := ⟨RX11, "person", "(I)I"⟩
abbrev cX11_office : ByteArray := prog_1_method_5_code
def yX11_office : MethodName := ⟨RX11, "office", "(II)I"⟩
abbrev cX11_seat : ByteArray := prog_1_method_6_code
def yX11_seat : MethodName := ⟨RX11, "seat", "(II)I"⟩
abbrev cX11_officeTold : ByteArray := prog_1_method_7_code
def yX11_officeTold : MethodName := ⟨RX11, "officeTold", "(II)I"⟩
abbrev cX11_turn : ByteArray := prog_1_method_8_code
def yX11_turn : MethodName := ⟨RX11, "turn", "(III)I"⟩
abbrev cX11_side : ByteArray := prog_1_method_9_code
def yX11_side : MethodName := ⟨RX11, "side", "(II)I"⟩
abbrev cX11_changed : ByteArray := prog_1_method_10_code
def yX11_changed : MethodName := ⟨RX11, "changed", "(III)I"⟩
abbrev cX11_act : ByteArray := prog_1_method_11_code
def yX11_act : MethodName := ⟨RX11, "act", "(IIIII)I"⟩
abbrev cX11_hang : ByteArray := prog_1_method_12_code
def yX11_hang : MethodName := ⟨RX11, "hang", "(II)I"⟩
abbrev cX11_lift : ByteArray := prog_1_method_13_code
def yX11_lift : MethodName := ⟨RX11, "lift", "(II)I"⟩
abbrev cX11_actTold : ByteArray := prog_1_method_14_code
def yX11_actTold : MethodName := ⟨RX11, "actTold", "(II)I"⟩
abbrev cX11_feed : ByteArray := prog_1_method_15_code
def yX11_feed : MethodName := ⟨RX11, "feed", "(IJ)I"⟩
abbrev cX11_text : ByteArray := prog_1_method_16_code
def yX11_text : MethodName := ⟨RX11, "text", "()I"⟩
abbrev cX11_rule : ByteArray := prog_1_method_17_code
def yX11_rule : MethodName := ⟨RX11, "rule", "(II)I"⟩
abbrev cX11_says : ByteArray := prog_1_method_18_code
def yX11_says : MethodName := ⟨RX11, "says", "(III)J"⟩
abbrev cX11_acts : ByteArray := prog_1_method_19_code
def yX11_acts : MethodName := ⟨RX11, "acts", "(II)I"⟩
abbrev cX11_felled : ByteArray := prog_1_method_20_code
def yX11_felled : MethodName := ⟨RX11, "felled", "(II)I"⟩
abbrev cX11_inForce : ByteArray := prog_1_method_21_code
def yX11_inForce : MethodName := ⟨RX11, "inForce", "(II)I"⟩
abbrev cX11_byRight : ByteArray := prog_1_method_22_code
def yX11_byRight : MethodName := ⟨RX11, "byRight", "(III)I"⟩
abbrev cX11_quarrels : ByteArray := prog_1_method_23_code
def yX11_quarrels : MethodName := ⟨RX11, "quarrels", "(I)I"⟩
abbrev cX11_known : ByteArray := prog_1_method_24_code
def yX11_known : MethodName := ⟨RX11, "known", "(II)I"⟩
abbrev cX11_crossed : ByteArray := prog_1_method_25_code
def yX11_crossed : MethodName := ⟨RX11, "crossed", "(II)I"⟩
abbrev cX11_pay : ByteArray := prog_1_method_26_code
def yX11_pay : MethodName := ⟨RX11, "pay", "(IIII)I"⟩
abbrev cX11_owed : ByteArray := prog_1_method_27_code
def yX11_owed : MethodName := ⟨RX11, "owed", "(II)J"⟩
abbrev cX11_elector : ByteArray := prog_1_method_28_code
def yX11_elector : MethodName := ⟨RX11, "elector", "(II)I"⟩
abbrev cX11_clash : ByteArray := prog_1_method_29_code
def yX11_clash : MethodName := ⟨RX11, "clash", "(II)I"⟩
abbrev cX11_bought : ByteArray := prog_1_method_30_code
def yX11_bought : MethodName := ⟨RX11, "bought", "(I)I"⟩
abbrev cX11_seats : ByteArray := prog_1_method_31_code
def yX11_seats : MethodName := ⟨RX11, "seats", "(II)I"⟩
abbrev cX11_council : ByteArray := prog_1_method_32_code
def yX11_council : MethodName := ⟨RX11, "council", "(IIII)I"⟩
abbrev cX11_clause : ByteArray := prog_1_method_33_code
def yX11_clause : MethodName := ⟨RX11, "clause", "(I)I"⟩
abbrev cX11_worth : ByteArray := prog_1_method_34_code
def yX11_worth : MethodName := ⟨RX11, "worth", "(III)I"⟩
abbrev cX11_against : ByteArray := prog_1_method_35_code
def yX11_against : MethodName := ⟨RX11, "against", "(II)I"⟩
abbrev cX11_settling : ByteArray := prog_1_method_36_code
def yX11_settling : MethodName := ⟨RX11, "settling", "(II)I"⟩
abbrev cX11_bound : ByteArray := prog_1_method_37_code
def yX11_bound : MethodName := ⟨RX11, "bound", "(II)I"⟩
abbrev cX11_journey : ByteArray := prog_1_method_38_code
def yX11_journey : MethodName := ⟨RX11, "journey", "(III)I"⟩
abbrev cX11_count : ByteArray := prog_1_method_39_code
def yX11_count : MethodName := ⟨RX11, "count", "(I)I"⟩
abbrev cX11_sheet : ByteArray := prog_1_method_40_code
def yX11_sheet : MethodName := ⟨RX11, "sheet", "(III)I"⟩
abbrev cX11_cell : ByteArray := prog_1_method_41_code
def yX11_cell : MethodName := ⟨RX11, "cell", "(III)I"⟩
abbrev cX11_copy : ByteArray := prog_1_method_42_code
def yX11_copy : MethodName := ⟨RX11, "copy", "(IIIII)I"⟩
abbrev cX11_seatsRow : ByteArray := prog_1_method_43_code
def yX11_seatsRow : MethodName := ⟨RX11, "seatsRow", "(IIII)I"⟩
abbrev cX11_taken : ByteArray := prog_1_method_44_code
def yX11_taken : MethodName := ⟨RX11, "taken", "(II)I"⟩
abbrev cX11_isWithin : ByteArray := prog_1_method_45_code
def yX11_isWithin : MethodName := ⟨RX11, "isWithin", "(III)Z"⟩
abbrev cX11_isLand : ByteArray := prog_1_method_46_code
def yX11_isLand : MethodName := ⟨RX11, "isLand", "(I)Z"⟩
abbrev cX11_isDay : ByteArray := prog_1_method_47_code
def yX11_isDay : MethodName := ⟨RX11, "isDay", "(I)Z"⟩
abbrev cX11_isSide : ByteArray := prog_1_method_48_code
def yX11_isSide : MethodName := ⟨RX11, "isSide", "(I)Z"⟩
abbrev cX11_isOffice : ByteArray := prog_1_method_49_code
def yX11_isOffice : MethodName := ⟨RX11, "isOffice", "(I)Z"⟩
abbrev cX11_isSheet : ByteArray := prog_1_method_50_code
def yX11_isSheet : MethodName := ⟨RX11, "isSheet", "(I)Z"⟩
abbrev cX11_isPerson : ByteArray := prog_1_method_51_code
def yX11_isPerson : MethodName := ⟨RX11, "isPerson", "(I)Z"⟩
abbrev cX11_isAct : ByteArray := prog_1_method_52_code
def yX11_isAct : MethodName := ⟨RX11, "isAct", "(I)Z"⟩
abbrev cX11_isClause : ByteArray := prog_1_method_53_code
def yX11_isClause : MethodName := ⟨RX11, "isClause", "(I)Z"⟩
abbrev cX11_isUnder : ByteArray := prog_1_method_54_code
def yX11_isUnder : MethodName := ⟨RX11, "isUnder", "(II)Z"⟩
abbrev cX11_has : ByteArray := prog_1_method_55_code
def yX11_has : MethodName := ⟨RX11, "has", "(II)Z"⟩
abbrev cX11_sumOver : ByteArray := prog_1_method_56_code
def yX11_sumOver : MethodName := ⟨RX11, "sumOver", "([II)I"⟩
abbrev cX11_goTogether : ByteArray := prog_1_method_57_code
def yX11_goTogether : MethodName := ⟨RX11, "goTogether", "([II)Z"⟩
abbrev cX11_setApart : ByteArray := prog_1_method_58_code
def yX11_setApart : MethodName := ⟨RX11, "setApart", "([III)I"⟩
def RX12 : String := "TwoHeadsModel"
def TX12 : u_T := fun k => match k with
  | 0 => ("TwoHeadsModel", "road", "[I", true)
  | 1 => ("TwoHeadsModel", "far", "[I", true)
  | 2 => ("TwoHeadsModel", "persons", "I", false)
  | 3 => ("TwoHeadsModel", "turns", "I", false)
  | 4 => ("TwoHeadsModel", "landOf", "[I", true)
  | 5 => ("TwoHeadsModel", "officeLand", "[I", true)
  | 6 => ("TwoHeadsModel", "sits", "[I", true)
  | 7 => ("TwoHeadsModel", "turnLand", "[I", true)
  | 8 => ("TwoHeadsModel", "turnDay", "[I", true)
  | 9 => ("TwoHeadsModel", "turnSide", "[I", true)
  | 10 => ("TwoHeadsModel", "acts", "I", false)
  | 11 => ("TwoHeadsModel", "kind", "[I", true)
  | 12 => ("TwoHeadsModel", "by", "[I", true)
  | 13 => ("TwoHeadsModel", "on", "[I", true)
  | 14 => ("TwoHeadsModel", "day", "[I", true)
  | 15 => ("TwoHeadsModel", "faith", "[I", true)
  | 16 => ("TwoHeadsModel", "hangs", "[I", true)
  | 17 => ("TwoHeadsModel", "lifted", "[I", true)
  | 18 => ("TwoHeadsModel", "tape", "[B", true)
  | 19 => ("TwoHeadsModel", "taped", "I", false)
  | 20 => ("TwoHeadsModel", "texts", "I", false)
  | 21 => ("TwoHeadsModel", "ruleOf", "[I", true)
  | 22 => ("TwoHeadsModel", "many", "[I", true)
  | 23 => ("TwoHeadsModel", "row", "[I", true)
  | 24 => ("TwoHeadsModel", "at", "I", false)
  | 25 => ("TwoHeadsModel", "token", "I", false)
  | 26 => ("TwoHeadsModel", "value", "I", false)
  | 27 => ("TwoHeadsModel", "begin", "I", false)
  | 28 => ("TwoHeadsModel", "waits", "[I", true)
  | 29 => ("TwoHeadsModel", "compared", "[Z", true)
  | 30 => ("TwoHeadsModel", "held", "I", false)
  | 31 => ("TwoHeadsModel", "brackets", "I", false)
  | 32 => ("TwoHeadsModel", "open", "I", false)
  | 33 => ("TwoHeadsModel", "of", "I", false)
  | 34 => ("TwoHeadsModel", "facts", "[I", true)
  | 35 => ("TwoHeadsModel", "pile", "[I", true)
  | 36 => ("TwoHeadsModel", "payments", "I", false)
  | 37 => ("TwoHeadsModel", "payOffice", "[I", true)
  | 38 => ("TwoHeadsModel", "payTo", "[I", true)
  | 39 => ("TwoHeadsModel", "coins", "[I", true)
  | 40 => ("TwoHeadsModel", "payDay", "[I", true)
  | 41 => ("TwoHeadsModel", "electors", "I", false)
  | 42 => ("TwoHeadsModel", "price", "[I", true)
  | 43 => ("TwoHeadsModel", "ours", "[I", true)
  | 44 => ("TwoHeadsModel", "clashes", "[I", true)
  | 45 => ("TwoHeadsModel", "seats", "[I", true)
  | 46 => ("TwoHeadsModel", "clauses", "I", false)
  | 47 => ("TwoHeadsModel", "undoes", "[I", true)
  | 48 => ("TwoHeadsModel", "worths", "[I", true)
  | 49 => ("TwoHeadsModel", "notWith", "[I", true)
  | 50 => ("TwoHeadsModel", "bounds", "[I", true)
  | 51 => ("TwoHeadsModel", "order", "[I", true)
  | 52 => ("TwoHeadsModel", "bestOrder", "[I", true)
  | 53 => ("TwoHeadsModel", "goal", "[I", true)
  | 54 => ("TwoHeadsModel", "goals", "I", false)
  | 55 => ("TwoHeadsModel", "sort", "[I", true)
  | 56 => ("TwoHeadsModel", "size", "[I", true)
  | 57 => ("TwoHeadsModel", "item", "[I", true)
  | _ => ("TwoHeadsModel", "aside", "[I", true)
def tyX12 : Nat → FieldType := fun k => match k with
  | 0 => .array .int
  | 1 => .array .int
  | 2 => .int
  | 3 => .int
  | 4 => .array .int
  | 5 => .array .int
  | 6 => .array .int
  | 7 => .array .int
  | 8 => .array .int
  | 9 => .array .int
  | 10 => .int
  | 11 => .array .int
  | 12 => .array .int
  | 13 => .array .int
  | 14 => .array .int
  | 15 => .array .int
  | 16 => .array .int
  | 17 => .array .int
  | 18 => .array .byte
  | 19 => .int
  | 20 => .int
  | 21 => .array .int
  | 22 => .array .int
  | 23 => .array .int
  | 24 => .int
  | 25 => .int
  | 26 => .int
  | 27 => .int
  | 28 => .array .int
  | 29 => .array .boolean
  | 30 => .int
  | 31 => .int
  | 32 => .int
  | 33 => .int
  | 34 => .array .int
  | 35 => .array .int
  | 36 => .int
  | 37 => .array .int
  | 38 => .array .int
  | 39 => .array .int
  | 40 => .array .int
  | 41 => .int
  | 42 => .array .int
  | 43 => .array .int
  | 44 => .array .int
  | 45 => .array .int
  | 46 => .int
  | 47 => .array .int
  | 48 => .array .int
  | 49 => .array .int
  | 50 => .array .int
  | 51 => .array .int
  | 52 => .array .int
  | 53 => .array .int
  | 54 => .int
  | 55 => .array .int
  | 56 => .array .int
  | 57 => .array .int
  | _ => .array .int
abbrev wsX120 : List Cond := u_ws RX12 TX12 59
theorem nmX12 : ∀ a, a < 59 → ∀ b, b < 59 → a ≠ b → (TX12 a).2.1 ≠ (TX12 b).2.1 := by decide +kernel
theorem tyX12_ok : ∀ k, k < 59 → parseFieldDescriptor (TX12 k).2.2.1 = some (tyX12 k) := by decide +kernel
abbrev cX12_in : ByteArray := prog_14_method_1_code
def yX12_in : MethodName := ⟨RX12, "in", "(III)Z"⟩
abbrev cX12_init : ByteArray := prog_14_method_2_code
def yX12_init : MethodName := ⟨RX12, "<init>", "()V"⟩
abbrev cX12_isLand : ByteArray := prog_14_method_3_code
def yX12_isLand : MethodName := ⟨RX12, "isLand", "(I)Z"⟩
abbrev cX12_isDay : ByteArray := prog_14_method_4_code
def yX12_isDay : MethodName := ⟨RX12, "isDay", "(I)Z"⟩
abbrev cX12_isSide : ByteArray := prog_14_method_5_code
def yX12_isSide : MethodName := ⟨RX12, "isSide", "(I)Z"⟩
abbrev cX12_road : ByteArray := prog_14_method_6_code
def yX12_road : MethodName := ⟨RX12, "road", "(III)I"⟩
abbrev cX12_findFar : ByteArray := prog_14_method_7_code
def yX12_findFar : MethodName := ⟨RX12, "findFar", "()V"⟩
abbrev cX12_far : ByteArray := prog_14_method_8_code
def yX12_far : MethodName := ⟨RX12, "far", "(II)I"⟩
abbrev cX12_isPerson : ByteArray := prog_14_method_9_code
def yX12_isPerson : MethodName := ⟨RX12, "isPerson", "(I)Z"⟩
abbrev cX12_isOffice : ByteArray := prog_14_method_10_code
def yX12_isOffice : MethodName := ⟨RX12, "isOffice", "(I)Z"⟩
abbrev cX12_person : ByteArray := prog_14_method_11_code
def yX12_person : MethodName := ⟨RX12, "person", "(I)I"⟩
abbrev cX12_office : ByteArray := prog_14_method_12_code
def yX12_office : MethodName := ⟨RX12, "office", "(II)I"⟩
abbrev cX12_seat : ByteArray := prog_14_method_13_code
def yX12_seat : MethodName := ⟨RX12, "seat", "(II)I"⟩
abbrev cX12_officeTold : ByteArray := prog_14_method_14_code
def yX12_officeTold : MethodName := ⟨RX12, "officeTold", "(II)I"⟩
abbrev cX12_isTurn : ByteArray := prog_14_method_15_code
def yX12_isTurn : MethodName := ⟨RX12, "isTurn", "(III)Z"⟩
abbrev cX12_note : ByteArray := prog_14_method_16_code
def yX12_note : MethodName := ⟨RX12, "note", "(III)V"⟩
abbrev cX12_turn : ByteArray := prog_14_method_17_code
def yX12_turn : MethodName := ⟨RX12, "turn", "(III)I"⟩
abbrev cX12_sideOf : ByteArray := prog_14_method_18_code
def yX12_sideOf : MethodName := ⟨RX12, "sideOf", "(II)I"⟩
abbrev cX12_side : ByteArray := prog_14_method_19_code
def yX12_side : MethodName := ⟨RX12, "side", "(II)I"⟩
abbrev cX12_changed : ByteArray := prog_14_method_20_code
def yX12_changed : MethodName := ⟨RX12, "changed", "(III)I"⟩
abbrev cX12_isAct : ByteArray := prog_14_method_21_code
def yX12_isAct : MethodName := ⟨RX12, "isAct", "(I)Z"⟩
abbrev cX12_act : ByteArray := prog_14_method_22_code
def yX12_act : MethodName := ⟨RX12, "act", "(IIIII)I"⟩
abbrev cX12_ones : ByteArray := prog_14_method_23_code
def yX12_ones : MethodName := ⟨RX12, "ones", "(I)I"⟩
abbrev cX12_hang : ByteArray := prog_14_method_24_code
def yX12_hang : MethodName := ⟨RX12, "hang", "(II)I"⟩
abbrev cX12_lift : ByteArray := prog_14_method_25_code
def yX12_lift : MethodName := ⟨RX12, "lift", "(II)I"⟩
abbrev cX12_rankOf : ByteArray := prog_14_method_26_code
def yX12_rankOf : MethodName := ⟨RX12, "rankOf", "(I)I"⟩
abbrev cX12_lastsOf : ByteArray := prog_14_method_27_code
def yX12_lastsOf : MethodName := ⟨RX12, "lastsOf", "(I)I"⟩
abbrev cX12_actTold : ByteArray := prog_14_method_28_code
def yX12_actTold : MethodName := ⟨RX12, "actTold", "(II)I"⟩
abbrev cX12_ruleZero : ByteArray := prog_14_method_29_code
def yX12_ruleZero : MethodName := ⟨RX12, "ruleZero", "()V"⟩
abbrev cX12_feed : ByteArray := prog_14_method_30_code
def yX12_feed : MethodName := ⟨RX12, "feed", "(IJ)I"⟩
abbrev cX12_isLetter : ByteArray := prog_14_method_31_code
def yX12_isLetter : MethodName := ⟨RX12, "isLetter", "(I)Z"⟩
abbrev cX12_isDigit : ByteArray := prog_14_method_32_code
def yX12_isDigit : MethodName := ⟨RX12, "isDigit", "(I)Z"⟩
abbrev cX12_isWord : ByteArray := prog_14_method_33_code
def yX12_isWord : MethodName := ⟨RX12, "isWord", "(J)Z"⟩
abbrev cX12_wordToken : ByteArray := prog_14_method_34_code
def yX12_wordToken : MethodName := ⟨RX12, "wordToken", "()V"⟩
abbrev cX12_next : ByteArray := prog_14_method_35_code
def yX12_next : MethodName := ⟨RX12, "next", "()V"⟩
abbrev cX12_isKey : ByteArray := prog_14_method_36_code
def yX12_isKey : MethodName := ⟨RX12, "isKey", "(I)Z"⟩
abbrev cX12_isSign : ByteArray := prog_14_method_37_code
def yX12_isSign : MethodName := ⟨RX12, "isSign", "(I)Z"⟩
abbrev cX12_put : ByteArray := prog_14_method_38_code
def yX12_put : MethodName := ⟨RX12, "put", "(I)V"⟩
abbrev cX12_rank : ByteArray := prog_14_method_39_code
def yX12_rank : MethodName := ⟨RX12, "rank", "(I)I"⟩
abbrev cX12_settle : ByteArray := prog_14_method_40_code
def yX12_settle : MethodName := ⟨RX12, "settle", "(I)V"⟩
abbrev cX12_hold : ByteArray := prog_14_method_41_code
def yX12_hold : MethodName := ⟨RX12, "hold", "(I)V"⟩
abbrev cX12_ahead : ByteArray := prog_14_method_42_code
def yX12_ahead : MethodName := ⟨RX12, "ahead", "(Z)Z"⟩
abbrev cX12_signOf : ByteArray := prog_14_method_43_code
def yX12_signOf : MethodName := ⟨RX12, "signOf", "()I"⟩
abbrev cX12_part : ByteArray := prog_14_method_44_code
def yX12_part : MethodName := ⟨RX12, "part", "()Z"⟩
abbrev cX12_isText : ByteArray := prog_14_method_45_code
def yX12_isText : MethodName := ⟨RX12, "isText", "()Z"⟩
abbrev cX12_text : ByteArray := prog_14_method_46_code
def yX12_text : MethodName := ⟨RX12, "text", "()I"⟩
abbrev cX12_rule : ByteArray := prog_14_method_47_code
def yX12_rule : MethodName := ⟨RX12, "rule", "(II)I"⟩
abbrev cX12_both : ByteArray := prog_14_method_48_code
def yX12_both : MethodName := ⟨RX12, "both", "(III)I"⟩
abbrev cX12_work : ByteArray := prog_14_method_49_code
def yX12_work : MethodName := ⟨RX12, "work", "(II)I"⟩
abbrev cX12_ask : ByteArray := prog_14_method_50_code
def yX12_ask : MethodName := ⟨RX12, "ask", "(III)I"⟩
abbrev cX12_says : ByteArray := prog_14_method_51_code
def yX12_says : MethodName := ⟨RX12, "says", "(III)J"⟩
abbrev cX12_soundBy : ByteArray := prog_14_method_52_code
def yX12_soundBy : MethodName := ⟨RX12, "soundBy", "(I)I"⟩
abbrev cX12_savedBy : ByteArray := prog_14_method_53_code
def yX12_savedBy : MethodName := ⟨RX12, "savedBy", "(I)I"⟩
abbrev cX12_goodOf : ByteArray := prog_14_method_54_code
def yX12_goodOf : MethodName := ⟨RX12, "goodOf", "(II)I"⟩
abbrev cX12_firmOf : ByteArray := prog_14_method_55_code
def yX12_firmOf : MethodName := ⟨RX12, "firmOf", "(II)I"⟩
abbrev cX12_goodBy : ByteArray := prog_14_method_56_code
def yX12_goodBy : MethodName := ⟨RX12, "goodBy", "(I)I"⟩
abbrev cX12_acts : ByteArray := prog_14_method_57_code
def yX12_acts : MethodName := ⟨RX12, "acts", "(II)I"⟩
abbrev cX12_felled : ByteArray := prog_14_method_58_code
def yX12_felled : MethodName := ⟨RX12, "felled", "(II)I"⟩
abbrev cX12_isOn : ByteArray := prog_14_method_59_code
def yX12_isOn : MethodName := ⟨RX12, "isOn", "(II)Z"⟩
abbrev cX12_namingOf : ByteArray := prog_14_method_60_code
def yX12_namingOf : MethodName := ⟨RX12, "namingOf", "(III)I"⟩
abbrev cX12_inForce : ByteArray := prog_14_method_61_code
def yX12_inForce : MethodName := ⟨RX12, "inForce", "(II)I"⟩
abbrev cX12_rightOf : ByteArray := prog_14_method_62_code
def yX12_rightOf : MethodName := ⟨RX12, "rightOf", "(III)I"⟩
abbrev cX12_byRight : ByteArray := prog_14_method_63_code
def yX12_byRight : MethodName := ⟨RX12, "byRight", "(III)I"⟩
abbrev cX12_quarrels : ByteArray := prog_14_method_64_code
def yX12_quarrels : MethodName := ⟨RX12, "quarrels", "(I)I"⟩
abbrev cX12_knownIn : ByteArray := prog_14_method_65_code
def yX12_knownIn : MethodName := ⟨RX12, "knownIn", "(II)I"⟩
abbrev cX12_known : ByteArray := prog_14_method_66_code
def yX12_known : MethodName := ⟨RX12, "known", "(II)I"⟩
abbrev cX12_knew : ByteArray := prog_14_method_67_code
def yX12_knew : MethodName := ⟨RX12, "knew", "(II)Z"⟩
abbrev cX12_crossed : ByteArray := prog_14_method_68_code
def yX12_crossed : MethodName := ⟨RX12, "crossed", "(II)I"⟩
abbrev cX12_pay : ByteArray := prog_14_method_69_code
def yX12_pay : MethodName := ⟨RX12, "pay", "(IIII)I"⟩
abbrev cX12_owed : ByteArray := prog_14_method_70_code
def yX12_owed : MethodName := ⟨RX12, "owed", "(II)J"⟩
abbrev cX12_elector : ByteArray := prog_14_method_71_code
def yX12_elector : MethodName := ⟨RX12, "elector", "(II)I"⟩
abbrev cX12_clash : ByteArray := prog_14_method_72_code
def yX12_clash : MethodName := ⟨RX12, "clash", "(II)I"⟩
abbrev cX12_priceOf : ByteArray := prog_14_method_73_code
def yX12_priceOf : MethodName := ⟨RX12, "priceOf", "(I)I"⟩
abbrev cX12_canBuy : ByteArray := prog_14_method_74_code
def yX12_canBuy : MethodName := ⟨RX12, "canBuy", "(I)Z"⟩
abbrev cX12_bought : ByteArray := prog_14_method_75_code
def yX12_bought : MethodName := ⟨RX12, "bought", "(I)I"⟩
abbrev cX12_seats : ByteArray := prog_14_method_76_code
def yX12_seats : MethodName := ⟨RX12, "seats", "(II)I"⟩
abbrev cX12_seatsOf : ByteArray := prog_14_method_77_code
def yX12_seatsOf : MethodName := ⟨RX12, "seatsOf", "(III)I"⟩
abbrev cX12_council : ByteArray := prog_14_method_78_code
def yX12_council : MethodName := ⟨RX12, "council", "(IIII)I"⟩
abbrev cX12_isClause : ByteArray := prog_14_method_79_code
def yX12_isClause : MethodName := ⟨RX12, "isClause", "(I)Z"⟩
abbrev cX12_clause : ByteArray := prog_14_method_80_code
def yX12_clause : MethodName := ⟨RX12, "clause", "(I)I"⟩
abbrev cX12_worth : ByteArray := prog_14_method_81_code
def yX12_worth : MethodName := ⟨RX12, "worth", "(III)I"⟩
abbrev cX12_against : ByteArray := prog_14_method_82_code
def yX12_against : MethodName := ⟨RX12, "against", "(II)I"⟩
abbrev cX12_takersOf : ByteArray := prog_14_method_83_code
def yX12_takersOf : MethodName := ⟨RX12, "takersOf", "(I)I"⟩
abbrev cX12_undoneBy : ByteArray := prog_14_method_84_code
def yX12_undoneBy : MethodName := ⟨RX12, "undoneBy", "(II)I"⟩
abbrev cX12_goTogether : ByteArray := prog_14_method_85_code
def yX12_goTogether : MethodName := ⟨RX12, "goTogether", "(I)Z"⟩
abbrev cX12_isBetter : ByteArray := prog_14_method_86_code
def yX12_isBetter : MethodName := ⟨RX12, "isBetter", "(III)Z"⟩
abbrev cX12_settling : ByteArray := prog_14_method_87_code
def yX12_settling : MethodName := ⟨RX12, "settling", "(II)I"⟩
abbrev cX12_bound : ByteArray := prog_14_method_88_code
def yX12_bound : MethodName := ⟨RX12, "bound", "(II)I"⟩
abbrev cX12_wonBy : ByteArray := prog_14_method_89_code
def yX12_wonBy : MethodName := ⟨RX12, "wonBy", "(I)I"⟩
abbrev cX12_nextOrder : ByteArray := prog_14_method_90_code
def yX12_nextOrder : MethodName := ⟨RX12, "nextOrder", "()Z"⟩
abbrev cX12_journey : ByteArray := prog_14_method_91_code
def yX12_journey : MethodName := ⟨RX12, "journey", "(III)I"⟩
abbrev cX12_count : ByteArray := prog_14_method_92_code
def yX12_count : MethodName := ⟨RX12, "count", "(I)I"⟩
abbrev cX12_isSheet : ByteArray := prog_14_method_93_code
def yX12_isSheet : MethodName := ⟨RX12, "isSheet", "(I)Z"⟩
abbrev cX12_sheet : ByteArray := prog_14_method_94_code
def yX12_sheet : MethodName := ⟨RX12, "sheet", "(III)I"⟩
abbrev cX12_cell : ByteArray := prog_14_method_95_code
def yX12_cell : MethodName := ⟨RX12, "cell", "(III)I"⟩
abbrev cX12_copy : ByteArray := prog_14_method_96_code
def yX12_copy : MethodName := ⟨RX12, "copy", "(IIIII)I"⟩
abbrev cX12_seatsRow : ByteArray := prog_14_method_97_code
def yX12_seatsRow : MethodName := ⟨RX12, "seatsRow", "(IIII)I"⟩
abbrev cX12_isUnder : ByteArray := prog_14_method_98_code
def yX12_isUnder : MethodName := ⟨RX12, "isUnder", "(II)Z"⟩
abbrev cX12_taken : ByteArray := prog_14_method_99_code
def yX12_taken : MethodName := ⟨RX12, "taken", "(II)I"⟩
def RJx145de : String := "java/io/Serializable"
def TJx145de : u_T := fun k => match k with
  | _ => ("", "", "", false)
def tyJx145de : Nat → FieldType := fun k => match k with
  | _ => .int
abbrev wsJx145de0 : List Cond := u_ws RJx145de TJx145de 0
theorem nmJx145de : ∀ a, a < 0 → ∀ b, b < 0 → a ≠ b → (TJx145de a).2.1 ≠ (TJx145de b).2.1 := by decide +kernel
theorem tyJx145de_ok : ∀ k, k < 0 → parseFieldDescriptor (TJx145de k).2.2.1 = some (tyJx145de k) := by decide +kernel
def RJx9f9b0 : String := "java/lang/CharSequence"
def TJx9f9b0 : u_T := fun k => match k with
  | _ => ("", "", "", false)
def tyJx9f9b0 : Nat → FieldType := fun k => match k with
  | _ => .int
abbrev wsJx9f9b00 : List Cond := u_ws RJx9f9b0 TJx9f9b0 0
theorem nmJx9f9b0 : ∀ a, a < 0 → ∀ b, b < 0 → a ≠ b → (TJx9f9b0 a).2.1 ≠ (TJx9f9b0 b).2.1 := by decide +kernel
theorem tyJx9f9b0_ok : ∀ k, k < 0 → parseFieldDescriptor (TJx9f9b0 k).2.2.1 = some (tyJx9f9b0 k) := by decide +kernel
def RJx8e188 : String := "java/lang/Cloneable"
def TJx8e188 : u_T := fun k => match k with
  | _ => ("", "", "", false)
def tyJx8e188 : Nat → FieldType := fun k => match k with
  | _ => .int
abbrev wsJx8e1880 : List Cond := u_ws RJx8e188 TJx8e188 0
theorem nmJx8e188 : ∀ a, a < 0 → ∀ b, b < 0 → a ≠ b → (TJx8e188 a).2.1 ≠ (TJx8e188 b).2.1 := by decide +kernel
theorem tyJx8e188_ok : ∀ k, k < 0 → parseFieldDescriptor (TJx8e188 k).2.2.1 = some (tyJx8e188 k) := by decide +kernel
def RJxb160c : String := "java/lang/Comparable"
def TJxb160c : u_T := fun k => match k with
  | _ => ("", "", "", false)
def tyJxb160c : Nat → FieldType := fun k => match k with
  | _ => .int
abbrev wsJxb160c0 : List Cond := u_ws RJxb160c TJxb160c 0
theorem nmJxb160c : ∀ a, a < 0 → ∀ b, b < 0 → a ≠ b → (TJxb160c a).2.1 ≠ (TJxb160c b).2.1 := by decide +kernel
theorem tyJxb160c_ok : ∀ k, k < 0 → parseFieldDescriptor (TJxb160c k).2.2.1 = some (tyJxb160c k) := by decide +kernel
def RJ6 : String := "java/lang/Integer"
def TJ6 : u_T := fun k => match k with
  | _ => ("", "", "", false)
def tyJ6 : Nat → FieldType := fun k => match k with
  | _ => .int
abbrev wsJ60 : List Cond := u_ws RJ6 TJ6 0
theorem nmJ6 : ∀ a, a < 0 → ∀ b, b < 0 → a ≠ b → (TJ6 a).2.1 ≠ (TJ6 b).2.1 := by decide +kernel
theorem tyJ6_ok : ∀ k, k < 0 → parseFieldDescriptor (TJ6 k).2.2.1 = some (tyJ6 k) := by decide +kernel
abbrev cJ6_bitCount_0f7a4 : ByteArray := prog_16_method_49_code
def yJ6_bitCount_0f7a4 : MethodName := ⟨RJ6, "bitCount", "(I)I"⟩
def RJ9 : String := "java/lang/Math"
def TJ9 : u_T := fun k => match k with
  | _ => ("", "", "", false)
def tyJ9 : Nat → FieldType := fun k => match k with
  | _ => .int
abbrev wsJ90 : List Cond := u_ws RJ9 TJ9 0
theorem nmJ9 : ∀ a, a < 0 → ∀ b, b < 0 → a ≠ b → (TJ9 a).2.1 ≠ (TJ9 b).2.1 := by decide +kernel
theorem tyJ9_ok : ∀ k, k < 0 → parseFieldDescriptor (TJ9 k).2.2.1 = some (tyJ9 k) := by decide +kernel
abbrev cJ9_min_7cf53 : ByteArray := prog_17_method_69_code
def yJ9_min_7cf53 : MethodName := ⟨RJ9, "min", "(II)I"⟩
def RJ0 : String := "java/lang/String"
def TJ0 : u_T := fun k => match k with
  | _ => ("", "", "", false)
def tyJ0 : Nat → FieldType := fun k => match k with
  | _ => .int
abbrev wsJ00 : List Cond := u_ws RJ0 TJ0 0
theorem nmJ0 : ∀ a, a < 0 → ∀ b, b < 0 → a ≠ b → (TJ0 a).2.1 ≠ (TJ0 b).2.1 := by decide +kernel
theorem tyJ0_ok : ∀ k, k < 0 → parseFieldDescriptor (TJ0 k).2.2.1 = some (tyJ0 k) := by decide +kernel
abbrev cJ0_length_8abf5 : ByteArray := prog_18_method_54_code
def yJ0_length_8abf5 : MethodName := ⟨RJ0, "length", "()I"⟩
abbrev cJ0_charAt_5068e : ByteArray := prog_18_method_56_code
def yJ0_charAt_5068e : MethodName := ⟨RJ0, "charAt", "(I)C"⟩
abbrev cJ0_coder_7d493 : ByteArray := prog_18_method_152_code
def yJ0_coder_7d493 : MethodName := ⟨RJ0, "coder", "()B"⟩
abbrev cJ0_isLatin1_aae02 : ByteArray := prog_18_method_154_code
def yJ0_isLatin1_aae02 : MethodName := ⟨RJ0, "isLatin1", "()Z"⟩
abbrev cJ0_checkIndex_df160 : ByteArray := prog_18_method_155_code
def yJ0_checkIndex_df160 : MethodName := ⟨RJ0, "checkIndex", "(II)V"⟩
def RJ1 : String := "java/lang/StringLatin1"
def TJ1 : u_T := fun k => match k with
  | _ => ("", "", "", false)
def tyJ1 : Nat → FieldType := fun k => match k with
  | _ => .int
abbrev wsJ10 : List Cond := u_ws RJ1 TJ1 0
theorem nmJ1 : ∀ a, a < 0 → ∀ b, b < 0 → a ≠ b → (TJ1 a).2.1 ≠ (TJ1 b).2.1 := by decide +kernel
theorem tyJ1_ok : ∀ k, k < 0 → parseFieldDescriptor (TJ1 k).2.2.1 = some (tyJ1 k) := by decide +kernel
abbrev cJ1_charAt_3b067 : ByteArray := prog_19_method_2_code
def yJ1_charAt_3b067 : MethodName := ⟨RJ1, "charAt", "([BI)C"⟩
def RJ2 : String := "java/lang/StringUTF16"
def TJ2 : u_T := fun k => match k with
  | _ => ("", "", "", false)
def tyJ2 : Nat → FieldType := fun k => match k with
  | _ => .int
abbrev wsJ20 : List Cond := u_ws RJ2 TJ2 0
theorem nmJ2 : ∀ a, a < 0 → ∀ b, b < 0 → a ≠ b → (TJ2 a).2.1 ≠ (TJ2 b).2.1 := by decide +kernel
theorem tyJ2_ok : ∀ k, k < 0 → parseFieldDescriptor (TJ2 k).2.2.1 = some (tyJ2 k) := by decide +kernel
abbrev cJ2_getChar_3b067 : ByteArray := prog_20_method_5_code
def yJ2_getChar_3b067 : MethodName := ⟨RJ2, "getChar", "([BI)C"⟩
abbrev cJ2_length_9d52b : ByteArray := prog_20_method_6_code
def yJ2_length_9d52b : MethodName := ⟨RJ2, "length", "([B)I"⟩
abbrev cJ2_charAt_3b067 : ByteArray := prog_20_method_83_code
def yJ2_charAt_3b067 : MethodName := ⟨RJ2, "charAt", "([BI)C"⟩
abbrev cJ2_checkIndex_2214a : ByteArray := prog_20_method_91_code
def yJ2_checkIndex_2214a : MethodName := ⟨RJ2, "checkIndex", "(I[B)V"⟩
def RJ10 : String := "java/lang/System"
def TJ10 : u_T := fun k => match k with
  | _ => ("", "", "", false)
def tyJ10 : Nat → FieldType := fun k => match k with
  | _ => .int
abbrev wsJ100 : List Cond := u_ws RJ10 TJ10 0
theorem nmJ10 : ∀ a, a < 0 → ∀ b, b < 0 → a ≠ b → (TJ10 a).2.1 ≠ (TJ10 b).2.1 := by decide +kernel
theorem tyJ10_ok : ∀ k, k < 0 → parseFieldDescriptor (TJ10 k).2.2.1 = some (tyJ10 k) := by decide +kernel
def RJxfd54e : String := "java/lang/constant/Constable"
def TJxfd54e : u_T := fun k => match k with
  | _ => ("", "", "", false)
def tyJxfd54e : Nat → FieldType := fun k => match k with
  | _ => .int
abbrev wsJxfd54e0 : List Cond := u_ws RJxfd54e TJxfd54e 0
theorem nmJxfd54e : ∀ a, a < 0 → ∀ b, b < 0 → a ≠ b → (TJxfd54e a).2.1 ≠ (TJxfd54e b).2.1 := by decide +kernel
theorem tyJxfd54e_ok : ∀ k, k < 0 → parseFieldDescriptor (TJxfd54e k).2.2.1 = some (tyJxfd54e k) := by decide +kernel
def RJx3cf43 : String := "java/lang/constant/ConstantDesc"
def TJx3cf43 : u_T := fun k => match k with
  | _ => ("", "", "", false)
def tyJx3cf43 : Nat → FieldType := fun k => match k with
  | _ => .int
abbrev wsJx3cf430 : List Cond := u_ws RJx3cf43 TJx3cf43 0
theorem nmJx3cf43 : ∀ a, a < 0 → ∀ b, b < 0 → a ≠ b → (TJx3cf43 a).2.1 ≠ (TJx3cf43 b).2.1 := by decide +kernel
theorem tyJx3cf43_ok : ∀ k, k < 0 → parseFieldDescriptor (TJx3cf43 k).2.2.1 = some (tyJx3cf43 k) := by decide +kernel
def RJ7 : String := "java/util/Arrays"
def TJ7 : u_T := fun k => match k with
  | _ => ("", "", "", false)
def tyJ7 : Nat → FieldType := fun k => match k with
  | _ => .int
abbrev wsJ70 : List Cond := u_ws RJ7 TJ7 0
theorem nmJ7 : ∀ a, a < 0 → ∀ b, b < 0 → a ≠ b → (TJ7 a).2.1 ≠ (TJ7 b).2.1 := by decide +kernel
theorem tyJ7_ok : ∀ k, k < 0 → parseFieldDescriptor (TJ7 k).2.2.1 = some (tyJ7 k) := by decide +kernel
abbrev cJ7_fill_53178 : ByteArray := prog_22_method_103_code
def yJ7_fill_53178 : MethodName := ⟨RJ7, "fill", "([II)V"⟩
abbrev cJ7_copyOf_59c91 : ByteArray := prog_22_method_123_code
def yJ7_copyOf_59c91 : MethodName := ⟨RJ7, "copyOf", "([II)[I"⟩
def RJ3 : String := "jdk/internal/util/Preconditions"
def TJ3 : u_T := fun k => match k with
  | _ => ("", "", "", false)
def tyJ3 : Nat → FieldType := fun k => match k with
  | _ => .int
abbrev wsJ30 : List Cond := u_ws RJ3 TJ3 0
theorem nmJ3 : ∀ a, a < 0 → ∀ b, b < 0 → a ≠ b → (TJ3 a).2.1 ≠ (TJ3 b).2.1 := by decide +kernel
theorem tyJ3_ok : ∀ k, k < 0 → parseFieldDescriptor (TJ3 k).2.2.1 = some (tyJ3 k) := by decide +kernel
abbrev cJ3_checkIndex_8e157 : ByteArray := prog_23_method_11_code
def yJ3_checkIndex_8e157 : MethodName := ⟨RJ3, "checkIndex", "(IILjava/util/function/BiFunction;)I"⟩
def RL : String := "TwoHeadsLaw"
abbrev cL_law : ByteArray := code
def yL_law : MethodName := ⟨RL, "law", "([I)Z"⟩
abbrev vwCl : List vw_C := [(RX0, TX0, 4), (RX1, TX1, 9), (RX2, TX2, 8), (RX3, TX3, 4), (RX4, TX4, 5), (RX5, TX5, 1), (RX6, TX6, 8), (RX7, TX7, 4), (RX8, TX8, 13), (RX9, TX9, 5), (RX10, TX10, 3), (RX11, TX11, 10), (RX12, TX12, 59)]
end
section
/-! ===== the abstract machine: a pure picture of the bytecode. Cells by their number as they come; an object's fields as a list of values; refs are numbers of cells (from am_RO on: what was there before the start, never written) ===== -/
abbrev am_C : Type := (Nat × List Int32) ⊕ ((Nat × List (Option Nat)) ⊕ (Nat × List Value))
abbrev am_H : Type := List am_C
abbrev am_L : Type := List (Option Value)
abbrev am_Cf : Type := Nat × am_L × List Value × am_H
/-- a method: the class of which it is a constructor (99: none), whether it answers a boolean, its code in rows of sixteen places -/
abbrev am_M : Type := Nat × Bool × List (List (Option (Instr × Nat)))
def am_RO : Nat := 1048576
def am_fi (M : am_M) (pc : Nat) : Option (Instr × Nat) := match M.2.2[pc / 16]? with
  | some row => match row[pc % 16]? with
    | some (some q) => some q
    | _ => none
  | none => none
def am_ld (L : am_L) (i : Nat) : Option Value := match L[i]? with
  | some (some v) => some v
  | _ => none
def am_clr (L : am_L) (i : Nat) : am_L := match i with
  | 0 => L
  | j + 1 => match L[j]? with
    | some (some (.long _)) => L.set j none
    | some (some (.double _)) => L.set j none
    | _ => L
def am_st1 (L : am_L) (i : Nat) (v : Value) : Option am_L := if i < L.length then some ((am_clr L i).set i (some v)) else none
def am_st2 (L : am_L) (i : Nat) (v : Value) : Option am_L := if i + 1 < L.length then some (((am_clr L i).set i (some v)).set (i + 1) none) else none
abbrev am_R : Type := Option (am_L × List Value)
def am_li (L : am_L) (st : List Value) (i : Nat) : am_R := match am_ld L i with
  | some (.int x) => some (L, .int x :: st)
  | _ => none
def am_ll (L : am_L) (st : List Value) (i : Nat) : am_R := match am_ld L i with
  | some (.long x) => some (L, .long x :: st)
  | _ => none
def am_la (L : am_L) (st : List Value) (i : Nat) : am_R := match am_ld L i with
  | some (.ref x) => some (L, .ref x :: st)
  | some .null => some (L, .null :: st)
  | _ => none
def am_si (L : am_L) (st : List Value) (i : Nat) : am_R := match st with
  | .int x :: r => match am_st1 L i (.int x) with
    | some L' => some (L', r)
    | none => none
  | _ => none
def am_sl (L : am_L) (st : List Value) (i : Nat) : am_R := match st with
  | .long x :: r => match am_st2 L i (.long x) with
    | some L' => some (L', r)
    | none => none
  | _ => none
def am_sa (L : am_L) (st : List Value) (i : Nat) : am_R := match st with
  | .ref x :: r => match am_st1 L i (.ref x) with
    | some L' => some (L', r)
    | none => none
  | _ => none
def am_b (f : Int32 → Int32 → Int32) (L : am_L) (st : List Value) : am_R := match st with
  | .int y :: .int x :: r => some (L, .int (f x y) :: r)
  | _ => none
def am_u (f : Int32 → Int32) (L : am_L) (st : List Value) : am_R := match st with
  | .int x :: r => some (L, .int (f x) :: r)
  | _ => none
def am_bl (f : Int64 → Int64 → Int64) (L : am_L) (st : List Value) : am_R := match st with
  | .long y :: .long x :: r => some (L, .long (f x y) :: r)
  | _ => none
def am_sh (f : Int64 → Int32 → Int64) (L : am_L) (st : List Value) : am_R := match st with
  | .int y :: .long x :: r => some (L, .long (f x y) :: r)
  | _ => none
def am_dv (f : Int32 → Int32 → Int32) (L : am_L) (st : List Value) : am_R := match st with
  | .int y :: .int x :: r => if y = 0 then none else some (L, .int (f x y) :: r)
  | _ => none
/-- what touches neither heap nor course -/
def am_pure (i : Instr) (L : am_L) (st : List Value) : am_R := match i with
  | .iconst n => some (L, .int (Int32.ofInt n) :: st)
  | .bipush n => some (L, .int (Int8.ofInt n).toInt32 :: st)
  | .sipush n => some (L, .int (Int16.ofInt n).toInt32 :: st)
  | .lconst n => some (L, .long (Int64.ofNat (n : Nat)) :: st)
  | .aconst_null => some (L, .null :: st)
  | .iload k => am_li L st k
  | .iload_n k => am_li L st (k : Nat)
  | .lload k => am_ll L st k
  | .lload_n k => am_ll L st (k : Nat)
  | .aload k => am_la L st k
  | .aload_n k => am_la L st (k : Nat)
  | .istore k => am_si L st k
  | .istore_n k => am_si L st (k : Nat)
  | .lstore k => am_sl L st k
  | .lstore_n k => am_sl L st (k : Nat)
  | .astore k => am_sa L st k
  | .astore_n k => am_sa L st (k : Nat)
  | .iinc k n => match am_ld L k with
    | some (.int x) => match am_st1 L k (.int (x + Int32.ofInt n)) with
      | some L' => some (L', st)
      | none => none
    | _ => none
  | .iadd => am_b (fun x y => x + y) L st
  | .isub => am_b (fun x y => x - y) L st
  | .imul => am_b (fun x y => x * y) L st
  | .iand => am_b (fun x y => x &&& y) L st
  | .ior => am_b (fun x y => x ||| y) L st
  | .ixor => am_b (fun x y => x ^^^ y) L st
  | .ishl => am_b (fun x y => x <<< (y &&& 31)) L st
  | .ishr => am_b (fun x y => x >>> (y &&& 31)) L st
  | .iushr => am_b (fun x y => (x.toUInt32 >>> (y.toUInt32 &&& Int32.toUInt32 31)).toInt32) L st
  | .idiv => am_dv (fun x y => x / y) L st
  | .irem => am_dv (fun x y => x - x / y * y) L st
  | .ineg => am_u (fun x => -x) L st
  | .i2b => am_u (fun x => x.toInt8.toInt32) L st
  | .i2s => am_u (fun x => x.toInt16.toInt32) L st
  | .ladd => am_bl (fun x y => x + y) L st
  | .land => am_bl (fun x y => x &&& y) L st
  | .lor => am_bl (fun x y => x ||| y) L st
  | .lshl => am_sh (fun x y => x <<< (y.toInt64 &&& 63)) L st
  | .lshr => am_sh (fun x y => x >>> (y.toInt64 &&& 63)) L st
  | .lcmp => match st with
    | .long y :: .long x :: r => some (L, .int (lg_cmp x y) :: r)
    | _ => none
  | .i2l => match st with
    | .int x :: r => some (L, .long x.toInt64 :: r)
    | _ => none
  | .l2i => match st with
    | .long x :: r => some (L, .int x.toInt32 :: r)
    | _ => none
  | .dup => match st with
    | v :: r => if v.category = 1 then some (L, v :: v :: r) else none
    | _ => none
  | .pop => match st with
    | v :: r => if v.category = 1 then some (L, r) else none
    | _ => none
  | .dup_x1 => match st with
    | v :: w :: r => if v.category = 1 ∧ w.category = 1 then some (L, v :: w :: v :: r) else none
    | _ => none
  | .dup2 => match st with
    | v :: w :: r => if v.category = 1 ∧ w.category = 1 then some (L, v :: w :: v :: w :: r) else none
    | _ => none
  | _ => none
/-- where a branch goes -/
def am_tg (pc : Nat) (off : Int) : Nat := ((pc : Int) + off).toNat
def am_cc (c : Jvm.ClassFile.Cond) (x y : Int32) (a b : Nat) : Nat := match c with
  | .eq => if x = y then a else b
  | .ne => if ¬ x = y then a else b
  | .lt => if x < y then a else b
  | .ge => if y ≤ x then a else b
  | .gt => if y < x then a else b
  | .le => if x ≤ y then a else b
def am_ok (pc : Nat) (off : Int) : Bool := decide (0 ≤ (pc : Int) + off)
def am_sw (pc : Nat) (dflt lo hi : Int) (offs : Array Int) (x : Int32) : Option Nat :=
  if x.toInt < lo ∨ hi < x.toInt then (if am_ok pc dflt = true then some (am_tg pc dflt) else none)
  else match offs[(x.toInt - lo).toNat]? with
    | some off => if am_ok pc off = true then some (am_tg pc off) else none
    | none => none
def am_br (i : Instr) (pc : Nat) (st : List Value) : Option (Nat × List Value) := match i with
  | .goto off => if am_ok pc off = true then some (am_tg pc off, st) else none
  | .ifCond c off => match st with
    | .int x :: r => if am_ok pc off = true then some (am_cc c x 0 (am_tg pc off) (pc + 3), r) else none
    | _ => none
  | .if_icmp c off => match st with
    | .int y :: .int x :: r => if am_ok pc off = true then some (am_cc c x y (am_tg pc off) (pc + 3), r) else none
    | _ => none
  | .ifnonnull off => match st with
    | .ref _ :: r => if am_ok pc off = true then some (am_tg pc off, r) else none
    | .null :: r => some (pc + 3, r)
    | _ => none
  | .tableswitch d lo hi offs => match st with
    | .int x :: r => match am_sw pc d lo hi offs x with
      | some t => some (t, r)
      | none => none
    | _ => none
  | _ => none
def am_w (st : List Value) : Nat := (st.map fun v => v.category).sum
end
section
/-! ===== the abstract machine: heap, calls, returns ===== -/
/-- types of fields, by class and field: the kit's tables -/
def am_fty (ci k : Nat) : FieldType := match ci with
  | 0 => tyX0 k
  | 1 => tyX1 k
  | 2 => tyX2 k
  | 3 => tyX3 k
  | 4 => tyX4 k
  | 5 => tyX5 k
  | 6 => tyX6 k
  | 7 => tyX7 k
  | 8 => tyX8 k
  | 9 => tyX9 k
  | 10 => tyX10 k
  | 11 => tyX11 k
  | _ => tyX12 k
def am_fin (ci k : Nat) : Bool := match vwCl[ci]? with
  | some q => (q.2.1 k).2.2.2
  | none => true
def am_nf (ci : Nat) : Nat := match vwCl[ci]? with
  | some q => q.2.2
  | none => 0
def am_ft (ty : FieldType) (v : Value) : Bool := match v with
  | .int _ => match ty with
    | .int => true
    | _ => false
  | .ref _ => ty.isReference
  | .null => ty.isReference
  | _ => false
def am_dfv (ty : FieldType) : Value := match ty with
  | .int => .int 0
  | _ => .null
def am_at (xs : List Int32) (i : Int32) : Option Int32 := if i < 0 then none else xs[i.toNatClampNeg]?
def am_atr (xs : List (Option Nat)) (i : Int32) : Option (Option Nat) := if i < 0 then none else xs[i.toNatClampNeg]?
def am_up (xs : List Int32) (i v : Int32) : Option (List Int32) := if i < 0 then none else if i.toNatClampNeg < xs.length then some (xs.set i.toNatClampNeg v) else none
def am_upr (xs : List (Option Nat)) (i : Int32) (v : Option Nat) : Option (List (Option Nat)) := if i < 0 then none else if i.toNatClampNeg < xs.length then some (xs.set i.toNatClampNeg v) else none
abbrev am_Q : Type := Option (List Value × am_H)
def am_getf (z : Nat) (st : List Value) (h : am_H) : am_Q := match st with
  | .ref a :: r => match h[a]? with
    | some (.inr (.inr (ci, fs))) => if ci = z / 64 then (match fs[z % 64]? with
      | some v => some (v :: r, h)
      | none => none) else none
    | _ => none
  | _ => none
def am_putf (cn : Nat) (z : Nat) (st : List Value) (h : am_H) : am_Q := match st with
  | v :: .ref a :: r => match h[a]? with
    | some (.inr (.inr (ci, fs))) => if ci = z / 64 ∧ z % 64 < am_nf (z / 64) ∧ z % 64 < fs.length ∧ am_ft (am_fty (z / 64) (z % 64)) v = true ∧ (am_fin (z / 64) (z % 64) = true → cn = z / 64) then some (r, h.set a (.inr (.inr (ci, fs.set (z % 64) v)))) else none
    | _ => none
  | _ => none
/-- reading an int array: one of the machine's, or one that was there before -/
def am_ial (ro : Nat → Option (List Int32)) (st : List Value) (h : am_H) : am_Q := match st with
  | .int i :: .ref a :: r => if a < am_RO then (match h[a]? with
      | some (.inl (0, xs)) => (match am_at xs i with
        | some v => some (.int v :: r, h)
        | none => none)
      | _ => none)
    else (match ro a with
      | some xs => (match am_at xs i with
        | some v => some (.int v :: r, h)
        | none => none)
      | none => none)
  | _ => none
def am_bal (st : List Value) (h : am_H) : am_Q := match st with
  | .int i :: .ref a :: r => match h[a]? with
    | some (.inl (t, xs)) => if t = 1 ∨ t = 2 then (match am_at xs i with
      | some v => some (.int v :: r, h)
      | none => none) else none
    | _ => none
  | _ => none
def am_aal (st : List Value) (h : am_H) : am_Q := match st with
  | .int i :: .ref a :: r => match h[a]? with
    | some (.inr (.inl (_, xs))) => (match am_atr xs i with
      | some v => some (va_rf v :: r, h)
      | none => none)
    | _ => none
  | _ => none
def am_ias (st : List Value) (h : am_H) : am_Q := match st with
  | .int x :: .int i :: .ref a :: r => match h[a]? with
    | some (.inl (0, xs)) => (match am_up xs i x with
      | some ys => some (r, h.set a (.inl (0, ys)))
      | none => none)
    | _ => none
  | _ => none
def am_nar (t : Nat) (x : Int32) : Int32 := if t = 1 then x.toInt8.toInt32 else x &&& 1
def am_bas (st : List Value) (h : am_H) : am_Q := match st with
  | .int x :: .int i :: .ref a :: r => match h[a]? with
    | some (.inl (t, xs)) => if t = 1 ∨ t = 2 then (match am_up xs i (am_nar t x) with
      | some ys => some (r, h.set a (.inl (t, ys)))
      | none => none) else none
    | _ => none
  | _ => none
/-- storing a ref into an array: Formula[] (4, class 5), Sheet[] (5, class 10) -/
def am_aas (st : List Value) (h : am_H) : am_Q := match st with
  | .ref v :: .int i :: .ref a :: r => match h[a]? with
    | some (.inr (.inl (t, xs))) => (match h[v]? with
      | some (.inr (.inr (ci, _))) => if (t = 4 ∧ ci = 5) ∨ (t = 5 ∧ ci = 10) then (match am_upr xs i (some v) with
        | some ys => some (r, h.set a (.inr (.inl (t, ys))))
        | none => none) else none
      | _ => none)
    | _ => none
  | _ => none
def am_len (ro : Nat → Option (List Int32)) (st : List Value) (h : am_H) : am_Q := match st with
  | .ref a :: r => if a < am_RO then (match h[a]? with
      | some (.inl (_, xs)) => some (.int (Int32.ofNat xs.length) :: r, h)
      | some (.inr (.inl (_, xs))) => some (.int (Int32.ofNat xs.length) :: r, h)
      | _ => none)
    else if a = am_RO + 15 then (match ro a with
      | some xs => some (.int (Int32.ofNat xs.length) :: r, h)
      | none => none) else none
  | _ => none
def am_new (ci : Nat) (st : List Value) (h : am_H) : am_Q :=
  some (.ref h.length :: st, h ++ [.inr (.inr (ci, (List.range (am_nf ci)).map (fun k => am_dfv (am_fty ci k))))])
def am_nt (t : ArrayType) : Option Nat := match t with
  | .int => some 0
  | .byte => some 1
  | .boolean => some 2
  | _ => none
def am_newa (t : ArrayType) (st : List Value) (h : am_H) : am_Q := match st with
  | .int n :: r => match am_nt t with
    | some k => if n < 0 ∨ 65536 < n.toNatClampNeg then none else some (.ref h.length :: r, h ++ [.inl (k, List.replicate n.toNatClampNeg 0)])
    | none => none
  | _ => none
/-- anewarray: z 4 Formula[], 5 Sheet[] -/
def am_anew (z : Nat) (st : List Value) (h : am_H) : am_Q := match st with
  | .int n :: r => if (n < 0 ∨ 65536 < n.toNatClampNeg) ∨ ¬ (z = 4 ∨ z = 5) then none else some (.ref h.length :: r, h ++ [.inr (.inl (z, List.replicate n.toNatClampNeg none))])
  | _ => none
/-- new int[n][k] -/
def am_mna (st : List Value) (h : am_H) : am_Q := match st with
  | .int k :: .int n :: r => if n < 0 ∨ k < 0 ∨ 256 < n.toNatClampNeg ∨ 256 < k.toNatClampNeg then none else
      some (.ref h.length :: r, (h ++ [.inr (.inl (3, (List.range n.toNatClampNeg).map (fun j => some (h.length + 1 + j))))]) ++ List.replicate n.toNatClampNeg (.inl (0, List.replicate k.toNatClampNeg 0)))
  | _ => none
/-- System.arraycopy of int arrays -/
def am_cpy (xs ys : List Int32) (i j n : Nat) : List Int32 := ys.take j ++ (xs.drop i).take n ++ ys.drop (j + n)
def am_acp (st : List Value) (h : am_H) : am_Q := match st with
  | .int n :: .int j :: .ref b :: .int i :: .ref a :: r => match h[a]? with
    | some (.inl (0, xs)) => (match h[b]? with
      | some (.inl (0, ys)) => if n < 0 ∨ i < 0 ∨ j < 0 ∨ xs.length < i.toNatClampNeg + n.toNatClampNeg ∨ ys.length < j.toNatClampNeg + n.toNatClampNeg ∨ 8 < am_w r then none
          else some (r, h.set b (.inl (0, am_cpy xs ys i.toNatClampNeg j.toNatClampNeg n.toNatClampNeg)))
      | _ => none)
    | _ => none
  | _ => none
/-- int[].clone() -/
def am_cln (st : List Value) (h : am_H) : am_Q := match st with
  | .ref a :: r => match h[a]? with
    | some (.inl (0, xs)) => if 8 < am_w r then none else some (.ref h.length :: r, h ++ [.inl (0, xs)])
    | _ => none
  | _ => none
/-- String constants: number j of the eleven is am_RO + 16 + j -/
def am_str (j : Nat) : List Int32 := match j with
  | 0 => [107, 105, 110, 100]
  | 1 => [100, 97, 121]
  | 2 => [114, 97, 110, 107]
  | 3 => [115, 97, 109, 101]
  | 4 => [104, 97, 110, 103, 115]
  | 5 => [102, 97, 105, 116, 104]
  | 6 => [98, 105, 110, 100, 115]
  | 7 => [115, 97, 118, 101, 100]
  | 8 => [111, 114]
  | 9 => [97, 110, 100]
  | 10 => [110, 111, 116]
  | _ => []
def am_slen (st : List Value) (h : am_H) : am_Q := match st with
  | .ref a :: r => if am_RO + 16 ≤ a ∧ a < am_RO + 27 ∧ am_w r ≤ 8 then some (.int (Int32.ofNat (am_str (a - (am_RO + 16))).length) :: r, h) else none
  | _ => none
def am_sat (st : List Value) (h : am_H) : am_Q := match st with
  | .int i :: .ref a :: r => if am_RO + 16 ≤ a ∧ a < am_RO + 27 ∧ am_w r ≤ 8 then (match am_at (am_str (a - (am_RO + 16))) i with
    | some v => some (.int v :: r, h)
    | none => none) else none
  | _ => none
/-- Math.min -/
def am_mmin (st : List Value) (h : am_H) : am_Q := match st with
  | .int y :: .int x :: r => if 8 < am_w r then none else some (.int (if y < x then y else x) :: r, h)
  | _ => none
/-- what touches the heap; fields, classes, constants by the numbers of the resolved code: ldc z pushes the int z; getstatic z the ref am_RO + z; invokedynamic: 0 arraycopy, 1 clone, 2 length, 3 charAt, 4 Math.min -/
def am_heap (ro : Nat → Option (List Int32)) (cn : Nat) (i : Instr) (st : List Value) (h : am_H) : am_Q := match i with
  | .getfield z => am_getf z st h
  | .putfield z => am_putf cn z st h
  | .iaload => am_ial ro st h
  | .baload => am_bal st h
  | .aaload => am_aal st h
  | .iastore => am_ias st h
  | .bastore => am_bas st h
  | .aastore => am_aas st h
  | .arraylength => am_len ro st h
  | .new z => am_new z st h
  | .newarray t => am_newa t st h
  | .anewarray z => am_anew z st h
  | .multianewarray _ _ => am_mna st h
  | .getstatic z => some (.ref (am_RO + z) :: st, h)
  | .ldc z => some (.ref (am_RO + 16 + z) :: st, h)
  | .ldc_w z => some (.int (Int32.ofNat z) :: st, h)
  | .ldc2_w z => some (.long (Int64.ofNat z) :: st, h)
  | .checkcast _ => match st with
    | .ref a :: r => match h[a]? with
      | some (.inl (0, _)) => some (.ref a :: r, h)
      | _ => none
    | _ => none
  | .invokedynamic 0 => am_acp st h
  | .invokedynamic 1 => am_cln st h
  | .invokedynamic 2 => am_slen st h
  | .invokedynamic 3 => am_sat st h
  | .invokedynamic 4 => am_mmin st h
  | _ => none
end
section
/-! ===== the code, its links resolved (by wip/whole/gen_code.py): by method; links into classes, fields, methods by their numbers ===== -/
def mc_objinit : am_M := (99, false, [
  [some (.return_, 1)]])
def mc_J6_bitCount_0f7a4 : am_M := (99, false, [
  [some (.iload_n 0, 1), some (.iload_n 0, 1), some (.iconst 1, 1), some (.iushr, 1), some (.ldc_w 1431655765, 3), none, none, some (.iand, 1), some (.isub, 1), some (.istore_n 0, 1), some (.iload_n 0, 1), some (.ldc_w 858993459, 3), none, none, some (.iand, 1), some (.iload_n 0, 1)],
  [some (.iconst 2, 1), some (.iushr, 1), some (.ldc_w 858993459, 3), none, none, some (.iand, 1), some (.iadd, 1), some (.istore_n 0, 1), some (.iload_n 0, 1), some (.iload_n 0, 1), some (.iconst 4, 1), some (.iushr, 1), some (.iadd, 1), some (.ldc_w 252645135, 3), none, none],
  [some (.iand, 1), some (.istore_n 0, 1), some (.iload_n 0, 1), some (.iload_n 0, 1), some (.bipush 8, 2), none, some (.iushr, 1), some (.iadd, 1), some (.istore_n 0, 1), some (.iload_n 0, 1), some (.iload_n 0, 1), some (.bipush 16, 2), none, some (.iushr, 1), some (.iadd, 1), some (.istore_n 0, 1)],
  [some (.iload_n 0, 1), some (.bipush 63, 2), none, some (.iand, 1), some (.ireturn, 1)]])
def mc_J7_copyOf_59c91 : am_M := (99, false, [
  [some (.iload_n 1, 1), some (.aload_n 0, 1), some (.arraylength, 1), some (.if_icmp .ne 11, 3), none, none, some (.aload_n 0, 1), some (.invokedynamic 1, 3), none, none, some (.checkcast 0, 3), none, none, some (.areturn, 1), some (.iload_n 1, 1), some (.newarray .int, 2)],
  [none, some (.astore_n 2, 1), some (.aload_n 0, 1), some (.iconst 0, 1), some (.aload_n 2, 1), some (.iconst 0, 1), some (.aload_n 0, 1), some (.arraylength, 1), some (.iload_n 1, 1), some (.invokedynamic 4, 3), none, none, some (.invokedynamic 0, 3), none, none, some (.aload_n 2, 1)],
  [some (.areturn, 1)]])
def mc_J7_fill_53178 : am_M := (99, false, [
  [some (.iconst 0, 1), some (.istore_n 2, 1), some (.aload_n 0, 1), some (.arraylength, 1), some (.istore_n 3, 1), some (.iload_n 2, 1), some (.iload_n 3, 1), some (.if_icmp .ge 13, 3), none, none, some (.aload_n 0, 1), some (.iload_n 2, 1), some (.iload_n 1, 1), some (.iastore, 1), some (.iinc 2 1, 3), none],
  [none, some (.goto (-12), 3), none, none, some (.return_, 1)]])
def mc_J9_min : am_M := (99, false, [
  [some (.iload_n 0, 1), some (.iload_n 1, 1), some (.if_icmp .gt 7, 3), none, none, some (.iload_n 0, 1), some (.goto 4, 3), none, none, some (.iload_n 1, 1), some (.ireturn, 1)]])
def mc_L_law : am_M := (99, true, [
  [some (.new 11, 3), none, none, some (.dup, 1), some (.invokespecial 10271, 3), none, none, some (.astore_n 1, 1), some (.new 12, 3), none, none, some (.dup, 1), some (.invokespecial 27423, 3), none, none, some (.astore_n 2, 1)],
  [some (.iconst 0, 1), some (.istore_n 3, 1), some (.iload_n 3, 1), some (.aload_n 0, 1), some (.arraylength, 1), some (.bipush 6, 2), none, some (.isub, 1), some (.if_icmp .gt 1793, 3), none, none, some (.aload_n 0, 1), some (.iload_n 3, 1), some (.iaload, 1), some (.bipush 63, 2), none],
  [some (.iand, 1), some (.tableswitch 1778 0 42 #[187, 230, 263, 286, 319, 352, 385, 428, 461, 504, 567, 600, 633, 666, 729, 742, 775, 819, 852, 885, 918, 961, 984, 1017, 1050, 1103, 1137, 1170, 1203, 1226, 1259, 1312, 1335, 1378, 1411, 1444, 1477, 1520, 1543, 1586, 1629, 1692, 1745], 187), none, none, none, none, none, none, none, none, none, none, none, none, none, none],
  [none, none, none, none, none, none, none, none, none, none, none, none, none, none, none, none],
  [none, none, none, none, none, none, none, none, none, none, none, none, none, none, none, none],
  [none, none, none, none, none, none, none, none, none, none, none, none, none, none, none, none],
  [none, none, none, none, none, none, none, none, none, none, none, none, none, none, none, none],
  [none, none, none, none, none, none, none, none, none, none, none, none, none, none, none, none],
  [none, none, none, none, none, none, none, none, none, none, none, none, none, none, none, none],
  [none, none, none, none, none, none, none, none, none, none, none, none, none, none, none, none],
  [none, none, none, none, none, none, none, none, none, none, none, none, none, none, none, none],
  [none, none, none, none, none, none, none, none, none, none, none, none, none, none, none, none],
  [none, none, none, none, none, none, none, none, none, none, none, none, none, none, none, none],
  [none, none, none, none, none, none, none, none, none, none, none, none, some (.aload_n 1, 1), some (.aload_n 0, 1), some (.iload_n 3, 1), some (.iconst 1, 1)],
  [some (.iadd, 1), some (.iaload, 1), some (.aload_n 0, 1), some (.iload_n 3, 1), some (.iconst 2, 1), some (.iadd, 1), some (.iaload, 1), some (.aload_n 0, 1), some (.iload_n 3, 1), some (.iconst 3, 1), some (.iadd, 1), some (.iaload, 1), some (.invokevirtual 15435, 3), none, none, some (.aload_n 2, 1)],
  [some (.aload_n 0, 1), some (.iload_n 3, 1), some (.iconst 1, 1), some (.iadd, 1), some (.iaload, 1), some (.aload_n 0, 1), some (.iload_n 3, 1), some (.iconst 2, 1), some (.iadd, 1), some (.iaload, 1), some (.aload_n 0, 1), some (.iload_n 3, 1), some (.iconst 3, 1), some (.iadd, 1), some (.iaload, 1), some (.invokevirtual 38220, 3)],
  [none, none, some (.if_icmp .eq 1553, 3), none, none, some (.iconst 0, 1), some (.ireturn, 1), some (.aload_n 1, 1), some (.aload_n 0, 1), some (.iload_n 3, 1), some (.iconst 1, 1), some (.iadd, 1), some (.iaload, 1), some (.aload_n 0, 1), some (.iload_n 3, 1), some (.iconst 2, 1)],
  [some (.iadd, 1), some (.iaload, 1), some (.invokevirtual 8507, 3), none, none, some (.aload_n 2, 1), some (.aload_n 0, 1), some (.iload_n 3, 1), some (.iconst 1, 1), some (.iadd, 1), some (.iaload, 1), some (.aload_n 0, 1), some (.iload_n 3, 1), some (.iconst 2, 1), some (.iadd, 1), some (.iaload, 1)],
  [some (.invokevirtual 24380, 3), none, none, some (.if_icmp .eq 1520, 3), none, none, some (.iconst 0, 1), some (.ireturn, 1), some (.aload_n 1, 1), some (.aload_n 0, 1), some (.iload_n 3, 1), some (.iconst 1, 1), some (.iadd, 1), some (.iaload, 1), some (.invokevirtual 14891, 3), none],
  [none, some (.aload_n 2, 1), some (.aload_n 0, 1), some (.iload_n 3, 1), some (.iconst 1, 1), some (.iadd, 1), some (.iaload, 1), some (.invokevirtual 36396, 3), none, none, some (.if_icmp .eq 1497, 3), none, none, some (.iconst 0, 1), some (.ireturn, 1), some (.aload_n 1, 1)],
  [some (.aload_n 0, 1), some (.iload_n 3, 1), some (.iconst 1, 1), some (.iadd, 1), some (.iaload, 1), some (.aload_n 0, 1), some (.iload_n 3, 1), some (.iconst 2, 1), some (.iadd, 1), some (.iaload, 1), some (.invokevirtual 13883, 3), none, none, some (.aload_n 2, 1), some (.aload_n 0, 1), some (.iload_n 3, 1)],
  [some (.iconst 1, 1), some (.iadd, 1), some (.iaload, 1), some (.aload_n 0, 1), some (.iload_n 3, 1), some (.iconst 2, 1), some (.iadd, 1), some (.iaload, 1), some (.invokevirtual 34876, 3), none, none, some (.if_icmp .eq 1464, 3), none, none, some (.iconst 0, 1), some (.ireturn, 1)],
  [some (.aload_n 1, 1), some (.aload_n 0, 1), some (.iload_n 3, 1), some (.iconst 1, 1), some (.iadd, 1), some (.iaload, 1), some (.aload_n 0, 1), some (.iload_n 3, 1), some (.iconst 2, 1), some (.iadd, 1), some (.iaload, 1), some (.invokevirtual 16187, 3), none, none, some (.aload_n 2, 1), some (.aload_n 0, 1)],
  [some (.iload_n 3, 1), some (.iconst 1, 1), some (.iadd, 1), some (.iaload, 1), some (.aload_n 0, 1), some (.iload_n 3, 1), some (.iconst 2, 1), some (.iadd, 1), some (.iaload, 1), some (.invokevirtual 39484, 3), none, none, some (.if_icmp .eq 1431, 3), none, none, some (.iconst 0, 1)],
  [some (.ireturn, 1), some (.aload_n 1, 1), some (.aload_n 0, 1), some (.iload_n 3, 1), some (.iconst 1, 1), some (.iadd, 1), some (.iaload, 1), some (.aload_n 0, 1), some (.iload_n 3, 1), some (.iconst 2, 1), some (.iadd, 1), some (.iaload, 1), some (.invokevirtual 14139, 3), none, none, some (.aload_n 2, 1)],
  [some (.aload_n 0, 1), some (.iload_n 3, 1), some (.iconst 1, 1), some (.iadd, 1), some (.iaload, 1), some (.aload_n 0, 1), some (.iload_n 3, 1), some (.iconst 2, 1), some (.iadd, 1), some (.iaload, 1), some (.invokevirtual 35132, 3), none, none, some (.if_icmp .eq 1398, 3), none, none],
  [some (.iconst 0, 1), some (.ireturn, 1), some (.aload_n 1, 1), some (.aload_n 0, 1), some (.iload_n 3, 1), some (.iconst 1, 1), some (.iadd, 1), some (.iaload, 1), some (.aload_n 0, 1), some (.iload_n 3, 1), some (.iconst 2, 1), some (.iadd, 1), some (.iaload, 1), some (.aload_n 0, 1), some (.iload_n 3, 1), some (.iconst 3, 1)],
  [some (.iadd, 1), some (.iaload, 1), some (.invokevirtual 18763, 3), none, none, some (.aload_n 2, 1), some (.aload_n 0, 1), some (.iload_n 3, 1), some (.iconst 1, 1), some (.iadd, 1), some (.iaload, 1), some (.aload_n 0, 1), some (.iload_n 3, 1), some (.iconst 2, 1), some (.iadd, 1), some (.iaload, 1)],
  [some (.aload_n 0, 1), some (.iload_n 3, 1), some (.iconst 3, 1), some (.iadd, 1), some (.iaload, 1), some (.invokevirtual 43084, 3), none, none, some (.if_icmp .eq 1355, 3), none, none, some (.iconst 0, 1), some (.ireturn, 1), some (.aload_n 1, 1), some (.aload_n 0, 1), some (.iload_n 3, 1)],
  [some (.iconst 1, 1), some (.iadd, 1), some (.iaload, 1), some (.aload_n 0, 1), some (.iload_n 3, 1), some (.iconst 2, 1), some (.iadd, 1), some (.iaload, 1), some (.invokevirtual 17723, 3), none, none, some (.aload_n 2, 1), some (.aload_n 0, 1), some (.iload_n 3, 1), some (.iconst 1, 1), some (.iadd, 1)],
  [some (.iaload, 1), some (.aload_n 0, 1), some (.iload_n 3, 1), some (.iconst 2, 1), some (.iadd, 1), some (.iaload, 1), some (.invokevirtual 41276, 3), none, none, some (.if_icmp .eq 1322, 3), none, none, some (.iconst 0, 1), some (.ireturn, 1), some (.aload_n 1, 1), some (.aload_n 0, 1)],
  [some (.iload_n 3, 1), some (.iconst 1, 1), some (.iadd, 1), some (.iaload, 1), some (.aload_n 0, 1), some (.iload_n 3, 1), some (.iconst 2, 1), some (.iadd, 1), some (.iaload, 1), some (.aload_n 0, 1), some (.iload_n 3, 1), some (.iconst 3, 1), some (.iadd, 1), some (.iaload, 1), some (.invokevirtual 6475, 3), none],
  [none, some (.aload_n 2, 1), some (.aload_n 0, 1), some (.iload_n 3, 1), some (.iconst 1, 1), some (.iadd, 1), some (.iaload, 1), some (.aload_n 0, 1), some (.iload_n 3, 1), some (.iconst 2, 1), some (.iadd, 1), some (.iaload, 1), some (.aload_n 0, 1), some (.iload_n 3, 1), some (.iconst 3, 1), some (.iadd, 1)],
  [some (.iaload, 1), some (.invokevirtual 22348, 3), none, none, some (.if_icmp .eq 1279, 3), none, none, some (.iconst 0, 1), some (.ireturn, 1), some (.aload_n 1, 1), some (.aload_n 0, 1), some (.iload_n 3, 1), some (.iconst 1, 1), some (.iadd, 1), some (.iaload, 1), some (.aload_n 0, 1)],
  [some (.iload_n 3, 1), some (.iconst 2, 1), some (.iadd, 1), some (.iaload, 1), some (.aload_n 0, 1), some (.iload_n 3, 1), some (.iconst 3, 1), some (.iadd, 1), some (.iaload, 1), some (.aload_n 0, 1), some (.iload_n 3, 1), some (.iconst 4, 1), some (.iadd, 1), some (.iaload, 1), some (.aload_n 0, 1), some (.iload_n 3, 1)],
  [some (.iconst 5, 1), some (.iadd, 1), some (.iaload, 1), some (.invokevirtual 4459, 3), none, none, some (.aload_n 2, 1), some (.aload_n 0, 1), some (.iload_n 3, 1), some (.iconst 1, 1), some (.iadd, 1), some (.iaload, 1), some (.aload_n 0, 1), some (.iload_n 3, 1), some (.iconst 2, 1), some (.iadd, 1)],
  [some (.iaload, 1), some (.aload_n 0, 1), some (.iload_n 3, 1), some (.iconst 3, 1), some (.iadd, 1), some (.iaload, 1), some (.aload_n 0, 1), some (.iload_n 3, 1), some (.iconst 4, 1), some (.iadd, 1), some (.iaload, 1), some (.aload_n 0, 1), some (.iload_n 3, 1), some (.iconst 5, 1), some (.iadd, 1), some (.iaload, 1)],
  [some (.invokevirtual 19308, 3), none, none, some (.if_icmp .eq 1216, 3), none, none, some (.iconst 0, 1), some (.ireturn, 1), some (.aload_n 1, 1), some (.aload_n 0, 1), some (.iload_n 3, 1), some (.iconst 1, 1), some (.iadd, 1), some (.iaload, 1), some (.aload_n 0, 1), some (.iload_n 3, 1)],
  [some (.iconst 2, 1), some (.iadd, 1), some (.iaload, 1), some (.invokevirtual 9531, 3), none, none, some (.aload_n 2, 1), some (.aload_n 0, 1), some (.iload_n 3, 1), some (.iconst 1, 1), some (.iadd, 1), some (.iaload, 1), some (.aload_n 0, 1), some (.iload_n 3, 1), some (.iconst 2, 1), some (.iadd, 1)],
  [some (.iaload, 1), some (.invokevirtual 26428, 3), none, none, some (.if_icmp .eq 1183, 3), none, none, some (.iconst 0, 1), some (.ireturn, 1), some (.aload_n 1, 1), some (.aload_n 0, 1), some (.iload_n 3, 1), some (.iconst 1, 1), some (.iadd, 1), some (.iaload, 1), some (.aload_n 0, 1)],
  [some (.iload_n 3, 1), some (.iconst 2, 1), some (.iadd, 1), some (.iaload, 1), some (.invokevirtual 13627, 3), none, none, some (.aload_n 2, 1), some (.aload_n 0, 1), some (.iload_n 3, 1), some (.iconst 1, 1), some (.iadd, 1), some (.iaload, 1), some (.aload_n 0, 1), some (.iload_n 3, 1), some (.iconst 2, 1)],
  [some (.iadd, 1), some (.iaload, 1), some (.invokevirtual 33596, 3), none, none, some (.if_icmp .eq 1150, 3), none, none, some (.iconst 0, 1), some (.ireturn, 1), some (.aload_n 1, 1), some (.aload_n 0, 1), some (.iload_n 3, 1), some (.iconst 1, 1), some (.iadd, 1), some (.iaload, 1)],
  [some (.aload_n 0, 1), some (.iload_n 3, 1), some (.iconst 2, 1), some (.iadd, 1), some (.iaload, 1), some (.invokevirtual 4667, 3), none, none, some (.aload_n 2, 1), some (.aload_n 0, 1), some (.iload_n 3, 1), some (.iconst 1, 1), some (.iadd, 1), some (.iaload, 1), some (.aload_n 0, 1), some (.iload_n 3, 1)],
  [some (.iconst 2, 1), some (.iadd, 1), some (.iaload, 1), some (.invokevirtual 19516, 3), none, none, some (.if_icmp .eq 1117, 3), none, none, some (.iconst 0, 1), some (.ireturn, 1), some (.aload_n 1, 1), some (.aload_n 0, 1), some (.iload_n 3, 1), some (.iconst 1, 1), some (.iadd, 1)],
  [some (.iaload, 1), some (.aload_n 0, 1), some (.iload_n 3, 1), some (.iconst 2, 1), some (.iadd, 1), some (.iaload, 1), some (.i2l, 1), some (.bipush 32, 2), none, some (.lshl, 1), some (.aload_n 0, 1), some (.iload_n 3, 1), some (.iconst 3, 1), some (.iadd, 1), some (.iaload, 1), some (.i2l, 1)],
  [some (.ldc2_w 4294967295, 3), none, none, some (.land, 1), some (.lor, 1), some (.invokevirtual 8763, 3), none, none, some (.aload_n 2, 1), some (.aload_n 0, 1), some (.iload_n 3, 1), some (.iconst 1, 1), some (.iadd, 1), some (.iaload, 1), some (.aload_n 0, 1), some (.iload_n 3, 1)],
  [some (.iconst 2, 1), some (.iadd, 1), some (.iaload, 1), some (.i2l, 1), some (.bipush 32, 2), none, some (.lshl, 1), some (.aload_n 0, 1), some (.iload_n 3, 1), some (.iconst 3, 1), some (.iadd, 1), some (.iaload, 1), some (.i2l, 1), some (.ldc2_w 4294967295, 3), none, none],
  [some (.land, 1), some (.lor, 1), some (.invokevirtual 24636, 3), none, none, some (.if_icmp .eq 1054, 3), none, none, some (.iconst 0, 1), some (.ireturn, 1), some (.aload_n 1, 1), some (.invokevirtual 18459, 3), none, none, some (.aload_n 2, 1), some (.invokevirtual 42780, 3)],
  [none, none, some (.if_icmp .eq 1041, 3), none, none, some (.iconst 0, 1), some (.ireturn, 1), some (.aload_n 1, 1), some (.aload_n 0, 1), some (.iload_n 3, 1), some (.iconst 1, 1), some (.iadd, 1), some (.iaload, 1), some (.aload_n 0, 1), some (.iload_n 3, 1), some (.iconst 2, 1)],
  [some (.iadd, 1), some (.iaload, 1), some (.invokevirtual 15675, 3), none, none, some (.aload_n 2, 1), some (.aload_n 0, 1), some (.iload_n 3, 1), some (.iconst 1, 1), some (.iadd, 1), some (.iaload, 1), some (.aload_n 0, 1), some (.iload_n 3, 1), some (.iconst 2, 1), some (.iadd, 1), some (.iaload, 1)],
  [some (.invokevirtual 38460, 3), none, none, some (.if_icmp .eq 1008, 3), none, none, some (.iconst 0, 1), some (.ireturn, 1), some (.aload_n 1, 1), some (.aload_n 0, 1), some (.iload_n 3, 1), some (.iconst 1, 1), some (.iadd, 1), some (.iaload, 1), some (.aload_n 0, 1), some (.iload_n 3, 1)],
  [some (.iconst 2, 1), some (.iadd, 1), some (.iaload, 1), some (.aload_n 0, 1), some (.iload_n 3, 1), some (.iconst 3, 1), some (.iadd, 1), some (.iaload, 1), some (.invokevirtual 15947, 3), none, none, some (.aload_n 2, 1), some (.aload_n 0, 1), some (.iload_n 3, 1), some (.iconst 1, 1), some (.iadd, 1)],
  [some (.iaload, 1), some (.aload_n 0, 1), some (.iload_n 3, 1), some (.iconst 2, 1), some (.iadd, 1), some (.iaload, 1), some (.aload_n 0, 1), some (.iload_n 3, 1), some (.iconst 3, 1), some (.iadd, 1), some (.iaload, 1), some (.invokevirtual 39244, 3), none, none, some (.lcmp, 1), some (.ifCond .eq 964, 3)],
  [none, none, some (.iconst 0, 1), some (.ireturn, 1), some (.aload_n 1, 1), some (.aload_n 0, 1), some (.iload_n 3, 1), some (.iconst 1, 1), some (.iadd, 1), some (.iaload, 1), some (.aload_n 0, 1), some (.iload_n 3, 1), some (.iconst 2, 1), some (.iadd, 1), some (.iaload, 1), some (.invokevirtual 4923, 3)],
  [none, none, some (.aload_n 2, 1), some (.aload_n 0, 1), some (.iload_n 3, 1), some (.iconst 1, 1), some (.iadd, 1), some (.iaload, 1), some (.aload_n 0, 1), some (.iload_n 3, 1), some (.iconst 2, 1), some (.iadd, 1), some (.iaload, 1), some (.invokevirtual 19772, 3), none, none],
  [some (.if_icmp .eq 931, 3), none, none, some (.iconst 0, 1), some (.ireturn, 1), some (.aload_n 1, 1), some (.aload_n 0, 1), some (.iload_n 3, 1), some (.iconst 1, 1), some (.iadd, 1), some (.iaload, 1), some (.aload_n 0, 1), some (.iload_n 3, 1), some (.iconst 2, 1), some (.iadd, 1), some (.iaload, 1)],
  [some (.invokevirtual 9019, 3), none, none, some (.aload_n 2, 1), some (.aload_n 0, 1), some (.iload_n 3, 1), some (.iconst 1, 1), some (.iadd, 1), some (.iaload, 1), some (.aload_n 0, 1), some (.iload_n 3, 1), some (.iconst 2, 1), some (.iadd, 1), some (.iaload, 1), some (.invokevirtual 24892, 3), none],
  [none, some (.if_icmp .eq 898, 3), none, none, some (.iconst 0, 1), some (.ireturn, 1), some (.aload_n 1, 1), some (.aload_n 0, 1), some (.iload_n 3, 1), some (.iconst 1, 1), some (.iadd, 1), some (.iaload, 1), some (.aload_n 0, 1), some (.iload_n 3, 1), some (.iconst 2, 1), some (.iadd, 1)],
  [some (.iaload, 1), some (.invokevirtual 10043, 3), none, none, some (.aload_n 2, 1), some (.aload_n 0, 1), some (.iload_n 3, 1), some (.iconst 1, 1), some (.iadd, 1), some (.iaload, 1), some (.aload_n 0, 1), some (.iload_n 3, 1), some (.iconst 2, 1), some (.iadd, 1), some (.iaload, 1), some (.invokevirtual 27196, 3)],
  [none, none, some (.if_icmp .eq 865, 3), none, none, some (.iconst 0, 1), some (.ireturn, 1), some (.aload_n 1, 1), some (.aload_n 0, 1), some (.iload_n 3, 1), some (.iconst 1, 1), some (.iadd, 1), some (.iaload, 1), some (.aload_n 0, 1), some (.iload_n 3, 1), some (.iconst 2, 1)],
  [some (.iadd, 1), some (.iaload, 1), some (.aload_n 0, 1), some (.iload_n 3, 1), some (.iconst 3, 1), some (.iadd, 1), some (.iaload, 1), some (.invokevirtual 5963, 3), none, none, some (.aload_n 2, 1), some (.aload_n 0, 1), some (.iload_n 3, 1), some (.iconst 1, 1), some (.iadd, 1), some (.iaload, 1)],
  [some (.aload_n 0, 1), some (.iload_n 3, 1), some (.iconst 2, 1), some (.iadd, 1), some (.iaload, 1), some (.aload_n 0, 1), some (.iload_n 3, 1), some (.iconst 3, 1), some (.iadd, 1), some (.iaload, 1), some (.invokevirtual 21580, 3), none, none, some (.if_icmp .eq 822, 3), none, none],
  [some (.iconst 0, 1), some (.ireturn, 1), some (.aload_n 1, 1), some (.aload_n 0, 1), some (.iload_n 3, 1), some (.iconst 1, 1), some (.iadd, 1), some (.iaload, 1), some (.invokevirtual 15147, 3), none, none, some (.aload_n 2, 1), some (.aload_n 0, 1), some (.iload_n 3, 1), some (.iconst 1, 1), some (.iadd, 1)],
  [some (.iaload, 1), some (.invokevirtual 37164, 3), none, none, some (.if_icmp .eq 799, 3), none, none, some (.iconst 0, 1), some (.ireturn, 1), some (.aload_n 1, 1), some (.aload_n 0, 1), some (.iload_n 3, 1), some (.iconst 1, 1), some (.iadd, 1), some (.iaload, 1), some (.aload_n 0, 1)],
  [some (.iload_n 3, 1), some (.iconst 2, 1), some (.iadd, 1), some (.iaload, 1), some (.invokevirtual 13371, 3), none, none, some (.aload_n 2, 1), some (.aload_n 0, 1), some (.iload_n 3, 1), some (.iconst 1, 1), some (.iadd, 1), some (.iaload, 1), some (.aload_n 0, 1), some (.iload_n 3, 1), some (.iconst 2, 1)],
  [some (.iadd, 1), some (.iaload, 1), some (.invokevirtual 32828, 3), none, none, some (.if_icmp .eq 766, 3), none, none, some (.iconst 0, 1), some (.ireturn, 1), some (.aload_n 1, 1), some (.aload_n 0, 1), some (.iload_n 3, 1), some (.iconst 1, 1), some (.iadd, 1), some (.iaload, 1)],
  [some (.aload_n 0, 1), some (.iload_n 3, 1), some (.iconst 2, 1), some (.iadd, 1), some (.iaload, 1), some (.invokevirtual 7995, 3), none, none, some (.aload_n 2, 1), some (.aload_n 0, 1), some (.iload_n 3, 1), some (.iconst 1, 1), some (.iadd, 1), some (.iaload, 1), some (.aload_n 0, 1), some (.iload_n 3, 1)],
  [some (.iconst 2, 1), some (.iadd, 1), some (.iaload, 1), some (.invokevirtual 23868, 3), none, none, some (.if_icmp .eq 733, 3), none, none, some (.iconst 0, 1), some (.ireturn, 1), some (.aload_n 1, 1), some (.aload_n 0, 1), some (.iload_n 3, 1), some (.iconst 1, 1), some (.iadd, 1)],
  [some (.iaload, 1), some (.aload_n 0, 1), some (.iload_n 3, 1), some (.iconst 2, 1), some (.iadd, 1), some (.iaload, 1), some (.aload_n 0, 1), some (.iload_n 3, 1), some (.iconst 3, 1), some (.iadd, 1), some (.iaload, 1), some (.aload_n 0, 1), some (.iload_n 3, 1), some (.iconst 4, 1), some (.iadd, 1), some (.iaload, 1)],
  [some (.invokevirtual 14683, 3), none, none, some (.aload_n 2, 1), some (.aload_n 0, 1), some (.iload_n 3, 1), some (.iconst 1, 1), some (.iadd, 1), some (.iaload, 1), some (.aload_n 0, 1), some (.iload_n 3, 1), some (.iconst 2, 1), some (.iadd, 1), some (.iaload, 1), some (.aload_n 0, 1), some (.iload_n 3, 1)],
  [some (.iconst 3, 1), some (.iadd, 1), some (.iaload, 1), some (.aload_n 0, 1), some (.iload_n 3, 1), some (.iconst 4, 1), some (.iadd, 1), some (.iaload, 1), some (.invokevirtual 36188, 3), none, none, some (.if_icmp .eq 680, 3), none, none, some (.iconst 0, 1), some (.ireturn, 1)],
  [some (.aload_n 1, 1), some (.aload_n 0, 1), some (.iload_n 3, 1), some (.iconst 1, 1), some (.iadd, 1), some (.iaload, 1), some (.aload_n 0, 1), some (.iload_n 3, 1), some (.iconst 2, 1), some (.iadd, 1), some (.iaload, 1), some (.invokevirtual 14395, 3), none, none, some (.aload_n 2, 1), some (.aload_n 0, 1)],
  [some (.iload_n 3, 1), some (.iconst 1, 1), some (.iadd, 1), some (.iaload, 1), some (.aload_n 0, 1), some (.iload_n 3, 1), some (.iconst 2, 1), some (.iadd, 1), some (.iaload, 1), some (.invokevirtual 35644, 3), none, none, some (.lcmp, 1), some (.ifCond .eq 646, 3), none, none],
  [some (.iconst 0, 1), some (.ireturn, 1), some (.aload_n 1, 1), some (.aload_n 0, 1), some (.iload_n 3, 1), some (.iconst 1, 1), some (.iadd, 1), some (.iaload, 1), some (.aload_n 0, 1), some (.iload_n 3, 1), some (.iconst 2, 1), some (.iadd, 1), some (.iaload, 1), some (.invokevirtual 8251, 3), none, none],
  [some (.aload_n 2, 1), some (.aload_n 0, 1), some (.iload_n 3, 1), some (.iconst 1, 1), some (.iadd, 1), some (.iaload, 1), some (.aload_n 0, 1), some (.iload_n 3, 1), some (.iconst 2, 1), some (.iadd, 1), some (.iaload, 1), some (.invokevirtual 24124, 3), none, none, some (.if_icmp .eq 613, 3), none],
  [none, some (.iconst 0, 1), some (.ireturn, 1), some (.aload_n 1, 1), some (.aload_n 0, 1), some (.iload_n 3, 1), some (.iconst 1, 1), some (.iadd, 1), some (.iaload, 1), some (.aload_n 0, 1), some (.iload_n 3, 1), some (.iconst 2, 1), some (.iadd, 1), some (.iaload, 1), some (.invokevirtual 6715, 3), none],
  [none, some (.aload_n 2, 1), some (.aload_n 0, 1), some (.iload_n 3, 1), some (.iconst 1, 1), some (.iadd, 1), some (.iaload, 1), some (.aload_n 0, 1), some (.iload_n 3, 1), some (.iconst 2, 1), some (.iadd, 1), some (.iaload, 1), some (.invokevirtual 22588, 3), none, none, some (.if_icmp .eq 580, 3)],
  [none, none, some (.iconst 0, 1), some (.ireturn, 1), some (.aload_n 1, 1), some (.aload_n 0, 1), some (.iload_n 3, 1), some (.iconst 1, 1), some (.iadd, 1), some (.iaload, 1), some (.invokevirtual 5419, 3), none, none, some (.aload_n 2, 1), some (.aload_n 0, 1), some (.iload_n 3, 1)],
  [some (.iconst 1, 1), some (.iadd, 1), some (.iaload, 1), some (.invokevirtual 21036, 3), none, none, some (.if_icmp .eq 557, 3), none, none, some (.iconst 0, 1), some (.ireturn, 1), some (.aload_n 1, 1), some (.aload_n 0, 1), some (.iload_n 3, 1), some (.iconst 1, 1), some (.iadd, 1)],
  [some (.iaload, 1), some (.aload_n 0, 1), some (.iload_n 3, 1), some (.iconst 2, 1), some (.iadd, 1), some (.iaload, 1), some (.invokevirtual 16443, 3), none, none, some (.aload_n 2, 1), some (.aload_n 0, 1), some (.iload_n 3, 1), some (.iconst 1, 1), some (.iadd, 1), some (.iaload, 1), some (.aload_n 0, 1)],
  [some (.iload_n 3, 1), some (.iconst 2, 1), some (.iadd, 1), some (.iaload, 1), some (.invokevirtual 39740, 3), none, none, some (.if_icmp .eq 524, 3), none, none, some (.iconst 0, 1), some (.ireturn, 1), some (.aload_n 1, 1), some (.aload_n 0, 1), some (.iload_n 3, 1), some (.iconst 1, 1)],
  [some (.iadd, 1), some (.iaload, 1), some (.aload_n 0, 1), some (.iload_n 3, 1), some (.iconst 2, 1), some (.iadd, 1), some (.iaload, 1), some (.aload_n 0, 1), some (.iload_n 3, 1), some (.iconst 3, 1), some (.iadd, 1), some (.iaload, 1), some (.aload_n 0, 1), some (.iload_n 3, 1), some (.iconst 4, 1), some (.iadd, 1)],
  [some (.iaload, 1), some (.invokevirtual 7515, 3), none, none, some (.aload_n 2, 1), some (.aload_n 0, 1), some (.iload_n 3, 1), some (.iconst 1, 1), some (.iadd, 1), some (.iaload, 1), some (.aload_n 0, 1), some (.iload_n 3, 1), some (.iconst 2, 1), some (.iadd, 1), some (.iaload, 1), some (.aload_n 0, 1)],
  [some (.iload_n 3, 1), some (.iconst 3, 1), some (.iadd, 1), some (.iaload, 1), some (.aload_n 0, 1), some (.iload_n 3, 1), some (.iconst 4, 1), some (.iadd, 1), some (.iaload, 1), some (.invokevirtual 23388, 3), none, none, some (.if_icmp .eq 471, 3), none, none, some (.iconst 0, 1)],
  [some (.ireturn, 1), some (.aload_n 1, 1), some (.aload_n 0, 1), some (.iload_n 3, 1), some (.iconst 1, 1), some (.iadd, 1), some (.iaload, 1), some (.invokevirtual 6955, 3), none, none, some (.aload_n 2, 1), some (.aload_n 0, 1), some (.iload_n 3, 1), some (.iconst 1, 1), some (.iadd, 1), some (.iaload, 1)],
  [some (.invokevirtual 22828, 3), none, none, some (.if_icmp .eq 448, 3), none, none, some (.iconst 0, 1), some (.ireturn, 1), some (.aload_n 1, 1), some (.aload_n 0, 1), some (.iload_n 3, 1), some (.iconst 1, 1), some (.iadd, 1), some (.iaload, 1), some (.aload_n 0, 1), some (.iload_n 3, 1)],
  [some (.iconst 2, 1), some (.iadd, 1), some (.iaload, 1), some (.aload_n 0, 1), some (.iload_n 3, 1), some (.iconst 3, 1), some (.iadd, 1), some (.iaload, 1), some (.invokevirtual 19019, 3), none, none, some (.aload_n 2, 1), some (.aload_n 0, 1), some (.iload_n 3, 1), some (.iconst 1, 1), some (.iadd, 1)],
  [some (.iaload, 1), some (.aload_n 0, 1), some (.iload_n 3, 1), some (.iconst 2, 1), some (.iadd, 1), some (.iaload, 1), some (.aload_n 0, 1), some (.iload_n 3, 1), some (.iconst 3, 1), some (.iadd, 1), some (.iaload, 1), some (.invokevirtual 44364, 3), none, none, some (.if_icmp .eq 405, 3), none],
  [none, some (.iconst 0, 1), some (.ireturn, 1), some (.aload_n 1, 1), some (.aload_n 0, 1), some (.iload_n 3, 1), some (.iconst 1, 1), some (.iadd, 1), some (.iaload, 1), some (.aload_n 0, 1), some (.iload_n 3, 1), some (.iconst 2, 1), some (.iadd, 1), some (.iaload, 1), some (.invokevirtual 5179, 3), none],
  [none, some (.aload_n 2, 1), some (.aload_n 0, 1), some (.iload_n 3, 1), some (.iconst 1, 1), some (.iadd, 1), some (.iaload, 1), some (.aload_n 0, 1), some (.iload_n 3, 1), some (.iconst 2, 1), some (.iadd, 1), some (.iaload, 1), some (.invokevirtual 20028, 3), none, none, some (.if_icmp .eq 372, 3)],
  [none, none, some (.iconst 0, 1), some (.ireturn, 1), some (.aload_n 1, 1), some (.aload_n 0, 1), some (.iload_n 3, 1), some (.iconst 1, 1), some (.iadd, 1), some (.iaload, 1), some (.aload_n 0, 1), some (.iload_n 3, 1), some (.iconst 2, 1), some (.iadd, 1), some (.iaload, 1), some (.invokevirtual 17211, 3)],
  [none, none, some (.aload_n 2, 1), some (.aload_n 0, 1), some (.iload_n 3, 1), some (.iconst 1, 1), some (.iadd, 1), some (.iaload, 1), some (.aload_n 0, 1), some (.iload_n 3, 1), some (.iconst 2, 1), some (.iadd, 1), some (.iaload, 1), some (.invokevirtual 40764, 3), none, none],
  [some (.if_icmp .eq 339, 3), none, none, some (.iconst 0, 1), some (.ireturn, 1), some (.aload_n 1, 1), some (.aload_n 0, 1), some (.iload_n 3, 1), some (.iconst 1, 1), some (.iadd, 1), some (.iaload, 1), some (.aload_n 0, 1), some (.iload_n 3, 1), some (.iconst 2, 1), some (.iadd, 1), some (.iaload, 1)],
  [some (.invokevirtual 5691, 3), none, none, some (.aload_n 2, 1), some (.aload_n 0, 1), some (.iload_n 3, 1), some (.iconst 1, 1), some (.iadd, 1), some (.iaload, 1), some (.aload_n 0, 1), some (.iload_n 3, 1), some (.iconst 2, 1), some (.iadd, 1), some (.iaload, 1), some (.invokevirtual 21308, 3), none],
  [none, some (.if_icmp .eq 306, 3), none, none, some (.iconst 0, 1), some (.ireturn, 1), some (.aload_n 1, 1), some (.aload_n 0, 1), some (.iload_n 3, 1), some (.iconst 1, 1), some (.iadd, 1), some (.iaload, 1), some (.aload_n 0, 1), some (.iload_n 3, 1), some (.iconst 2, 1), some (.iadd, 1)],
  [some (.iaload, 1), some (.aload_n 0, 1), some (.iload_n 3, 1), some (.iconst 3, 1), some (.iadd, 1), some (.iaload, 1), some (.invokevirtual 13131, 3), none, none, some (.aload_n 2, 1), some (.aload_n 0, 1), some (.iload_n 3, 1), some (.iconst 1, 1), some (.iadd, 1), some (.iaload, 1), some (.aload_n 0, 1)],
  [some (.iload_n 3, 1), some (.iconst 2, 1), some (.iadd, 1), some (.iaload, 1), some (.aload_n 0, 1), some (.iload_n 3, 1), some (.iconst 3, 1), some (.iadd, 1), some (.iaload, 1), some (.invokevirtual 32332, 3), none, none, some (.if_icmp .eq 263, 3), none, none, some (.iconst 0, 1)],
  [some (.ireturn, 1), some (.aload_n 1, 1), some (.aload_n 0, 1), some (.iload_n 3, 1), some (.iconst 1, 1), some (.iadd, 1), some (.iaload, 1), some (.invokevirtual 7723, 3), none, none, some (.aload_n 2, 1), some (.aload_n 0, 1), some (.iload_n 3, 1), some (.iconst 1, 1), some (.iadd, 1), some (.iaload, 1)],
  [some (.invokevirtual 23596, 3), none, none, some (.if_icmp .eq 240, 3), none, none, some (.iconst 0, 1), some (.ireturn, 1), some (.aload_n 1, 1), some (.aload_n 0, 1), some (.iload_n 3, 1), some (.iconst 1, 1), some (.iadd, 1), some (.iaload, 1), some (.aload_n 0, 1), some (.iload_n 3, 1)],
  [some (.iconst 2, 1), some (.iadd, 1), some (.iaload, 1), some (.aload_n 0, 1), some (.iload_n 3, 1), some (.iconst 3, 1), some (.iadd, 1), some (.iaload, 1), some (.invokevirtual 17483, 3), none, none, some (.aload_n 2, 1), some (.aload_n 0, 1), some (.iload_n 3, 1), some (.iconst 1, 1), some (.iadd, 1)],
  [some (.iaload, 1), some (.aload_n 0, 1), some (.iload_n 3, 1), some (.iconst 2, 1), some (.iadd, 1), some (.iaload, 1), some (.aload_n 0, 1), some (.iload_n 3, 1), some (.iconst 3, 1), some (.iadd, 1), some (.iaload, 1), some (.invokevirtual 41036, 3), none, none, some (.if_icmp .eq 197, 3), none],
  [none, some (.iconst 0, 1), some (.ireturn, 1), some (.aload_n 1, 1), some (.aload_n 0, 1), some (.iload_n 3, 1), some (.iconst 1, 1), some (.iadd, 1), some (.iaload, 1), some (.aload_n 0, 1), some (.iload_n 3, 1), some (.iconst 2, 1), some (.iadd, 1), some (.iaload, 1), some (.aload_n 0, 1), some (.iload_n 3, 1)],
  [some (.iconst 3, 1), some (.iadd, 1), some (.iaload, 1), some (.invokevirtual 6219, 3), none, none, some (.aload_n 2, 1), some (.aload_n 0, 1), some (.iload_n 3, 1), some (.iconst 1, 1), some (.iadd, 1), some (.iaload, 1), some (.aload_n 0, 1), some (.iload_n 3, 1), some (.iconst 2, 1), some (.iadd, 1)],
  [some (.iaload, 1), some (.aload_n 0, 1), some (.iload_n 3, 1), some (.iconst 3, 1), some (.iadd, 1), some (.iaload, 1), some (.invokevirtual 22092, 3), none, none, some (.if_icmp .eq 154, 3), none, none, some (.iconst 0, 1), some (.ireturn, 1), some (.aload_n 1, 1), some (.aload_n 0, 1)],
  [some (.iload_n 3, 1), some (.iconst 1, 1), some (.iadd, 1), some (.iaload, 1), some (.aload_n 0, 1), some (.iload_n 3, 1), some (.iconst 2, 1), some (.iadd, 1), some (.iaload, 1), some (.aload_n 0, 1), some (.iload_n 3, 1), some (.iconst 3, 1), some (.iadd, 1), some (.iaload, 1), some (.aload_n 0, 1), some (.iload_n 3, 1)],
  [some (.iconst 4, 1), some (.iadd, 1), some (.iaload, 1), some (.aload_n 0, 1), some (.iload_n 3, 1), some (.iconst 5, 1), some (.iadd, 1), some (.iaload, 1), some (.invokevirtual 7275, 3), none, none, some (.aload_n 2, 1), some (.aload_n 0, 1), some (.iload_n 3, 1), some (.iconst 1, 1), some (.iadd, 1)],
  [some (.iaload, 1), some (.aload_n 0, 1), some (.iload_n 3, 1), some (.iconst 2, 1), some (.iadd, 1), some (.iaload, 1), some (.aload_n 0, 1), some (.iload_n 3, 1), some (.iconst 3, 1), some (.iadd, 1), some (.iaload, 1), some (.aload_n 0, 1), some (.iload_n 3, 1), some (.iconst 4, 1), some (.iadd, 1), some (.iaload, 1)],
  [some (.aload_n 0, 1), some (.iload_n 3, 1), some (.iconst 5, 1), some (.iadd, 1), some (.iaload, 1), some (.invokevirtual 23148, 3), none, none, some (.if_icmp .eq 91, 3), none, none, some (.iconst 0, 1), some (.ireturn, 1), some (.aload_n 1, 1), some (.aload_n 0, 1), some (.iload_n 3, 1)],
  [some (.iconst 1, 1), some (.iadd, 1), some (.iaload, 1), some (.aload_n 0, 1), some (.iload_n 3, 1), some (.iconst 2, 1), some (.iadd, 1), some (.iaload, 1), some (.aload_n 0, 1), some (.iload_n 3, 1), some (.iconst 3, 1), some (.iadd, 1), some (.iaload, 1), some (.aload_n 0, 1), some (.iload_n 3, 1), some (.iconst 4, 1)],
  [some (.iadd, 1), some (.iaload, 1), some (.invokevirtual 16731, 3), none, none, some (.aload_n 2, 1), some (.aload_n 0, 1), some (.iload_n 3, 1), some (.iconst 1, 1), some (.iadd, 1), some (.iaload, 1), some (.aload_n 0, 1), some (.iload_n 3, 1), some (.iconst 2, 1), some (.iadd, 1), some (.iaload, 1)],
  [some (.aload_n 0, 1), some (.iload_n 3, 1), some (.iconst 3, 1), some (.iadd, 1), some (.iaload, 1), some (.aload_n 0, 1), some (.iload_n 3, 1), some (.iconst 4, 1), some (.iadd, 1), some (.iaload, 1), some (.invokevirtual 40284, 3), none, none, some (.if_icmp .eq 38, 3), none, none],
  [some (.iconst 0, 1), some (.ireturn, 1), some (.aload_n 1, 1), some (.aload_n 0, 1), some (.iload_n 3, 1), some (.iconst 1, 1), some (.iadd, 1), some (.iaload, 1), some (.aload_n 0, 1), some (.iload_n 3, 1), some (.iconst 2, 1), some (.iadd, 1), some (.iaload, 1), some (.invokevirtual 18235, 3), none, none],
  [some (.aload_n 2, 1), some (.aload_n 0, 1), some (.iload_n 3, 1), some (.iconst 1, 1), some (.iadd, 1), some (.iaload, 1), some (.aload_n 0, 1), some (.iload_n 3, 1), some (.iconst 2, 1), some (.iadd, 1), some (.iaload, 1), some (.invokevirtual 42300, 3), none, none, some (.if_icmp .eq 5, 3), none],
  [none, some (.iconst 0, 1), some (.ireturn, 1), some (.iinc 3 6, 3), none, none, some (.goto (-1796), 3), none, none, some (.iconst 1, 1), some (.ireturn, 1)]])
def mc_X0_add : am_M := (99, false, [
  [some (.aload_n 0, 1), some (.getfield 0, 3), none, none, some (.aload_n 0, 1), some (.getfield 3, 3), none, none, some (.iload_n 1, 1), some (.iastore, 1), some (.aload_n 0, 1), some (.dup, 1), some (.getfield 3, 3), none, none, some (.dup_x1, 1)],
  [some (.iconst 1, 1), some (.iadd, 1), some (.putfield 3, 3), none, none, some (.ireturn, 1)]])
def mc_X0_init : am_M := (0, false, [
  [some (.aload_n 0, 1), some (.invokespecial 31, 3), none, none, some (.aload_n 0, 1), some (.bipush 8, 2), none, some (.newarray .int, 2), none, some (.putfield 0, 3), none, none, some (.aload_n 0, 1), some (.bipush 8, 2), none, some (.newarray .int, 2)],
  [none, some (.putfield 1, 3), none, none, some (.aload_n 0, 1), some (.bipush 8, 2), none, some (.bipush 8, 2), none, some (.multianewarray 3 2, 4), none, none, none, some (.putfield 2, 3), none, none],
  [some (.return_, 1)]])
def mc_X0_isBetter : am_M := (99, true, [
  [some (.iload_n 1, 1), some (.invokestatic 287, 3), none, none, some (.iload_n 2, 1), some (.invokestatic 287, 3), none, none, some (.isub, 1), some (.istore 4, 2), none, some (.iload 4, 2), none, some (.ifCond .eq 14, 3), none, none],
  [some (.iload 4, 2), none, some (.ifCond .le 7, 3), none, none, some (.iconst 1, 1), some (.goto 4, 3), none, none, some (.iconst 0, 1), some (.ireturn, 1), some (.aload_n 0, 1), some (.iload_n 2, 1), some (.iload_n 3, 1), some (.invokevirtual 2864, 3), none],
  [none, some (.aload_n 0, 1), some (.iload_n 1, 1), some (.iload_n 3, 1), some (.invokevirtual 2864, 3), none, none, some (.isub, 1), some (.istore 5, 2), none, some (.iload 5, 2), none, some (.ifCond .eq 14, 3), none, none, some (.iload 5, 2)],
  [none, some (.ifCond .le 7, 3), none, none, some (.iconst 1, 1), some (.goto 4, 3), none, none, some (.iconst 0, 1), some (.ireturn, 1), some (.aload_n 0, 1), some (.iload_n 1, 1), some (.invokevirtual 2592, 3), none, none, some (.invokestatic 287, 3)],
  [none, none, some (.aload_n 0, 1), some (.iload_n 2, 1), some (.invokevirtual 2592, 3), none, none, some (.invokestatic 287, 3), none, none, some (.if_icmp .le 7, 3), none, none, some (.iconst 1, 1), some (.goto 4, 3), none],
  [none, some (.iconst 0, 1), some (.ireturn, 1)]])
def mc_X0_settled : am_M := (99, false, [
  [some (.iconst 0, 1), some (.istore_n 3, 1), some (.iconst 1, 1), some (.istore 4, 2), none, some (.iload 4, 2), none, some (.iconst 1, 1), some (.aload_n 0, 1), some (.getfield 3, 3), none, none, some (.ishl, 1), some (.if_icmp .ge 72, 3), none, none],
  [some (.iload 4, 2), none, some (.invokestatic 287, 3), none, none, some (.iload_n 3, 1), some (.invokestatic 287, 3), none, none, some (.if_icmp .lt 19, 3), none, none, some (.aload_n 0, 1), some (.getfield 1, 3), none, none],
  [some (.iload 4, 2), none, some (.invokestatic 9263, 3), none, none, some (.ifCond .eq 7, 3), none, none, some (.iconst 1, 1), some (.goto 4, 3), none, none, some (.iconst 0, 1), some (.istore 5, 2), none, some (.iload 5, 2)],
  [none, some (.ifCond .eq 30, 3), none, none, some (.aload_n 0, 1), some (.iload 4, 2), none, some (.invokevirtual 2592, 3), none, none, some (.invokestatic 287, 3), none, none, some (.iload_n 1, 1), some (.if_icmp .lt 17, 3), none],
  [none, some (.aload_n 0, 1), some (.iload 4, 2), none, some (.iload_n 3, 1), some (.iload_n 2, 1), some (.invokevirtual 2112, 3), none, none, some (.ifCond .eq 6, 3), none, none, some (.iload 4, 2), none, some (.istore_n 3, 1), some (.iinc 4 1, 3)],
  [none, none, some (.goto (-77), 3), none, none, some (.iload_n 3, 1), some (.ireturn, 1)]])
def mc_X0_takersOf : am_M := (99, false, [
  [some (.iconst 0, 1), some (.istore_n 2, 1), some (.iconst 0, 1), some (.istore_n 3, 1), some (.iload_n 3, 1), some (.bipush 8, 2), none, some (.if_icmp .ge 32, 3), none, none, some (.iload_n 2, 1), some (.aload_n 0, 1), some (.getfield 2, 3), none, none, some (.iload_n 3, 1)],
  [some (.aaload, 1), some (.iload_n 1, 1), some (.invokestatic 17967, 3), none, none, some (.ifCond .lt 9, 3), none, none, some (.iconst 1, 1), some (.iload_n 3, 1), some (.ishl, 1), some (.goto 4, 3), none, none, some (.iconst 0, 1), some (.ior, 1)],
  [some (.istore_n 2, 1), some (.iinc 3 1, 3), none, none, some (.goto (-32), 3), none, none, some (.iload_n 2, 1), some (.ireturn, 1)]])
def mc_X0_undoneBy : am_M := (99, false, [
  [some (.iconst 0, 1), some (.istore_n 3, 1), some (.iconst 0, 1), some (.istore 4, 2), none, some (.iload 4, 2), none, some (.aload_n 0, 1), some (.getfield 3, 3), none, none, some (.if_icmp .ge 32, 3), none, none, some (.iload_n 3, 1), some (.iload_n 1, 1)],
  [some (.iload 4, 2), none, some (.invokestatic 9775, 3), none, none, some (.ifCond .eq 13, 3), none, none, some (.aload_n 0, 1), some (.getfield 0, 3), none, none, some (.iload 4, 2), none, some (.iaload, 1), some (.goto 4, 3)],
  [none, none, some (.iconst 0, 1), some (.ior, 1), some (.istore_n 3, 1), some (.iinc 4 1, 3), none, none, some (.goto (-35), 3), none, none, some (.iload_n 3, 1), some (.iload_n 2, 1), some (.iand, 1), some (.invokestatic 287, 3), none],
  [none, some (.ireturn, 1)]])
def mc_X10_become : am_M := (99, false, [
  [some (.aload_n 0, 1), some (.iload_n 1, 1), some (.putfield 640, 3), none, none, some (.aload_n 0, 1), some (.iload_n 2, 1), some (.putfield 641, 3), none, none, some (.aload_n 0, 1), some (.getfield 642, 3), none, none, some (.iconst 0, 1), some (.invokestatic 815, 3)],
  [none, none, some (.return_, 1)]])
def mc_X10_holds : am_M := (99, true, [
  [some (.iload_n 1, 1), some (.ifCond .lt 29, 3), none, none, some (.iload_n 2, 1), some (.ifCond .lt 25, 3), none, none, some (.iload_n 2, 1), some (.aload_n 0, 1), some (.getfield 641, 3), none, none, some (.if_icmp .gt 17, 3), none, none],
  [some (.iload_n 1, 1), some (.aload_n 0, 1), some (.getfield 641, 3), none, none, some (.iload_n 2, 1), some (.isub, 1), some (.if_icmp .gt 7, 3), none, none, some (.iconst 1, 1), some (.goto 4, 3), none, none, some (.iconst 0, 1), some (.ireturn, 1)]])
def mc_X10_init : am_M := (10, false, [
  [some (.aload_n 0, 1), some (.invokespecial 31, 3), none, none, some (.aload_n 0, 1), some (.iconst (-1), 1), some (.putfield 640, 3), none, none, some (.aload_n 0, 1), some (.bipush 40, 2), none, some (.newarray .int, 2), none, some (.putfield 642, 3), none],
  [none, some (.return_, 1)]])
def mc_X10_isMissing : am_M := (99, true, [
  [some (.aload_n 0, 1), some (.getfield 640, 3), none, none, some (.iconst (-1), 1), some (.if_icmp .ne 7, 3), none, none, some (.iconst 1, 1), some (.goto 4, 3), none, none, some (.iconst 0, 1), some (.ireturn, 1)]])
def mc_X10_put : am_M := (99, false, [
  [some (.aload_n 0, 1), some (.getfield 642, 3), none, none, some (.iload_n 1, 1), some (.aload_n 0, 1), some (.getfield 640, 3), none, none, some (.ifCond .ne 8, 3), none, none, some (.iload_n 2, 1), some (.i2b, 1), some (.goto 17, 3), none],
  [none, some (.aload_n 0, 1), some (.getfield 640, 3), none, none, some (.iconst 1, 1), some (.if_icmp .ne 8, 3), none, none, some (.iload_n 2, 1), some (.i2s, 1), some (.goto 4, 3), none, none, some (.iload_n 2, 1), some (.iastore, 1)],
  [some (.return_, 1)]])
def mc_X11_act : am_M := (99, false, [
  [some (.iload_n 1, 1), some (.iconst 0, 1), some (.iconst 5, 1), some (.invokestatic 12863, 3), none, none, some (.ifCond .eq 11, 3), none, none, some (.aload_n 0, 1), some (.iload_n 2, 1), some (.invokevirtual 11819, 3), none, none, some (.ifCond .ne 6, 3), none],
  [none, some (.bipush (-2), 2), none, some (.ireturn, 1), some (.iload_n 3, 1), some (.iconst 0, 1), some (.iload_n 1, 1), some (.iconst 1, 1), some (.if_icmp .ne 8, 3), none, none, some (.bipush 71, 2), none, some (.goto 5, 3), none, none],
  [some (.bipush 99, 2), none, some (.invokestatic 12863, 3), none, none, some (.ifCond .ne 6, 3), none, none, some (.bipush (-2), 2), none, some (.ireturn, 1), some (.iload 4, 2), none, some (.invokestatic 11039, 3), none, none],
  [some (.ifCond .eq 13, 3), none, none, some (.iload 5, 2), none, some (.iconst 0, 1), some (.iconst 1, 1), some (.invokestatic 12863, 3), none, none, some (.ifCond .ne 6, 3), none, none, some (.bipush (-2), 2), none, some (.ireturn, 1)],
  [some (.iload_n 1, 1), some (.iconst 1, 1), some (.if_icmp .ne 17, 3), none, none, some (.aload_n 0, 1), some (.iload_n 3, 1), some (.bipush 12, 2), none, some (.irem, 1), some (.invokevirtual 11819, 3), none, none, some (.ifCond .ne 6, 3), none, none],
  [some (.bipush (-2), 2), none, some (.ireturn, 1), some (.aload_n 0, 1), some (.getfield 706, 3), none, none, some (.getfield 135, 3), none, none, some (.bipush 24, 2), none, some (.if_icmp .lt 8, 3), none, none, some (.bipush (-4), 2)],
  [none, some (.goto 17, 3), none, none, some (.aload_n 0, 1), some (.getfield 706, 3), none, none, some (.iload_n 1, 1), some (.iload_n 2, 1), some (.iload_n 3, 1), some (.iload 4, 2), none, some (.iload 5, 2), none, some (.invokevirtual 48994, 3)],
  [none, none, some (.ireturn, 1)]])
def mc_X11_actTold : am_M := (99, false, [
  [some (.aload_n 0, 1), some (.iload_n 1, 1), some (.invokevirtual 10539, 3), none, none, some (.ifCond .eq 25, 3), none, none, some (.iload_n 2, 1), some (.iconst 0, 1), some (.bipush 7, 2), none, some (.invokestatic 12863, 3), none, none, some (.ifCond .eq 15, 3)],
  [none, none, some (.aload_n 0, 1), some (.getfield 706, 3), none, none, some (.iload_n 1, 1), some (.iload_n 2, 1), some (.invokevirtual 50226, 3), none, none, some (.goto 5, 3), none, none, some (.bipush (-2), 2), none],
  [some (.ireturn, 1)]])
def mc_X11_acts : am_M := (99, false, [
  [some (.iload_n 1, 1), some (.invokestatic 12319, 3), none, none, some (.ifCond .eq 12, 3), none, none, some (.iload_n 2, 1), some (.iconst 0, 1), some (.iconst 3, 1), some (.invokestatic 12863, 3), none, none, some (.ifCond .ne 6, 3), none, none],
  [some (.bipush (-2), 2), none, some (.ireturn, 1), some (.aload_n 0, 1), some (.getfield 707, 3), none, none, some (.iload_n 1, 1), some (.iconst 0, 1), some (.invokevirtual 48177, 3), none, none, some (.istore_n 3, 1), some (.iload_n 2, 1), some (.ifCond .ne 5, 3), none],
  [none, some (.iload_n 3, 1), some (.ireturn, 1), some (.aload_n 0, 1), some (.getfield 707, 3), none, none, some (.iload_n 1, 1), some (.iconst 1, 1), some (.invokevirtual 48177, 3), none, none, some (.istore 4, 2), none, some (.aload_n 0, 1), some (.getfield 707, 3)],
  [none, none, some (.iload_n 3, 1), some (.iload 4, 2), none, some (.invokevirtual 45617, 3), none, none, some (.istore 5, 2), none, some (.iload_n 2, 1), some (.iconst 1, 1), some (.if_icmp .ne 6, 3), none, none, some (.iload 5, 2)],
  [none, some (.ireturn, 1), some (.aload_n 0, 1), some (.getfield 707, 3), none, none, some (.iload_n 3, 1), some (.iload 4, 2), none, some (.invokevirtual 45105, 3), none, none, some (.istore 6, 2), none, some (.iload_n 2, 1), some (.iconst 2, 1)],
  [some (.if_icmp .ne 8, 3), none, none, some (.iload 6, 2), none, some (.goto 10, 3), none, none, some (.iload 5, 2), none, some (.iload 6, 2), none, some (.iconst (-1), 1), some (.ixor, 1), some (.iand, 1), some (.ireturn, 1)]])
def mc_X11_against : am_M := (99, false, [
  [some (.aload_n 0, 1), some (.iload_n 1, 1), some (.invokevirtual 10795, 3), none, none, some (.ifCond .eq 16, 3), none, none, some (.aload_n 0, 1), some (.iload_n 2, 1), some (.invokevirtual 10795, 3), none, none, some (.ifCond .eq 8, 3), none, none],
  [some (.iload_n 1, 1), some (.iload_n 2, 1), some (.if_icmp .ne 6, 3), none, none, some (.bipush (-2), 2), none, some (.ireturn, 1), some (.aload_n 0, 1), some (.getfield 711, 3), none, none, some (.getfield 1, 3), none, none, some (.iload_n 1, 1)],
  [some (.iload_n 2, 1), some (.invokestatic 16959, 3), none, none, some (.ireturn, 1)]])
def mc_X11_bought : am_M := (99, false, [
  [some (.iload_n 1, 1), some (.iconst 0, 1), some (.iconst 1, 1), some (.invokestatic 12863, 3), none, none, some (.ifCond .ne 6, 3), none, none, some (.bipush (-2), 2), none, some (.ireturn, 1), some (.aload_n 0, 1), some (.getfield 710, 3), none, none],
  [some (.invokevirtual 50707, 3), none, none, some (.istore_n 2, 1), some (.iload_n 2, 1), some (.iconst (-1), 1), some (.if_icmp .eq 7, 3), none, none, some (.iload_n 1, 1), some (.ifCond .ne 7, 3), none, none, some (.iload_n 2, 1), some (.goto 14, 3), none],
  [none, some (.aload_n 0, 1), some (.getfield 710, 3), none, none, some (.getfield 192, 3), none, none, some (.iload_n 2, 1), some (.invokestatic 17967, 3), none, none, some (.ireturn, 1)]])
def mc_X11_bound : am_M := (99, false, [
  [some (.iload_n 1, 1), some (.invokestatic 11295, 3), none, none, some (.ifCond .eq 14, 3), none, none, some (.iload_n 2, 1), some (.iconst 0, 1), some (.sipush 999, 3), none, none, some (.invokestatic 12863, 3), none, none, some (.ifCond .ne 6, 3)],
  [none, none, some (.bipush (-2), 2), none, some (.ireturn, 1), some (.aload_n 0, 1), some (.getfield 704, 3), none, none, some (.getfield 391, 3), none, none, some (.iload_n 1, 1), some (.iaload, 1), some (.istore_n 3, 1), some (.aload_n 0, 1)],
  [some (.getfield 704, 3), none, none, some (.getfield 391, 3), none, none, some (.iload_n 1, 1), some (.iload_n 2, 1), some (.iastore, 1), some (.iload_n 3, 1), some (.ireturn, 1)]])
def mc_X11_byRight : am_M := (99, false, [
  [some (.iload_n 1, 1), some (.invokestatic 12319, 3), none, none, some (.ifCond .eq 17, 3), none, none, some (.iload_n 2, 1), some (.invokestatic 11551, 3), none, none, some (.ifCond .eq 10, 3), none, none, some (.iload_n 3, 1), some (.invokestatic 11039, 3)],
  [none, none, some (.ifCond .ne 6, 3), none, none, some (.bipush (-2), 2), none, some (.ireturn, 1), some (.aload_n 0, 1), some (.getfield 707, 3), none, none, some (.aload_n 0, 1), some (.getfield 707, 3), none, none],
  [some (.iload_n 1, 1), some (.invokevirtual 45857, 3), none, none, some (.iload_n 2, 1), some (.iload_n 3, 1), some (.invokevirtual 47681, 3), none, none, some (.ireturn, 1)]])
def mc_X11_cell : am_M := (99, false, [
  [some (.iload_n 1, 1), some (.invokestatic 12063, 3), none, none, some (.ifCond .ne 6, 3), none, none, some (.bipush (-2), 2), none, some (.ireturn, 1), some (.aload_n 0, 1), some (.getfield 713, 3), none, none, some (.iload_n 1, 1), some (.aaload, 1)],
  [some (.astore 4, 2), none, some (.aload 4, 2), none, some (.invokevirtual 3866, 3), none, none, some (.ifCond .eq 6, 3), none, none, some (.bipush (-11), 2), none, some (.ireturn, 1), some (.iload_n 2, 1), some (.iconst 0, 1), some (.aload 4, 2)],
  [none, some (.getfield 641, 3), none, none, some (.iconst 1, 1), some (.isub, 1), some (.invokestatic 12863, 3), none, none, some (.ifCond .ne 6, 3), none, none, some (.bipush (-12), 2), none, some (.ireturn, 1), some (.aload 4, 2)],
  [none, some (.iload_n 2, 1), some (.iload_n 3, 1), some (.invokevirtual 4154, 3), none, none, some (.iconst 1, 1), some (.ireturn, 1)]])
def mc_X11_changed : am_M := (99, false, [
  [some (.iload_n 1, 1), some (.invokestatic 11295, 3), none, none, some (.ifCond .eq 19, 3), none, none, some (.iload_n 2, 1), some (.invokestatic 11039, 3), none, none, some (.ifCond .eq 12, 3), none, none, some (.iload_n 3, 1), some (.iconst 0, 1)],
  [some (.iconst 1, 1), some (.invokestatic 12863, 3), none, none, some (.ifCond .ne 6, 3), none, none, some (.bipush (-2), 2), none, some (.ireturn, 1), some (.aload_n 0, 1), some (.getfield 707, 3), none, none, some (.iload_n 1, 1), some (.iload_n 2, 1)],
  [some (.iload_n 3, 1), some (.invokevirtual 44865, 3), none, none, some (.ireturn, 1)]])
def mc_X11_clash : am_M := (99, false, [
  [some (.iload_n 1, 1), some (.iconst 0, 1), some (.aload_n 0, 1), some (.getfield 710, 3), none, none, some (.getfield 195, 3), none, none, some (.iconst 1, 1), some (.isub, 1), some (.invokestatic 12863, 3), none, none, some (.ifCond .eq 20, 3), none],
  [none, some (.iload_n 2, 1), some (.iconst 0, 1), some (.aload_n 0, 1), some (.getfield 710, 3), none, none, some (.getfield 195, 3), none, none, some (.iconst 1, 1), some (.isub, 1), some (.invokestatic 12863, 3), none, none, some (.ifCond .ne 6, 3)],
  [none, none, some (.bipush (-2), 2), none, some (.ireturn, 1), some (.iload_n 1, 1), some (.iload_n 2, 1), some (.if_icmp .ne 8, 3), none, none, some (.bipush (-2), 2), none, some (.goto 15, 3), none, none, some (.aload_n 0, 1)],
  [some (.getfield 710, 3), none, none, some (.getfield 193, 3), none, none, some (.iload_n 1, 1), some (.iload_n 2, 1), some (.invokestatic 16959, 3), none, none, some (.ireturn, 1)]])
def mc_X11_clause : am_M := (99, false, [
  [some (.iload_n 1, 1), some (.iconst 0, 1), some (.ldc_w 16777215, 3), none, none, some (.invokestatic 12863, 3), none, none, some (.ifCond .ne 6, 3), none, none, some (.bipush (-2), 2), none, some (.ireturn, 1), some (.aload_n 0, 1), some (.getfield 711, 3)],
  [none, none, some (.getfield 3, 3), none, none, some (.bipush 8, 2), none, some (.if_icmp .lt 8, 3), none, none, some (.bipush (-4), 2), none, some (.goto 11, 3), none, none, some (.aload_n 0, 1)],
  [some (.getfield 711, 3), none, none, some (.iload_n 1, 1), some (.invokevirtual 1568, 3), none, none, some (.ireturn, 1)]])
def mc_X11_copy : am_M := (99, false, [
  [some (.iload_n 1, 1), some (.invokestatic 12063, 3), none, none, some (.ifCond .eq 10, 3), none, none, some (.iload_n 3, 1), some (.invokestatic 12063, 3), none, none, some (.ifCond .ne 6, 3), none, none, some (.bipush (-2), 2), none],
  [some (.ireturn, 1), some (.aload_n 0, 1), some (.getfield 713, 3), none, none, some (.iload_n 1, 1), some (.aaload, 1), some (.astore 6, 2), none, some (.aload_n 0, 1), some (.getfield 713, 3), none, none, some (.iload_n 3, 1), some (.aaload, 1), some (.astore 7, 2)],
  [none, some (.aload 6, 2), none, some (.invokevirtual 3866, 3), none, none, some (.ifCond .ne 11, 3), none, none, some (.aload 7, 2), none, some (.invokevirtual 3866, 3), none, none, some (.ifCond .eq 6, 3), none],
  [none, some (.bipush (-11), 2), none, some (.ireturn, 1), some (.aload 6, 2), none, some (.getfield 640, 3), none, none, some (.aload 7, 2), none, some (.getfield 640, 3), none, none, some (.if_icmp .eq 6, 3), none],
  [none, some (.bipush (-13), 2), none, some (.ireturn, 1), some (.aload 6, 2), none, some (.iload_n 2, 1), some (.iload 5, 2), none, some (.invokevirtual 3386, 3), none, none, some (.ifCond .eq 15, 3), none, none, some (.aload 7, 2)],
  [none, some (.iload 4, 2), none, some (.iload 5, 2), none, some (.invokevirtual 3386, 3), none, none, some (.ifCond .ne 6, 3), none, none, some (.bipush (-12), 2), none, some (.ireturn, 1), some (.aload 6, 2), none],
  [some (.getfield 642, 3), none, none, some (.iload_n 2, 1), some (.aload 7, 2), none, some (.getfield 642, 3), none, none, some (.iload 4, 2), none, some (.iload 5, 2), none, some (.invokedynamic 0, 3), none, none],
  [some (.iload 5, 2), none, some (.ireturn, 1)]])
def mc_X11_council : am_M := (99, false, [
  [some (.iload_n 1, 1), some (.invokestatic 11295, 3), none, none, some (.ifCond .eq 14, 3), none, none, some (.iload_n 2, 1), some (.iconst 0, 1), some (.sipush 999, 3), none, none, some (.invokestatic 12863, 3), none, none, some (.ifCond .ne 6, 3)],
  [none, none, some (.bipush (-2), 2), none, some (.ireturn, 1), some (.iload_n 3, 1), some (.iconst 1, 1), some (.sipush 999, 3), none, none, some (.invokestatic 12863, 3), none, none, some (.ifCond .eq 11, 3), none, none],
  [some (.iload 4, 2), none, some (.invokestatic 11039, 3), none, none, some (.ifCond .ne 6, 3), none, none, some (.bipush (-2), 2), none, some (.ireturn, 1), some (.aload_n 0, 1), some (.getfield 704, 3), none, none, some (.aload_n 0, 1)],
  [some (.getfield 704, 3), none, none, some (.iload_n 1, 1), some (.iload_n 2, 1), some (.invokevirtual 55862, 3), none, none, some (.aload_n 0, 1), some (.getfield 704, 3), none, none, some (.iload 4, 2), none, some (.invokevirtual 54054, 3), none],
  [none, some (.iload_n 3, 1), some (.invokevirtual 53830, 3), none, none, some (.ireturn, 1)]])
def mc_X11_count : am_M := (99, false, [
  [some (.iload_n 1, 1), some (.tableswitch 153 0 10 #[59, 67, 75, 83, 91, 99, 107, 115, 123, 133, 143], 59), none, none, none, none, none, none, none, none, none, none, none, none, none, none],
  [none, none, none, none, none, none, none, none, none, none, none, none, none, none, none, none],
  [none, none, none, none, none, none, none, none, none, none, none, none, none, none, none, none],
  [none, none, none, none, none, none, none, none, none, none, none, none, some (.aload_n 0, 1), some (.getfield 705, 3), none, none],
  [some (.getfield 449, 3), none, none, some (.ireturn, 1), some (.aload_n 0, 1), some (.getfield 706, 3), none, none, some (.getfield 135, 3), none, none, some (.ireturn, 1), some (.aload_n 0, 1), some (.getfield 704, 3), none, none],
  [some (.getfield 389, 3), none, none, some (.ireturn, 1), some (.aload_n 0, 1), some (.getfield 708, 3), none, none, some (.getfield 580, 3), none, none, some (.ireturn, 1), some (.aload_n 0, 1), some (.getfield 710, 3), none, none],
  [some (.getfield 195, 3), none, none, some (.ireturn, 1), some (.aload_n 0, 1), some (.getfield 711, 3), none, none, some (.getfield 3, 3), none, none, some (.ireturn, 1), some (.aload_n 0, 1), some (.getfield 707, 3), none, none],
  [some (.getfield 69, 3), none, none, some (.ireturn, 1), some (.aload_n 0, 1), some (.getfield 709, 3), none, none, some (.getfield 513, 3), none, none, some (.ireturn, 1), some (.aload_n 0, 1), some (.getfield 707, 3), none, none],
  [some (.getfield 70, 3), none, none, some (.iconst 0, 1), some (.iaload, 1), some (.ireturn, 1), some (.aload_n 0, 1), some (.getfield 707, 3), none, none, some (.getfield 70, 3), none, none, some (.iconst 1, 1), some (.iaload, 1), some (.ireturn, 1)],
  [some (.aload_n 0, 1), some (.getfield 707, 3), none, none, some (.getfield 70, 3), none, none, some (.iconst 2, 1), some (.iaload, 1), some (.ireturn, 1), some (.bipush (-2), 2), none, some (.ireturn, 1)]])
def mc_X11_crossed : am_M := (99, false, [
  [some (.aload_n 0, 1), some (.iload_n 1, 1), some (.invokevirtual 10539, 3), none, none, some (.ifCond .eq 16, 3), none, none, some (.aload_n 0, 1), some (.iload_n 2, 1), some (.invokevirtual 10539, 3), none, none, some (.ifCond .eq 8, 3), none, none],
  [some (.iload_n 1, 1), some (.iload_n 2, 1), some (.if_icmp .ne 6, 3), none, none, some (.bipush (-2), 2), none, some (.ireturn, 1), some (.aload_n 0, 1), some (.getfield 707, 3), none, none, some (.iload_n 1, 1), some (.iload_n 2, 1), some (.invokevirtual 46641, 3), none],
  [none, some (.ifCond .ne 15, 3), none, none, some (.aload_n 0, 1), some (.getfield 707, 3), none, none, some (.iload_n 2, 1), some (.iload_n 1, 1), some (.invokevirtual 46641, 3), none, none, some (.ifCond .eq 7, 3), none, none],
  [some (.iconst 0, 1), some (.goto 4, 3), none, none, some (.iconst 1, 1), some (.ireturn, 1)]])
def mc_X11_elector : am_M := (99, false, [
  [some (.iload_n 1, 1), some (.iconst 0, 1), some (.sipush 999, 3), none, none, some (.invokestatic 12863, 3), none, none, some (.ifCond .eq 12, 3), none, none, some (.iload_n 2, 1), some (.iconst 0, 1), some (.iconst 1, 1), some (.invokestatic 12863, 3), none],
  [none, some (.ifCond .ne 6, 3), none, none, some (.bipush (-2), 2), none, some (.ireturn, 1), some (.aload_n 0, 1), some (.getfield 710, 3), none, none, some (.getfield 195, 3), none, none, some (.bipush 10, 2), none],
  [some (.if_icmp .lt 8, 3), none, none, some (.bipush (-4), 2), none, some (.goto 12, 3), none, none, some (.aload_n 0, 1), some (.getfield 710, 3), none, none, some (.iload_n 1, 1), some (.iload_n 2, 1), some (.invokevirtual 50483, 3), none],
  [none, some (.ireturn, 1)]])
def mc_X11_far : am_M := (99, false, [
  [some (.iload_n 1, 1), some (.invokestatic 11295, 3), none, none, some (.ifCond .eq 24, 3), none, none, some (.iload_n 2, 1), some (.invokestatic 11295, 3), none, none, some (.ifCond .eq 17, 3), none, none, some (.aload_n 0, 1), some (.getfield 704, 3)],
  [none, none, some (.getfield 385, 3), none, none, some (.iload_n 1, 1), some (.aaload, 1), some (.iload_n 2, 1), some (.iaload, 1), some (.goto 5, 3), none, none, some (.bipush (-2), 2), none, some (.ireturn, 1)]])
def mc_X11_feed : am_M := (99, false, [
  [some (.iload_n 1, 1), some (.iconst 1, 1), some (.bipush 8, 2), none, some (.invokestatic 12863, 3), none, none, some (.ifCond .ne 6, 3), none, none, some (.bipush (-2), 2), none, some (.ireturn, 1), some (.aload_n 0, 1), some (.getfield 709, 3), none],
  [none, some (.getfield 513, 3), none, none, some (.iload_n 1, 1), some (.iadd, 1), some (.sipush 160, 3), none, none, some (.if_icmp .le 6, 3), none, none, some (.bipush (-4), 2), none, some (.ireturn, 1), some (.aload_n 0, 1)],
  [some (.getfield 709, 3), none, none, some (.iload_n 1, 1), some (.lload_n 2, 1), some (.invokevirtual 56632, 3), none, none, some (.aload_n 0, 1), some (.getfield 709, 3), none, none, some (.getfield 513, 3), none, none, some (.ireturn, 1)]])
def mc_X11_felled : am_M := (99, false, [
  [some (.iload_n 1, 1), some (.invokestatic 12319, 3), none, none, some (.ifCond .eq 11, 3), none, none, some (.aload_n 0, 1), some (.iload_n 2, 1), some (.invokevirtual 10539, 3), none, none, some (.ifCond .ne 6, 3), none, none, some (.bipush (-2), 2)],
  [none, some (.ireturn, 1), some (.aload_n 0, 1), some (.getfield 707, 3), none, none, some (.iload_n 1, 1), some (.iconst 0, 1), some (.invokevirtual 48177, 3), none, none, some (.istore_n 3, 1), some (.aload_n 0, 1), some (.getfield 707, 3), none, none],
  [some (.iload_n 1, 1), some (.iconst 1, 1), some (.invokevirtual 48177, 3), none, none, some (.istore 4, 2), none, some (.aload_n 0, 1), some (.getfield 707, 3), none, none, some (.iload_n 3, 1), some (.iload 4, 2), none, some (.invokevirtual 45617, 3), none],
  [none, some (.aload_n 0, 1), some (.getfield 707, 3), none, none, some (.iload_n 3, 1), some (.iconst 1, 1), some (.iload_n 2, 1), some (.ishl, 1), some (.iconst (-1), 1), some (.ixor, 1), some (.iand, 1), some (.iload 4, 2), none, some (.invokevirtual 45617, 3), none],
  [none, some (.iconst (-1), 1), some (.ixor, 1), some (.iand, 1), some (.ireturn, 1)]])
def mc_X11_goTogether : am_M := (99, true, [
  [some (.iconst 0, 1), some (.istore_n 2, 1), some (.iload_n 2, 1), some (.aload_n 0, 1), some (.arraylength, 1), some (.if_icmp .ge 27, 3), none, none, some (.iload_n 1, 1), some (.iload_n 2, 1), some (.invokestatic 9775, 3), none, none, some (.ifCond .eq 13, 3), none, none],
  [some (.aload_n 0, 1), some (.iload_n 2, 1), some (.iaload, 1), some (.iload_n 1, 1), some (.iand, 1), some (.ifCond .eq 5, 3), none, none, some (.iconst 0, 1), some (.ireturn, 1), some (.iinc 2 1, 3), none, none, some (.goto (-27), 3), none, none],
  [some (.iconst 1, 1), some (.ireturn, 1)]])
def mc_X11_hang : am_M := (99, false, [
  [some (.aload_n 0, 1), some (.iload_n 1, 1), some (.invokevirtual 10539, 3), none, none, some (.ifCond .eq 16, 3), none, none, some (.aload_n 0, 1), some (.iload_n 2, 1), some (.invokevirtual 10539, 3), none, none, some (.ifCond .eq 8, 3), none, none],
  [some (.iload_n 1, 1), some (.iload_n 2, 1), some (.if_icmp .ne 6, 3), none, none, some (.bipush (-2), 2), none, some (.ireturn, 1), some (.aload_n 0, 1), some (.getfield 706, 3), none, none, some (.getfield 133, 3), none, none, some (.iload_n 1, 1)],
  [some (.iaload, 1), some (.iload_n 2, 1), some (.invokestatic 9775, 3), none, none, some (.ifCond .eq 6, 3), none, none, some (.bipush (-3), 2), none, some (.ireturn, 1), some (.aload_n 0, 1), some (.getfield 706, 3), none, none, some (.getfield 133, 3)],
  [none, none, some (.iload_n 1, 1), some (.dup2, 1), some (.iaload, 1), some (.iconst 1, 1), some (.iload_n 2, 1), some (.ishl, 1), some (.ior, 1), some (.iastore, 1), some (.aload_n 0, 1), some (.getfield 706, 3), none, none, some (.getfield 133, 3), none],
  [none, some (.iload_n 1, 1), some (.iaload, 1), some (.invokestatic 287, 3), none, none, some (.ireturn, 1)]])
def mc_X11_has : am_M := (99, true, [
  [some (.iload_n 0, 1), some (.iload_n 1, 1), some (.ishr, 1), some (.iconst 1, 1), some (.iand, 1), some (.ifCond .eq 7, 3), none, none, some (.iconst 1, 1), some (.goto 4, 3), none, none, some (.iconst 0, 1), some (.ireturn, 1)]])
def mc_X11_inForce : am_M := (99, false, [
  [some (.iload_n 1, 1), some (.invokestatic 12319, 3), none, none, some (.ifCond .eq 10, 3), none, none, some (.iload_n 2, 1), some (.invokestatic 11039, 3), none, none, some (.ifCond .ne 6, 3), none, none, some (.bipush (-2), 2), none],
  [some (.ireturn, 1), some (.aload_n 0, 1), some (.getfield 707, 3), none, none, some (.aload_n 0, 1), some (.getfield 707, 3), none, none, some (.iload_n 1, 1), some (.invokevirtual 45857, 3), none, none, some (.iload_n 2, 1), some (.invokevirtual 45361, 3), none],
  [none, some (.ireturn, 1)]])
def mc_X11_init : am_M := (11, false, [
  [some (.aload_n 0, 1), some (.invokespecial 31, 3), none, none, some (.aload_n 0, 1), some (.new 6, 3), none, none, some (.dup, 1), some (.invokespecial 54303, 3), none, none, some (.putfield 704, 3), none, none, some (.aload_n 0, 1)],
  [some (.new 7, 3), none, none, some (.dup, 1), some (.invokespecial 56095, 3), none, none, some (.putfield 705, 3), none, none, some (.aload_n 0, 1), some (.new 2, 3), none, none, some (.dup, 1), some (.invokespecial 49183, 3)],
  [none, none, some (.putfield 706, 3), none, none, some (.aload_n 0, 1), some (.new 1, 3), none, none, some (.dup, 1), some (.aload_n 0, 1), some (.getfield 704, 3), none, none, some (.aload_n 0, 1), some (.getfield 705, 3)],
  [none, none, some (.aload_n 0, 1), some (.getfield 706, 3), none, none, some (.invokespecial 46415, 3), none, none, some (.putfield 707, 3), none, none, some (.aload_n 0, 1), some (.new 9, 3), none, none],
  [some (.dup, 1), some (.invokespecial 63263, 3), none, none, some (.putfield 708, 3), none, none, some (.aload_n 0, 1), some (.new 8, 3), none, none, some (.dup, 1), some (.invokespecial 58399, 3), none, none, some (.putfield 709, 3)],
  [none, none, some (.aload_n 0, 1), some (.new 3, 3), none, none, some (.dup, 1), some (.invokespecial 50975, 3), none, none, some (.putfield 710, 3), none, none, some (.aload_n 0, 1), some (.new 0, 3), none],
  [none, some (.dup, 1), some (.invokespecial 1823, 3), none, none, some (.putfield 711, 3), none, none, some (.aload_n 0, 1), some (.new 4, 3), none, none, some (.dup, 1), some (.aload_n 0, 1), some (.getfield 704, 3), none],
  [none, some (.invokespecial 51759, 3), none, none, some (.putfield 712, 3), none, none, some (.aload_n 0, 1), some (.iconst 4, 1), some (.anewarray 5, 3), none, none, some (.putfield 713, 3), none, none, some (.iconst 0, 1)],
  [some (.istore_n 1, 1), some (.iload_n 1, 1), some (.iconst 4, 1), some (.if_icmp .ge 22, 3), none, none, some (.aload_n 0, 1), some (.getfield 713, 3), none, none, some (.iload_n 1, 1), some (.new 10, 3), none, none, some (.dup, 1), some (.invokespecial 3615, 3)],
  [none, none, some (.aastore, 1), some (.iinc 1 1, 3), none, none, some (.goto (-21), 3), none, none, some (.return_, 1)]])
def mc_X11_isAct : am_M := (99, true, [
  [some (.iload_n 1, 1), some (.iconst 0, 1), some (.aload_n 0, 1), some (.getfield 706, 3), none, none, some (.getfield 135, 3), none, none, some (.iconst 1, 1), some (.isub, 1), some (.invokestatic 12863, 3), none, none, some (.ireturn, 1)]])
def mc_X11_isClause : am_M := (99, true, [
  [some (.iload_n 1, 1), some (.iconst 0, 1), some (.aload_n 0, 1), some (.getfield 711, 3), none, none, some (.getfield 3, 3), none, none, some (.iconst 1, 1), some (.isub, 1), some (.invokestatic 12863, 3), none, none, some (.ireturn, 1)]])
def mc_X11_isDay : am_M := (99, true, [
  [some (.iload_n 0, 1), some (.iconst 0, 1), some (.sipush 9999, 3), none, none, some (.invokestatic 12863, 3), none, none, some (.ireturn, 1)]])
def mc_X11_isLand : am_M := (99, true, [
  [some (.iload_n 0, 1), some (.iconst 0, 1), some (.bipush 7, 2), none, some (.invokestatic 12863, 3), none, none, some (.ireturn, 1)]])
def mc_X11_isOffice : am_M := (99, true, [
  [some (.iload_n 0, 1), some (.iconst 0, 1), some (.iconst 5, 1), some (.invokestatic 12863, 3), none, none, some (.ireturn, 1)]])
def mc_X11_isPerson : am_M := (99, true, [
  [some (.iload_n 1, 1), some (.iconst 0, 1), some (.aload_n 0, 1), some (.getfield 705, 3), none, none, some (.getfield 449, 3), none, none, some (.iconst 1, 1), some (.isub, 1), some (.invokestatic 12863, 3), none, none, some (.ireturn, 1)]])
def mc_X11_isSheet : am_M := (99, true, [
  [some (.iload_n 0, 1), some (.iconst 0, 1), some (.iconst 3, 1), some (.invokestatic 12863, 3), none, none, some (.ireturn, 1)]])
def mc_X11_isSide : am_M := (99, true, [
  [some (.iload_n 0, 1), some (.iconst 0, 1), some (.iconst 2, 1), some (.invokestatic 12863, 3), none, none, some (.ireturn, 1)]])
def mc_X11_isUnder : am_M := (99, true, [
  [some (.iload_n 0, 1), some (.istore_n 2, 1), some (.iconst 0, 1), some (.istore_n 3, 1), some (.iload_n 3, 1), some (.bipush 6, 2), none, some (.if_icmp .ge 24, 3), none, none, some (.iload_n 2, 1), some (.iload_n 1, 1), some (.if_icmp .eq 19, 3), none, none, some (.iload_n 2, 1)],
  [some (.ifCond .lt 15, 3), none, none, some (.getstatic 0, 3), none, none, some (.iload_n 2, 1), some (.iaload, 1), some (.istore_n 2, 1), some (.iinc 3 1, 3), none, none, some (.goto (-24), 3), none, none, some (.iload_n 2, 1)],
  [some (.iload_n 1, 1), some (.if_icmp .ne 7, 3), none, none, some (.iconst 1, 1), some (.goto 4, 3), none, none, some (.iconst 0, 1), some (.ireturn, 1)]])
def mc_X11_isWithin : am_M := (99, true, [
  [some (.iload_n 0, 1), some (.iload_n 1, 1), some (.if_icmp .lt 12, 3), none, none, some (.iload_n 0, 1), some (.iload_n 2, 1), some (.if_icmp .gt 7, 3), none, none, some (.iconst 1, 1), some (.goto 4, 3), none, none, some (.iconst 0, 1), some (.ireturn, 1)]])
def mc_X11_journey : am_M := (99, false, [
  [some (.iload_n 1, 1), some (.invokestatic 11295, 3), none, none, some (.ifCond .eq 14, 3), none, none, some (.iload_n 2, 1), some (.iconst 0, 1), some (.sipush 255, 3), none, none, some (.invokestatic 12863, 3), none, none, some (.ifCond .ne 6, 3)],
  [none, none, some (.bipush (-2), 2), none, some (.ireturn, 1), some (.aload_n 0, 1), some (.getfield 712, 3), none, none, some (.iload_n 1, 1), some (.iload_n 2, 1), some (.iconst 1, 1), some (.iload_n 1, 1), some (.ishl, 1), some (.iconst (-1), 1), some (.ixor, 1)],
  [some (.iand, 1), some (.invokevirtual 52532, 3), none, none, some (.iload_n 3, 1), some (.iconst (-1), 1), some (.if_icmp .ne 11, 3), none, none, some (.aload_n 0, 1), some (.getfield 712, 3), none, none, some (.getfield 260, 3), none, none],
  [some (.ireturn, 1), some (.iload_n 3, 1), some (.iconst 0, 1), some (.aload_n 0, 1), some (.getfield 712, 3), none, none, some (.getfield 259, 3), none, none, some (.iconst 1, 1), some (.isub, 1), some (.invokestatic 12863, 3), none, none, some (.ifCond .eq 15, 3)],
  [none, none, some (.aload_n 0, 1), some (.getfield 712, 3), none, none, some (.getfield 258, 3), none, none, some (.iload_n 3, 1), some (.iaload, 1), some (.goto 4, 3), none, none, some (.iconst (-1), 1), some (.ireturn, 1)]])
def mc_X11_known : am_M := (99, false, [
  [some (.aload_n 0, 1), some (.iload_n 1, 1), some (.invokevirtual 10539, 3), none, none, some (.ifCond .eq 22, 3), none, none, some (.iload_n 2, 1), some (.invokestatic 11295, 3), none, none, some (.ifCond .eq 15, 3), none, none, some (.aload_n 0, 1)],
  [some (.getfield 707, 3), none, none, some (.iload_n 1, 1), some (.iload_n 2, 1), some (.invokevirtual 46897, 3), none, none, some (.goto 5, 3), none, none, some (.bipush (-2), 2), none, some (.ireturn, 1)]])
def mc_X11_lift : am_M := (99, false, [
  [some (.aload_n 0, 1), some (.iload_n 1, 1), some (.invokevirtual 10539, 3), none, none, some (.ifCond .eq 23, 3), none, none, some (.iload_n 2, 1), some (.invokestatic 11039, 3), none, none, some (.ifCond .eq 16, 3), none, none, some (.iload_n 2, 1)],
  [some (.aload_n 0, 1), some (.getfield 706, 3), none, none, some (.getfield 131, 3), none, none, some (.iload_n 1, 1), some (.iaload, 1), some (.if_icmp .ge 6, 3), none, none, some (.bipush (-2), 2), none, some (.ireturn, 1), some (.aload_n 0, 1)],
  [some (.getfield 706, 3), none, none, some (.getfield 128, 3), none, none, some (.iload_n 1, 1), some (.iaload, 1), some (.iconst 4, 1), some (.if_icmp .eq 6, 3), none, none, some (.bipush (-13), 2), none, some (.ireturn, 1), some (.aload_n 0, 1)],
  [some (.getfield 706, 3), none, none, some (.getfield 134, 3), none, none, some (.iload_n 1, 1), some (.iaload, 1), some (.iconst (-1), 1), some (.if_icmp .eq 6, 3), none, none, some (.bipush (-3), 2), none, some (.ireturn, 1), some (.aload_n 0, 1)],
  [some (.getfield 706, 3), none, none, some (.getfield 134, 3), none, none, some (.iload_n 1, 1), some (.iload_n 2, 1), some (.iastore, 1), some (.aload_n 0, 1), some (.getfield 706, 3), none, none, some (.iload_n 1, 1), some (.invokevirtual 49442, 3), none],
  [none, some (.ireturn, 1)]])
def mc_X11_office : am_M := (99, false, [
  [some (.iload_n 1, 1), some (.invokestatic 11551, 3), none, none, some (.ifCond .eq 10, 3), none, none, some (.iload_n 2, 1), some (.invokestatic 11295, 3), none, none, some (.ifCond .ne 6, 3), none, none, some (.bipush (-2), 2), none],
  [some (.ireturn, 1), some (.aload_n 0, 1), some (.getfield 705, 3), none, none, some (.getfield 450, 3), none, none, some (.iload_n 1, 1), some (.iaload, 1), some (.istore_n 3, 1), some (.aload_n 0, 1), some (.getfield 705, 3), none, none, some (.getfield 450, 3)],
  [none, none, some (.iload_n 1, 1), some (.iload_n 2, 1), some (.iastore, 1), some (.iload_n 3, 1), some (.ireturn, 1)]])
def mc_X11_officeTold : am_M := (99, false, [
  [some (.iload_n 1, 1), some (.invokestatic 11551, 3), none, none, some (.ifCond .eq 12, 3), none, none, some (.iload_n 2, 1), some (.iconst 0, 1), some (.iconst 1, 1), some (.invokestatic 12863, 3), none, none, some (.ifCond .ne 6, 3), none, none],
  [some (.bipush (-2), 2), none, some (.ireturn, 1), some (.iload_n 2, 1), some (.ifCond .ne 15, 3), none, none, some (.aload_n 0, 1), some (.getfield 705, 3), none, none, some (.getfield 450, 3), none, none, some (.iload_n 1, 1), some (.iaload, 1)],
  [some (.goto 12, 3), none, none, some (.aload_n 0, 1), some (.getfield 705, 3), none, none, some (.getfield 451, 3), none, none, some (.iload_n 1, 1), some (.iaload, 1), some (.ireturn, 1)]])
def mc_X11_owed : am_M := (99, false, [
  [some (.iload_n 1, 1), some (.invokestatic 12319, 3), none, none, some (.ifCond .eq 16, 3), none, none, some (.iload_n 2, 1), some (.iconst (-1), 1), some (.if_icmp .eq 15, 3), none, none, some (.aload_n 0, 1), some (.iload_n 2, 1), some (.invokevirtual 11819, 3), none],
  [none, some (.ifCond .ne 7, 3), none, none, some (.ldc2_w 13835058055282163712, 3), none, none, some (.lreturn, 1), some (.aload_n 0, 1), some (.getfield 708, 3), none, none, some (.aload_n 0, 1), some (.getfield 707, 3), none, none],
  [some (.aload_n 0, 1), some (.getfield 707, 3), none, none, some (.iload_n 1, 1), some (.invokevirtual 45857, 3), none, none, some (.iload_n 2, 1), some (.invokevirtual 63561, 3), none, none, some (.lreturn, 1)]])
def mc_X11_pay : am_M := (99, false, [
  [some (.iload_n 1, 1), some (.invokestatic 11551, 3), none, none, some (.ifCond .eq 11, 3), none, none, some (.aload_n 0, 1), some (.iload_n 2, 1), some (.invokevirtual 11819, 3), none, none, some (.ifCond .ne 6, 3), none, none, some (.bipush (-2), 2)],
  [none, some (.ireturn, 1), some (.iload_n 3, 1), some (.iconst 1, 1), some (.sipush 9999, 3), none, none, some (.invokestatic 12863, 3), none, none, some (.ifCond .eq 11, 3), none, none, some (.iload 4, 2), none, some (.invokestatic 11039, 3)],
  [none, none, some (.ifCond .ne 6, 3), none, none, some (.bipush (-2), 2), none, some (.ireturn, 1), some (.aload_n 0, 1), some (.getfield 708, 3), none, none, some (.getfield 580, 3), none, none, some (.bipush 30, 2)],
  [none, some (.if_icmp .lt 8, 3), none, none, some (.bipush (-4), 2), none, some (.goto 15, 3), none, none, some (.aload_n 0, 1), some (.getfield 708, 3), none, none, some (.iload_n 1, 1), some (.iload_n 2, 1), some (.iload_n 3, 1)],
  [some (.iload 4, 2), none, some (.invokevirtual 63065, 3), none, none, some (.ireturn, 1)]])
def mc_X11_person : am_M := (99, false, [
  [some (.iload_n 1, 1), some (.invokestatic 11295, 3), none, none, some (.ifCond .ne 6, 3), none, none, some (.bipush (-2), 2), none, some (.ireturn, 1), some (.aload_n 0, 1), some (.getfield 705, 3), none, none, some (.getfield 449, 3), none],
  [none, some (.bipush 12, 2), none, some (.if_icmp .lt 6, 3), none, none, some (.bipush (-4), 2), none, some (.ireturn, 1), some (.aload_n 0, 1), some (.getfield 705, 3), none, none, some (.getfield 448, 3), none, none],
  [some (.aload_n 0, 1), some (.getfield 705, 3), none, none, some (.getfield 449, 3), none, none, some (.iload_n 1, 1), some (.iastore, 1), some (.aload_n 0, 1), some (.getfield 705, 3), none, none, some (.dup, 1), some (.getfield 449, 3), none],
  [none, some (.dup_x1, 1), some (.iconst 1, 1), some (.iadd, 1), some (.putfield 449, 3), none, none, some (.ireturn, 1)]])
def mc_X11_quarrels : am_M := (99, false, [
  [some (.iload_n 1, 1), some (.invokestatic 11039, 3), none, none, some (.ifCond .ne 6, 3), none, none, some (.bipush (-2), 2), none, some (.ireturn, 1), some (.aload_n 0, 1), some (.getfield 707, 3), none, none, some (.iconst 0, 1), some (.invokevirtual 45857, 3)],
  [none, none, some (.istore_n 2, 1), some (.aload_n 0, 1), some (.getfield 707, 3), none, none, some (.iconst 1, 1), some (.invokevirtual 45857, 3), none, none, some (.istore_n 3, 1), some (.iconst 0, 1), some (.istore 4, 2), none, some (.iconst 0, 1)],
  [some (.istore 5, 2), none, some (.iload 5, 2), none, some (.bipush 6, 2), none, some (.if_icmp .ge 59, 3), none, none, some (.aload_n 0, 1), some (.getfield 707, 3), none, none, some (.iload_n 2, 1), some (.iload 5, 2), none],
  [some (.iload_n 1, 1), some (.invokevirtual 47681, 3), none, none, some (.aload_n 0, 1), some (.getfield 707, 3), none, none, some (.iload_n 3, 1), some (.iload 5, 2), none, some (.iload_n 1, 1), some (.invokevirtual 47681, 3), none, none, some (.if_icmp .ne 7, 3)],
  [none, none, some (.iconst 1, 1), some (.goto 4, 3), none, none, some (.iconst 0, 1), some (.istore 6, 2), none, some (.iload 4, 2), none, some (.iload 6, 2), none, some (.ifCond .eq 7, 3), none, none],
  [some (.iconst 0, 1), some (.goto 7, 3), none, none, some (.iconst 1, 1), some (.iload 5, 2), none, some (.ishl, 1), some (.ior, 1), some (.istore 4, 2), none, some (.iinc 5 1, 3), none, none, some (.goto (-60), 3), none],
  [none, some (.iload 4, 2), none, some (.ireturn, 1)]])
def mc_X11_road : am_M := (99, false, [
  [some (.iload_n 1, 1), some (.invokestatic 11295, 3), none, none, some (.ifCond .eq 15, 3), none, none, some (.iload_n 2, 1), some (.invokestatic 11295, 3), none, none, some (.ifCond .eq 8, 3), none, none, some (.iload_n 1, 1), some (.iload_n 2, 1)],
  [some (.if_icmp .ne 6, 3), none, none, some (.bipush (-2), 2), none, some (.ireturn, 1), some (.iload_n 3, 1), some (.sipush 999, 3), none, none, some (.if_icmp .eq 16, 3), none, none, some (.iload_n 3, 1), some (.iconst 1, 1), some (.bipush 99, 2)],
  [none, some (.invokestatic 12863, 3), none, none, some (.ifCond .ne 6, 3), none, none, some (.bipush (-2), 2), none, some (.ireturn, 1), some (.aload_n 0, 1), some (.getfield 704, 3), none, none, some (.getfield 384, 3), none],
  [none, some (.iload_n 1, 1), some (.aaload, 1), some (.iload_n 2, 1), some (.iaload, 1), some (.istore 4, 2), none, some (.aload_n 0, 1), some (.getfield 704, 3), none, none, some (.iload_n 1, 1), some (.iload_n 2, 1), some (.iload_n 3, 1), some (.invokevirtual 54598, 3), none],
  [none, some (.iload 4, 2), none, some (.ireturn, 1)]])
def mc_X11_rule : am_M := (99, false, [
  [some (.iload_n 1, 1), some (.invokestatic 12319, 3), none, none, some (.ifCond .eq 20, 3), none, none, some (.iload_n 2, 1), some (.iconst 0, 1), some (.aload_n 0, 1), some (.getfield 707, 3), none, none, some (.getfield 69, 3), none, none],
  [some (.iconst 1, 1), some (.isub, 1), some (.invokestatic 12863, 3), none, none, some (.ifCond .ne 6, 3), none, none, some (.bipush (-2), 2), none, some (.ireturn, 1), some (.aload_n 0, 1), some (.getfield 707, 3), none, none, some (.getfield 70, 3)],
  [none, none, some (.iload_n 1, 1), some (.iaload, 1), some (.istore_n 3, 1), some (.aload_n 0, 1), some (.getfield 707, 3), none, none, some (.getfield 70, 3), none, none, some (.iload_n 1, 1), some (.iload_n 2, 1), some (.iastore, 1), some (.iload_n 3, 1)],
  [some (.ireturn, 1)]])
def mc_X11_says : am_M := (99, false, [
  [some (.iload_n 1, 1), some (.invokestatic 12319, 3), none, none, some (.ifCond .eq 20, 3), none, none, some (.aload_n 0, 1), some (.iload_n 2, 1), some (.invokevirtual 10539, 3), none, none, some (.ifCond .eq 12, 3), none, none, some (.iload_n 3, 1)],
  [some (.iconst 0, 1), some (.iconst 1, 1), some (.invokestatic 12863, 3), none, none, some (.ifCond .ne 7, 3), none, none, some (.ldc2_w 13835058055282163712, 3), none, none, some (.lreturn, 1), some (.aload_n 0, 1), some (.getfield 707, 3), none, none],
  [some (.iload_n 1, 1), some (.iload_n 2, 1), some (.iload_n 3, 1), some (.invokevirtual 48705, 3), none, none, some (.i2l, 1), some (.lreturn, 1)]])
def mc_X11_seat : am_M := (99, false, [
  [some (.iload_n 1, 1), some (.invokestatic 11551, 3), none, none, some (.ifCond .eq 16, 3), none, none, some (.iload_n 2, 1), some (.iconst (-1), 1), some (.if_icmp .eq 14, 3), none, none, some (.aload_n 0, 1), some (.iload_n 2, 1), some (.invokevirtual 11819, 3), none],
  [none, some (.ifCond .ne 6, 3), none, none, some (.bipush (-5), 2), none, some (.ireturn, 1), some (.aload_n 0, 1), some (.getfield 705, 3), none, none, some (.getfield 451, 3), none, none, some (.iload_n 1, 1), some (.iaload, 1)],
  [some (.istore_n 3, 1), some (.aload_n 0, 1), some (.getfield 705, 3), none, none, some (.getfield 451, 3), none, none, some (.iload_n 1, 1), some (.iload_n 2, 1), some (.iastore, 1), some (.iload_n 3, 1), some (.ireturn, 1)]])
def mc_X11_seats : am_M := (99, false, [
  [some (.iload_n 1, 1), some (.invokestatic 11295, 3), none, none, some (.ifCond .eq 13, 3), none, none, some (.iload_n 2, 1), some (.iconst 0, 1), some (.bipush 99, 2), none, some (.invokestatic 12863, 3), none, none, some (.ifCond .ne 6, 3), none],
  [none, some (.bipush (-2), 2), none, some (.ireturn, 1), some (.aload_n 0, 1), some (.getfield 704, 3), none, none, some (.getfield 390, 3), none, none, some (.iload_n 1, 1), some (.iaload, 1), some (.istore_n 3, 1), some (.aload_n 0, 1), some (.getfield 704, 3)],
  [none, none, some (.getfield 390, 3), none, none, some (.iload_n 1, 1), some (.iload_n 2, 1), some (.iastore, 1), some (.iload_n 3, 1), some (.ireturn, 1)]])
def mc_X11_seatsRow : am_M := (99, false, [
  [some (.iload_n 1, 1), some (.invokestatic 12063, 3), none, none, some (.ifCond .eq 23, 3), none, none, some (.iload_n 2, 1), some (.iconst 0, 1), some (.iconst 2, 1), some (.invokestatic 12863, 3), none, none, some (.ifCond .eq 14, 3), none, none],
  [some (.iload 4, 2), none, some (.iconst 0, 1), some (.bipush 8, 2), none, some (.invokestatic 12863, 3), none, none, some (.ifCond .ne 6, 3), none, none, some (.bipush (-2), 2), none, some (.ireturn, 1), some (.aload_n 0, 1), some (.getfield 713, 3)],
  [none, none, some (.iload_n 1, 1), some (.aaload, 1), some (.astore 5, 2), none, some (.aload 5, 2), none, some (.invokevirtual 3866, 3), none, none, some (.ifCond .eq 6, 3), none, none, some (.bipush (-11), 2), none],
  [some (.ireturn, 1), some (.aload 5, 2), none, some (.getfield 640, 3), none, none, some (.iload_n 2, 1), some (.if_icmp .eq 6, 3), none, none, some (.bipush (-13), 2), none, some (.ireturn, 1), some (.iconst 0, 1), some (.istore 6, 2), none],
  [some (.iconst 0, 1), some (.istore 7, 2), none, some (.iload 7, 2), none, some (.iload 4, 2), none, some (.if_icmp .ge 63, 3), none, none, some (.aload 5, 2), none, some (.iload_n 3, 1), some (.iload 7, 2), none, some (.iconst 1, 1)],
  [some (.iadd, 1), some (.invokevirtual 3386, 3), none, none, some (.ifCond .ne 6, 3), none, none, some (.bipush (-12), 2), none, some (.ireturn, 1), some (.aload 5, 2), none, some (.getfield 642, 3), none, none, some (.iload_n 3, 1)],
  [some (.iload 7, 2), none, some (.iadd, 1), some (.iaload, 1), some (.istore 8, 2), none, some (.iload 8, 2), none, some (.iconst 0, 1), some (.bipush 99, 2), none, some (.invokestatic 12863, 3), none, none, some (.ifCond .eq 18, 3), none],
  [none, some (.aload_n 0, 1), some (.getfield 704, 3), none, none, some (.getfield 390, 3), none, none, some (.iload 7, 2), none, some (.iload 8, 2), none, some (.iastore, 1), some (.iinc 6 1, 3), none, none],
  [some (.iinc 7 1, 3), none, none, some (.goto (-64), 3), none, none, some (.iload 6, 2), none, some (.ireturn, 1)]])
def mc_X11_setApart : am_M := (99, false, [
  [some (.aload_n 0, 1), some (.iload_n 1, 1), some (.iaload, 1), some (.iload_n 2, 1), some (.invokestatic 9775, 3), none, none, some (.ifCond .eq 5, 3), none, none, some (.iconst 0, 1), some (.ireturn, 1), some (.aload_n 0, 1), some (.iload_n 1, 1), some (.dup2, 1), some (.iaload, 1)],
  [some (.iconst 1, 1), some (.iload_n 2, 1), some (.ishl, 1), some (.ior, 1), some (.iastore, 1), some (.aload_n 0, 1), some (.iload_n 2, 1), some (.dup2, 1), some (.iaload, 1), some (.iconst 1, 1), some (.iload_n 1, 1), some (.ishl, 1), some (.ior, 1), some (.iastore, 1), some (.iconst 1, 1), some (.ireturn, 1)]])
def mc_X11_settling : am_M := (99, false, [
  [some (.iload_n 1, 1), some (.iconst 0, 1), some (.bipush 8, 2), none, some (.invokestatic 12863, 3), none, none, some (.ifCond .eq 12, 3), none, none, some (.iload_n 2, 1), some (.iconst 0, 1), some (.iconst 2, 1), some (.invokestatic 12863, 3), none, none],
  [some (.ifCond .ne 6, 3), none, none, some (.bipush (-2), 2), none, some (.ireturn, 1), some (.aload_n 0, 1), some (.getfield 707, 3), none, none, some (.iconst 2, 1), some (.invokevirtual 45857, 3), none, none, some (.istore_n 3, 1), some (.aload_n 0, 1)],
  [some (.getfield 711, 3), none, none, some (.iload_n 1, 1), some (.iload_n 3, 1), some (.invokevirtual 2352, 3), none, none, some (.istore 4, 2), none, some (.iload_n 2, 1), some (.ifCond .ne 6, 3), none, none, some (.iload 4, 2), none],
  [some (.ireturn, 1), some (.iload_n 2, 1), some (.iconst 1, 1), some (.if_icmp .ne 16, 3), none, none, some (.aload_n 0, 1), some (.getfield 711, 3), none, none, some (.iload 4, 2), none, some (.iload_n 3, 1), some (.invokevirtual 2864, 3), none, none],
  [some (.goto 12, 3), none, none, some (.aload_n 0, 1), some (.getfield 711, 3), none, none, some (.iload 4, 2), none, some (.invokevirtual 2592, 3), none, none, some (.ireturn, 1)]])
def mc_X11_sheet : am_M := (99, false, [
  [some (.iload_n 1, 1), some (.invokestatic 12063, 3), none, none, some (.ifCond .eq 12, 3), none, none, some (.iload_n 2, 1), some (.iconst (-1), 1), some (.iconst 2, 1), some (.invokestatic 12863, 3), none, none, some (.ifCond .ne 6, 3), none, none],
  [some (.bipush (-2), 2), none, some (.ireturn, 1), some (.iload_n 2, 1), some (.iconst (-1), 1), some (.if_icmp .ne 16, 3), none, none, some (.aload_n 0, 1), some (.getfield 713, 3), none, none, some (.iload_n 1, 1), some (.aaload, 1), some (.iconst (-1), 1), some (.iconst 0, 1)],
  [some (.invokevirtual 3130, 3), none, none, some (.iconst 1, 1), some (.ireturn, 1), some (.iload_n 3, 1), some (.bipush 40, 2), none, some (.if_icmp .le 6, 3), none, none, some (.bipush (-2), 2), none, some (.ireturn, 1), some (.iload_n 3, 1), some (.ifCond .ge 6, 3)],
  [none, none, some (.bipush (-14), 2), none, some (.ireturn, 1), some (.aload_n 0, 1), some (.getfield 713, 3), none, none, some (.iload_n 1, 1), some (.aaload, 1), some (.iload_n 2, 1), some (.iload_n 3, 1), some (.invokevirtual 3130, 3), none, none],
  [some (.iconst 1, 1), some (.ireturn, 1)]])
def mc_X11_side : am_M := (99, false, [
  [some (.iload_n 1, 1), some (.invokestatic 11295, 3), none, none, some (.ifCond .eq 22, 3), none, none, some (.iload_n 2, 1), some (.invokestatic 11039, 3), none, none, some (.ifCond .eq 15, 3), none, none, some (.aload_n 0, 1), some (.getfield 704, 3)],
  [none, none, some (.iload_n 1, 1), some (.iload_n 2, 1), some (.invokevirtual 55350, 3), none, none, some (.goto 5, 3), none, none, some (.bipush (-2), 2), none, some (.ireturn, 1)]])
def mc_X11_sumOver : am_M := (99, false, [
  [some (.iconst 0, 1), some (.istore_n 2, 1), some (.iconst 0, 1), some (.istore_n 3, 1), some (.iload_n 3, 1), some (.aload_n 0, 1), some (.arraylength, 1), some (.if_icmp .ge 27, 3), none, none, some (.iload_n 2, 1), some (.iload_n 1, 1), some (.iload_n 3, 1), some (.invokestatic 9775, 3), none, none],
  [some (.ifCond .eq 9, 3), none, none, some (.aload_n 0, 1), some (.iload_n 3, 1), some (.iaload, 1), some (.goto 4, 3), none, none, some (.iconst 0, 1), some (.iadd, 1), some (.istore_n 2, 1), some (.iinc 3 1, 3), none, none, some (.goto (-27), 3)],
  [none, none, some (.iload_n 2, 1), some (.ireturn, 1)]])
def mc_X11_taken : am_M := (99, false, [
  [some (.iload_n 2, 1), some (.iconst 0, 1), some (.iconst 5, 1), some (.invokestatic 12863, 3), none, none, some (.ifCond .ne 6, 3), none, none, some (.bipush (-2), 2), none, some (.ireturn, 1), some (.aload_n 0, 1), some (.iload_n 1, 1), some (.invokevirtual 10539, 3), none],
  [none, some (.ifCond .ne 6, 3), none, none, some (.bipush (-11), 2), none, some (.ireturn, 1), some (.aload_n 0, 1), some (.getfield 706, 3), none, none, some (.getfield 128, 3), none, none, some (.iload_n 1, 1), some (.iaload, 1)],
  [some (.istore_n 3, 1), some (.iload_n 3, 1), some (.iload_n 2, 1), some (.invokestatic 12591, 3), none, none, some (.ifCond .eq 11, 3), none, none, some (.getstatic 1, 3), none, none, some (.iload_n 3, 1), some (.iaload, 1), some (.goto 5, 3), none],
  [none, some (.bipush (-13), 2), none, some (.ireturn, 1)]])
def mc_X11_text : am_M := (99, false, [
  [some (.aload_n 0, 1), some (.getfield 707, 3), none, none, some (.getfield 69, 3), none, none, some (.bipush 6, 2), none, some (.if_icmp .lt 6, 3), none, none, some (.bipush (-4), 2), none, some (.ireturn, 1), some (.aload_n 0, 1)],
  [some (.getfield 709, 3), none, none, some (.invokevirtual 61720, 3), none, none, some (.istore_n 1, 1), some (.iload_n 1, 1), some (.iconst (-1), 1), some (.if_icmp .ne 27, 3), none, none, some (.aload_n 0, 1), some (.getfield 707, 3), none, none],
  [some (.aload_n 0, 1), some (.getfield 709, 3), none, none, some (.getfield 514, 3), none, none, some (.aload_n 0, 1), some (.getfield 709, 3), none, none, some (.getfield 515, 3), none, none, some (.invokevirtual 44593, 3), none],
  [none, some (.goto 7, 3), none, none, some (.bipush (-100), 2), none, some (.iload_n 1, 1), some (.isub, 1), some (.ireturn, 1)]])
def mc_X11_turn : am_M := (99, false, [
  [some (.iload_n 1, 1), some (.invokestatic 11295, 3), none, none, some (.ifCond .eq 19, 3), none, none, some (.iload_n 2, 1), some (.invokestatic 11039, 3), none, none, some (.ifCond .eq 12, 3), none, none, some (.iload_n 3, 1), some (.iconst 0, 1)],
  [some (.iconst 1, 1), some (.invokestatic 12863, 3), none, none, some (.ifCond .ne 6, 3), none, none, some (.bipush (-2), 2), none, some (.ireturn, 1), some (.aload_n 0, 1), some (.getfield 704, 3), none, none, some (.getfield 389, 3), none],
  [none, some (.bipush 30, 2), none, some (.if_icmp .lt 8, 3), none, none, some (.bipush (-4), 2), none, some (.goto 13, 3), none, none, some (.aload_n 0, 1), some (.getfield 704, 3), none, none, some (.iload_n 1, 1)],
  [some (.iload_n 2, 1), some (.iload_n 3, 1), some (.invokevirtual 53574, 3), none, none, some (.ireturn, 1)]])
def mc_X11_worth : am_M := (99, false, [
  [some (.aload_n 0, 1), some (.iload_n 1, 1), some (.invokevirtual 10795, 3), none, none, some (.ifCond .eq 21, 3), none, none, some (.iload_n 2, 1), some (.invokestatic 11295, 3), none, none, some (.ifCond .eq 14, 3), none, none, some (.iload_n 3, 1)],
  [some (.bipush (-99), 2), none, some (.bipush 99, 2), none, some (.invokestatic 12863, 3), none, none, some (.ifCond .ne 7, 3), none, none, some (.sipush (-1000), 3), none, none, some (.ireturn, 1), some (.aload_n 0, 1), some (.getfield 711, 3)],
  [none, none, some (.getfield 2, 3), none, none, some (.iload_n 2, 1), some (.aaload, 1), some (.iload_n 1, 1), some (.iaload, 1), some (.istore 4, 2), none, some (.aload_n 0, 1), some (.getfield 711, 3), none, none, some (.getfield 2, 3)],
  [none, none, some (.iload_n 2, 1), some (.aaload, 1), some (.iload_n 1, 1), some (.iload_n 3, 1), some (.iastore, 1), some (.iload 4, 2), none, some (.ireturn, 1)]])
def mc_X12_act : am_M := (99, false, [
  [some (.aload_n 0, 1), some (.iload_n 1, 1), some (.iconst 0, 1), some (.iconst 5, 1), some (.invokevirtual 26956, 3), none, none, some (.ifCond .eq 52, 3), none, none, some (.aload_n 0, 1), some (.iload_n 2, 1), some (.invokevirtual 30252, 3), none, none, some (.ifCond .eq 44, 3)],
  [none, none, some (.aload_n 0, 1), some (.iload_n 3, 1), some (.iconst 0, 1), some (.iload_n 1, 1), some (.iconst 1, 1), some (.if_icmp .ne 8, 3), none, none, some (.bipush 71, 2), none, some (.goto 5, 3), none, none, some (.bipush 99, 2)],
  [none, some (.invokevirtual 26956, 3), none, none, some (.ifCond .eq 23, 3), none, none, some (.aload_n 0, 1), some (.iload 4, 2), none, some (.invokevirtual 28460, 3), none, none, some (.ifCond .eq 14, 3), none, none],
  [some (.aload_n 0, 1), some (.iload 5, 2), none, some (.iconst 0, 1), some (.iconst 1, 1), some (.invokevirtual 26956, 3), none, none, some (.ifCond .ne 6, 3), none, none, some (.bipush (-2), 2), none, some (.ireturn, 1), some (.iload_n 1, 1), some (.iconst 1, 1)],
  [some (.if_icmp .ne 17, 3), none, none, some (.aload_n 0, 1), some (.iload_n 3, 1), some (.bipush 12, 2), none, some (.irem, 1), some (.invokevirtual 30252, 3), none, none, some (.ifCond .ne 6, 3), none, none, some (.bipush (-2), 2), none],
  [some (.ireturn, 1), some (.aload_n 0, 1), some (.getfield 778, 3), none, none, some (.bipush 24, 2), none, some (.if_icmp .ne 6, 3), none, none, some (.bipush (-4), 2), none, some (.ireturn, 1), some (.aload_n 0, 1), some (.getfield 779, 3), none],
  [none, some (.aload_n 0, 1), some (.getfield 778, 3), none, none, some (.iload_n 1, 1), some (.iastore, 1), some (.aload_n 0, 1), some (.getfield 780, 3), none, none, some (.aload_n 0, 1), some (.getfield 778, 3), none, none, some (.iload_n 2, 1)],
  [some (.iastore, 1), some (.aload_n 0, 1), some (.getfield 781, 3), none, none, some (.aload_n 0, 1), some (.getfield 778, 3), none, none, some (.iload_n 3, 1), some (.iastore, 1), some (.aload_n 0, 1), some (.getfield 782, 3), none, none, some (.aload_n 0, 1)],
  [some (.getfield 778, 3), none, none, some (.iload 4, 2), none, some (.iastore, 1), some (.aload_n 0, 1), some (.getfield 783, 3), none, none, some (.aload_n 0, 1), some (.getfield 778, 3), none, none, some (.iload 5, 2), none],
  [some (.iastore, 1), some (.aload_n 0, 1), some (.getfield 784, 3), none, none, some (.aload_n 0, 1), some (.getfield 778, 3), none, none, some (.iconst 0, 1), some (.iastore, 1), some (.aload_n 0, 1), some (.getfield 785, 3), none, none, some (.aload_n 0, 1)],
  [some (.getfield 778, 3), none, none, some (.iconst (-1), 1), some (.iastore, 1), some (.aload_n 0, 1), some (.dup, 1), some (.getfield 778, 3), none, none, some (.iconst 1, 1), some (.iadd, 1), some (.putfield 778, 3), none, none, some (.aload_n 0, 1)],
  [some (.getfield 778, 3), none, none, some (.iconst 1, 1), some (.isub, 1), some (.ireturn, 1)]])
def mc_X12_actTold : am_M := (99, false, [
  [some (.aload_n 0, 1), some (.iload_n 1, 1), some (.invokevirtual 27692, 3), none, none, some (.ifCond .ne 6, 3), none, none, some (.bipush (-2), 2), none, some (.ireturn, 1), some (.iload_n 2, 1), some (.tableswitch 102 0 7 #[48, 55, 62, 69, 76, 83, 89, 95], 48), none, none, none],
  [none, none, none, none, none, none, none, none, none, none, none, none, none, none, none, none],
  [none, none, none, none, none, none, none, none, none, none, none, none, none, none, none, none],
  [none, none, none, none, none, none, none, none, none, none, none, none, some (.aload_n 0, 1), some (.getfield 779, 3), none, none],
  [some (.iload_n 1, 1), some (.iaload, 1), some (.ireturn, 1), some (.aload_n 0, 1), some (.getfield 780, 3), none, none, some (.iload_n 1, 1), some (.iaload, 1), some (.ireturn, 1), some (.aload_n 0, 1), some (.getfield 781, 3), none, none, some (.iload_n 1, 1), some (.iaload, 1)],
  [some (.ireturn, 1), some (.aload_n 0, 1), some (.getfield 782, 3), none, none, some (.iload_n 1, 1), some (.iaload, 1), some (.ireturn, 1), some (.aload_n 0, 1), some (.getfield 783, 3), none, none, some (.iload_n 1, 1), some (.iaload, 1), some (.ireturn, 1), some (.aload_n 0, 1)],
  [some (.iload_n 1, 1), some (.invokevirtual 37676, 3), none, none, some (.ireturn, 1), some (.aload_n 0, 1), some (.iload_n 1, 1), some (.invokevirtual 33324, 3), none, none, some (.ireturn, 1), some (.aload_n 0, 1), some (.getfield 784, 3), none, none, some (.iload_n 1, 1)],
  [some (.iaload, 1), some (.ireturn, 1), some (.bipush (-2), 2), none, some (.ireturn, 1)]])
def mc_X12_acts : am_M := (99, false, [
  [some (.aload_n 0, 1), some (.iload_n 1, 1), some (.invokevirtual 30764, 3), none, none, some (.ifCond .eq 13, 3), none, none, some (.aload_n 0, 1), some (.iload_n 2, 1), some (.iconst 0, 1), some (.iconst 3, 1), some (.invokevirtual 26956, 3), none, none, some (.ifCond .ne 6, 3)],
  [none, none, some (.bipush (-2), 2), none, some (.ireturn, 1), some (.aload_n 0, 1), some (.iload_n 1, 1), some (.invokevirtual 42028, 3), none, none, some (.istore_n 3, 1), some (.aload_n 0, 1), some (.iload_n 1, 1), some (.invokevirtual 38956, 3), none, none],
  [some (.istore 4, 2), none, some (.iload_n 2, 1), some (.ifCond .ne 5, 3), none, none, some (.iload_n 3, 1), some (.ireturn, 1), some (.aload_n 0, 1), some (.iload_n 3, 1), some (.iload 4, 2), none, some (.invokevirtual 26172, 3), none, none, some (.istore 5, 2)],
  [none, some (.aload_n 0, 1), some (.iload_n 3, 1), some (.iload 4, 2), none, some (.invokevirtual 25404, 3), none, none, some (.istore 6, 2), none, some (.iload_n 2, 1), some (.iconst 1, 1), some (.if_icmp .ne 8, 3), none, none, some (.iload 5, 2)],
  [none, some (.goto 20, 3), none, none, some (.iload_n 2, 1), some (.iconst 2, 1), some (.if_icmp .ne 8, 3), none, none, some (.iload 6, 2), none, some (.goto 10, 3), none, none, some (.iload 5, 2), none],
  [some (.iload 6, 2), none, some (.iconst (-1), 1), some (.ixor, 1), some (.iand, 1), some (.ireturn, 1)]])
def mc_X12_against : am_M := (99, false, [
  [some (.aload_n 0, 1), some (.iload_n 1, 1), some (.invokevirtual 28204, 3), none, none, some (.ifCond .eq 16, 3), none, none, some (.aload_n 0, 1), some (.iload_n 2, 1), some (.invokevirtual 28204, 3), none, none, some (.ifCond .eq 8, 3), none, none],
  [some (.iload_n 1, 1), some (.iload_n 2, 1), some (.if_icmp .ne 6, 3), none, none, some (.bipush (-2), 2), none, some (.ireturn, 1), some (.aload_n 0, 1), some (.getfield 817, 3), none, none, some (.iload_n 1, 1), some (.iaload, 1), some (.iload_n 2, 1), some (.ishr, 1)],
  [some (.iconst 1, 1), some (.iand, 1), some (.iconst 1, 1), some (.if_icmp .ne 7, 3), none, none, some (.iconst 0, 1), some (.goto 4, 3), none, none, some (.iconst 1, 1), some (.istore_n 3, 1), some (.aload_n 0, 1), some (.getfield 817, 3), none, none],
  [some (.iload_n 1, 1), some (.dup2, 1), some (.iaload, 1), some (.iconst 1, 1), some (.iload_n 2, 1), some (.ishl, 1), some (.ior, 1), some (.iastore, 1), some (.aload_n 0, 1), some (.getfield 817, 3), none, none, some (.iload_n 2, 1), some (.dup2, 1), some (.iaload, 1), some (.iconst 1, 1)],
  [some (.iload_n 1, 1), some (.ishl, 1), some (.ior, 1), some (.iastore, 1), some (.iload_n 3, 1), some (.ireturn, 1)]])
def mc_X12_ahead : am_M := (99, true, [
  [some (.aload_n 0, 1), some (.getfield 793, 3), none, none, some (.iconst 1, 1), some (.if_icmp .eq 11, 3), none, none, some (.aload_n 0, 1), some (.getfield 793, 3), none, none, some (.iconst 2, 1), some (.if_icmp .ne 5, 3), none, none],
  [some (.iconst 1, 1), some (.ireturn, 1), some (.aload_n 0, 1), some (.getfield 800, 3), none, none, some (.iconst 5, 1), some (.if_icmp .ne 5, 3), none, none, some (.iconst 0, 1), some (.ireturn, 1), some (.aload_n 0, 1), some (.iconst 4, 1), some (.invokevirtual 28972, 3), none],
  [none, some (.ifCond .eq 5, 3), none, none, some (.iload_n 1, 1), some (.ireturn, 1), some (.aload_n 0, 1), some (.bipush 40, 2), none, some (.invokevirtual 31020, 3), none, none, some (.ifCond .ne 12, 3), none, none, some (.aload_n 0, 1)],
  [some (.bipush 45, 2), none, some (.invokevirtual 31020, 3), none, none, some (.ifCond .eq 7, 3), none, none, some (.iconst 1, 1), some (.goto 4, 3), none, none, some (.iconst 0, 1), some (.ireturn, 1)]])
def mc_X12_ask : am_M := (99, false, [
  [some (.aload_n 0, 1), some (.getfield 802, 3), none, none, some (.iconst 0, 1), some (.aload_n 0, 1), some (.getfield 779, 3), none, none, some (.iload_n 2, 1), some (.iaload, 1), some (.iastore, 1), some (.aload_n 0, 1), some (.getfield 802, 3), none, none],
  [some (.iconst 1, 1), some (.aload_n 0, 1), some (.getfield 782, 3), none, none, some (.iload_n 2, 1), some (.iaload, 1), some (.iastore, 1), some (.aload_n 0, 1), some (.getfield 802, 3), none, none, some (.iconst 2, 1), some (.aload_n 0, 1), some (.iload_n 2, 1), some (.invokevirtual 37676, 3)],
  [none, none, some (.iastore, 1), some (.aload_n 0, 1), some (.getfield 802, 3), none, none, some (.iconst 3, 1), some (.iload_n 1, 1), some (.iconst 2, 1), some (.if_icmp .eq 28, 3), none, none, some (.aload_n 0, 1), some (.aload_n 0, 1), some (.getfield 772, 3)],
  [none, none, some (.aload_n 0, 1), some (.getfield 780, 3), none, none, some (.iload_n 2, 1), some (.iaload, 1), some (.iaload, 1), some (.aload_n 0, 1), some (.getfield 782, 3), none, none, some (.iload_n 2, 1), some (.iaload, 1), some (.invokevirtual 41532, 3)],
  [none, none, some (.iload_n 1, 1), some (.if_icmp .ne 7, 3), none, none, some (.iconst 1, 1), some (.goto 4, 3), none, none, some (.iconst 0, 1), some (.iastore, 1), some (.aload_n 0, 1), some (.getfield 802, 3), none, none],
  [some (.iconst 4, 1), some (.aload_n 0, 1), some (.aload_n 0, 1), some (.getfield 784, 3), none, none, some (.iload_n 2, 1), some (.iaload, 1), some (.invokevirtual 35372, 3), none, none, some (.iastore, 1), some (.aload_n 0, 1), some (.getfield 802, 3), none, none],
  [some (.iconst 5, 1), some (.aload_n 0, 1), some (.getfield 783, 3), none, none, some (.iload_n 2, 1), some (.iaload, 1), some (.iastore, 1), some (.aload_n 0, 1), some (.aload_n 0, 1), some (.getfield 789, 3), none, none, some (.iload_n 1, 1), some (.iaload, 1), some (.iload_n 3, 1)],
  [some (.invokevirtual 44092, 3), none, none, some (.ireturn, 1)]])
def mc_X12_both : am_M := (99, false, [
  [some (.iload_n 1, 1), some (.tableswitch 101 (-7) (-1) #[97, 93, 82, 71, 101, 57, 43], 43), none, none, none, none, none, none, none, none, none, none, none, none, none, none],
  [none, none, none, none, none, none, none, none, none, none, none, none, none, none, none, none],
  [none, none, none, none, none, none, none, none, none, none, none, none, some (.iload_n 2, 1), some (.ifCond .ne 7, 3), none, none],
  [some (.iload_n 3, 1), some (.ifCond .eq 7, 3), none, none, some (.iconst 1, 1), some (.goto 4, 3), none, none, some (.iconst 0, 1), some (.ireturn, 1), some (.iload_n 2, 1), some (.ifCond .eq 11, 3), none, none, some (.iload_n 3, 1), some (.ifCond .eq 7, 3)],
  [none, none, some (.iconst 1, 1), some (.goto 4, 3), none, none, some (.iconst 0, 1), some (.ireturn, 1), some (.iload_n 2, 1), some (.iload_n 3, 1), some (.if_icmp .ge 7, 3), none, none, some (.iconst 1, 1), some (.goto 4, 3), none],
  [none, some (.iconst 0, 1), some (.ireturn, 1), some (.iload_n 2, 1), some (.iload_n 3, 1), some (.if_icmp .ne 7, 3), none, none, some (.iconst 1, 1), some (.goto 4, 3), none, none, some (.iconst 0, 1), some (.ireturn, 1), some (.iload_n 2, 1), some (.iload_n 3, 1)],
  [some (.iadd, 1), some (.ireturn, 1), some (.iload_n 2, 1), some (.iload_n 3, 1), some (.isub, 1), some (.ireturn, 1), some (.iload_n 2, 1), some (.iload_n 3, 1), some (.imul, 1), some (.ireturn, 1)]])
def mc_X12_bought : am_M := (99, false, [
  [some (.aload_n 0, 1), some (.iload_n 1, 1), some (.iconst 0, 1), some (.iconst 1, 1), some (.invokevirtual 26956, 3), none, none, some (.ifCond .ne 6, 3), none, none, some (.bipush (-2), 2), none, some (.ireturn, 1), some (.iconst (-1), 1), some (.istore_n 2, 1), some (.iconst 0, 1)],
  [some (.istore_n 3, 1), some (.iload_n 3, 1), some (.iconst 1, 1), some (.aload_n 0, 1), some (.getfield 809, 3), none, none, some (.ishl, 1), some (.if_icmp .ge 65, 3), none, none, some (.aload_n 0, 1), some (.iload_n 3, 1), some (.invokevirtual 21804, 3), none, none],
  [some (.ifCond .ne 6, 3), none, none, some (.goto 48, 3), none, none, some (.iload_n 2, 1), some (.ifCond .lt 42, 3), none, none, some (.aload_n 0, 1), some (.iload_n 3, 1), some (.invokevirtual 36652, 3), none, none, some (.aload_n 0, 1)],
  [some (.iload_n 2, 1), some (.invokevirtual 36652, 3), none, none, some (.if_icmp .lt 29, 3), none, none, some (.aload_n 0, 1), some (.iload_n 3, 1), some (.invokevirtual 36652, 3), none, none, some (.aload_n 0, 1), some (.iload_n 2, 1), some (.invokevirtual 36652, 3), none],
  [none, some (.if_icmp .ne 18, 3), none, none, some (.aload_n 0, 1), some (.iload_n 3, 1), some (.invokevirtual 35372, 3), none, none, some (.aload_n 0, 1), some (.iload_n 2, 1), some (.invokevirtual 35372, 3), none, none, some (.if_icmp .ge 5, 3), none],
  [none, some (.iload_n 3, 1), some (.istore_n 2, 1), some (.iinc 3 1, 3), none, none, some (.goto (-69), 3), none, none, some (.iload_n 2, 1), some (.ifCond .ge 7, 3), none, none, some (.iconst (-1), 1), some (.goto 16, 3), none],
  [none, some (.iload_n 1, 1), some (.ifCond .ne 7, 3), none, none, some (.iload_n 2, 1), some (.goto 8, 3), none, none, some (.aload_n 0, 1), some (.iload_n 2, 1), some (.invokevirtual 36652, 3), none, none, some (.ireturn, 1)]])
def mc_X12_bound : am_M := (99, false, [
  [some (.aload_n 0, 1), some (.iload_n 1, 1), some (.invokevirtual 29228, 3), none, none, some (.ifCond .eq 15, 3), none, none, some (.aload_n 0, 1), some (.iload_n 2, 1), some (.iconst 0, 1), some (.sipush 999, 3), none, none, some (.invokevirtual 26956, 3), none],
  [none, some (.ifCond .ne 6, 3), none, none, some (.bipush (-2), 2), none, some (.ireturn, 1), some (.aload_n 0, 1), some (.getfield 818, 3), none, none, some (.iload_n 1, 1), some (.iaload, 1), some (.istore_n 3, 1), some (.aload_n 0, 1), some (.getfield 818, 3)],
  [none, none, some (.iload_n 1, 1), some (.iload_n 2, 1), some (.iastore, 1), some (.iload_n 3, 1), some (.ireturn, 1)]])
def mc_X12_byRight : am_M := (99, false, [
  [some (.aload_n 0, 1), some (.iload_n 1, 1), some (.invokevirtual 30764, 3), none, none, some (.ifCond .eq 19, 3), none, none, some (.aload_n 0, 1), some (.iload_n 2, 1), some (.invokevirtual 29740, 3), none, none, some (.ifCond .eq 11, 3), none, none],
  [some (.aload_n 0, 1), some (.iload_n 3, 1), some (.invokevirtual 28460, 3), none, none, some (.ifCond .ne 6, 3), none, none, some (.bipush (-2), 2), none, some (.ireturn, 1), some (.aload_n 0, 1), some (.iload_n 2, 1), some (.iload_n 3, 1), some (.aload_n 0, 1), some (.iload_n 1, 1)],
  [some (.invokevirtual 25900, 3), none, none, some (.invokevirtual 37964, 3), none, none, some (.ireturn, 1)]])
def mc_X12_canBuy : am_M := (99, true, [
  [some (.aload_n 0, 1), some (.iload_n 1, 1), some (.invokevirtual 35372, 3), none, none, some (.istore_n 2, 1), some (.iconst 0, 1), some (.istore_n 3, 1), some (.iload_n 3, 1), some (.aload_n 0, 1), some (.getfield 809, 3), none, none, some (.if_icmp .ge 50, 3), none, none],
  [some (.iload_n 2, 1), some (.aload_n 0, 1), some (.getfield 811, 3), none, none, some (.iload_n 3, 1), some (.iaload, 1), some (.iadd, 1), some (.istore_n 2, 1), some (.iload_n 1, 1), some (.iload_n 3, 1), some (.ishr, 1), some (.iconst 1, 1), some (.iand, 1), some (.iconst 1, 1), some (.if_icmp .ne 26, 3)],
  [none, none, some (.aload_n 0, 1), some (.getfield 811, 3), none, none, some (.iload_n 3, 1), some (.iaload, 1), some (.iconst 1, 1), some (.if_icmp .eq 14, 3), none, none, some (.aload_n 0, 1), some (.getfield 812, 3), none, none],
  [some (.iload_n 3, 1), some (.iaload, 1), some (.iload_n 1, 1), some (.iand, 1), some (.ifCond .eq 5, 3), none, none, some (.iconst 0, 1), some (.ireturn, 1), some (.iinc 3 1, 3), none, none, some (.goto (-52), 3), none, none, some (.iconst 2, 1)],
  [some (.iload_n 2, 1), some (.imul, 1), some (.aload_n 0, 1), some (.getfield 809, 3), none, none, some (.if_icmp .le 7, 3), none, none, some (.iconst 1, 1), some (.goto 4, 3), none, none, some (.iconst 0, 1), some (.ireturn, 1)]])
def mc_X12_cell : am_M := (99, false, [
  [some (.aload_n 0, 1), some (.iload_n 1, 1), some (.invokevirtual 30508, 3), none, none, some (.ifCond .ne 6, 3), none, none, some (.bipush (-2), 2), none, some (.ireturn, 1), some (.aload_n 0, 1), some (.getfield 823, 3), none, none, some (.iload_n 1, 1)],
  [some (.iaload, 1), some (.ifCond .ge 6, 3), none, none, some (.bipush (-11), 2), none, some (.ireturn, 1), some (.aload_n 0, 1), some (.iload_n 2, 1), some (.iconst 0, 1), some (.aload_n 0, 1), some (.getfield 824, 3), none, none, some (.iload_n 1, 1), some (.iaload, 1)],
  [some (.iconst 1, 1), some (.isub, 1), some (.invokevirtual 26956, 3), none, none, some (.ifCond .ne 6, 3), none, none, some (.bipush (-12), 2), none, some (.ireturn, 1), some (.aload_n 0, 1), some (.getfield 825, 3), none, none, some (.bipush 40, 2)],
  [none, some (.iload_n 1, 1), some (.imul, 1), some (.iload_n 2, 1), some (.iadd, 1), some (.aload_n 0, 1), some (.getfield 823, 3), none, none, some (.iload_n 1, 1), some (.iaload, 1), some (.ifCond .ne 8, 3), none, none, some (.iload_n 3, 1), some (.i2b, 1)],
  [some (.goto 19, 3), none, none, some (.aload_n 0, 1), some (.getfield 823, 3), none, none, some (.iload_n 1, 1), some (.iaload, 1), some (.iconst 1, 1), some (.if_icmp .ne 8, 3), none, none, some (.iload_n 3, 1), some (.i2s, 1), some (.goto 4, 3)],
  [none, none, some (.iload_n 3, 1), some (.iastore, 1), some (.iconst 1, 1), some (.ireturn, 1)]])
def mc_X12_changed : am_M := (99, false, [
  [some (.aload_n 0, 1), some (.iload_n 1, 1), some (.iload_n 2, 1), some (.iload_n 3, 1), some (.invokevirtual 31564, 3), none, none, some (.ifCond .ne 6, 3), none, none, some (.bipush (-2), 2), none, some (.ireturn, 1), some (.aload_n 0, 1), some (.iconst 0, 1), some (.invokevirtual 42028, 3)],
  [none, none, some (.istore 4, 2), none, some (.aload_n 0, 1), some (.iconst 1, 1), some (.invokevirtual 42028, 3), none, none, some (.istore 5, 2), none, some (.aload_n 0, 1), some (.iload_n 1, 1), some (.iload_n 2, 1), some (.iload_n 3, 1), some (.invokevirtual 34636, 3)],
  [none, none, some (.iload 4, 2), none, some (.aload_n 0, 1), some (.iconst 0, 1), some (.invokevirtual 42028, 3), none, none, some (.ixor, 1), some (.iload 5, 2), none, some (.aload_n 0, 1), some (.iconst 1, 1), some (.invokevirtual 42028, 3), none],
  [none, some (.ixor, 1), some (.ior, 1), some (.istore 6, 2), none, some (.aload_n 0, 1), some (.dup, 1), some (.getfield 771, 3), none, none, some (.iconst 1, 1), some (.isub, 1), some (.putfield 771, 3), none, none, some (.iconst 0, 1)],
  [some (.istore 7, 2), none, some (.iconst 0, 1), some (.istore 8, 2), none, some (.iload 8, 2), none, some (.aload_n 0, 1), some (.getfield 778, 3), none, none, some (.if_icmp .ge 37, 3), none, none, some (.aload_n 0, 1), some (.getfield 772, 3)],
  [none, none, some (.aload_n 0, 1), some (.getfield 780, 3), none, none, some (.iload 8, 2), none, some (.iaload, 1), some (.iaload, 1), some (.iload_n 1, 1), some (.if_icmp .ne 15, 3), none, none, some (.iload 7, 2), none],
  [some (.iload 6, 2), none, some (.iconst 1, 1), some (.iload 8, 2), none, some (.ishl, 1), some (.iand, 1), some (.ior, 1), some (.istore 7, 2), none, some (.iinc 8 1, 3), none, none, some (.goto (-40), 3), none, none],
  [some (.iload 7, 2), none, some (.ireturn, 1)]])
def mc_X12_clash : am_M := (99, false, [
  [some (.aload_n 0, 1), some (.iload_n 1, 1), some (.iconst 0, 1), some (.aload_n 0, 1), some (.getfield 809, 3), none, none, some (.iconst 1, 1), some (.isub, 1), some (.invokevirtual 26956, 3), none, none, some (.ifCond .eq 23, 3), none, none, some (.aload_n 0, 1)],
  [some (.iload_n 2, 1), some (.iconst 0, 1), some (.aload_n 0, 1), some (.getfield 809, 3), none, none, some (.iconst 1, 1), some (.isub, 1), some (.invokevirtual 26956, 3), none, none, some (.ifCond .eq 8, 3), none, none, some (.iload_n 1, 1), some (.iload_n 2, 1)],
  [some (.if_icmp .ne 6, 3), none, none, some (.bipush (-2), 2), none, some (.ireturn, 1), some (.aload_n 0, 1), some (.getfield 812, 3), none, none, some (.iload_n 1, 1), some (.iaload, 1), some (.iload_n 2, 1), some (.ishr, 1), some (.iconst 1, 1), some (.iand, 1)],
  [some (.iconst 1, 1), some (.if_icmp .ne 7, 3), none, none, some (.iconst 0, 1), some (.goto 4, 3), none, none, some (.iconst 1, 1), some (.istore_n 3, 1), some (.aload_n 0, 1), some (.getfield 812, 3), none, none, some (.iload_n 1, 1), some (.dup2, 1)],
  [some (.iaload, 1), some (.iconst 1, 1), some (.iload_n 2, 1), some (.ishl, 1), some (.ior, 1), some (.iastore, 1), some (.aload_n 0, 1), some (.getfield 812, 3), none, none, some (.iload_n 2, 1), some (.dup2, 1), some (.iaload, 1), some (.iconst 1, 1), some (.iload_n 1, 1), some (.ishl, 1)],
  [some (.ior, 1), some (.iastore, 1), some (.iload_n 3, 1), some (.ireturn, 1)]])
def mc_X12_clause : am_M := (99, false, [
  [some (.aload_n 0, 1), some (.iload_n 1, 1), some (.iconst 0, 1), some (.ldc_w 16777215, 3), none, none, some (.invokevirtual 26956, 3), none, none, some (.ifCond .ne 6, 3), none, none, some (.bipush (-2), 2), none, some (.ireturn, 1), some (.aload_n 0, 1)],
  [some (.getfield 814, 3), none, none, some (.bipush 8, 2), none, some (.if_icmp .ne 6, 3), none, none, some (.bipush (-4), 2), none, some (.ireturn, 1), some (.aload_n 0, 1), some (.getfield 815, 3), none, none, some (.aload_n 0, 1)],
  [some (.getfield 814, 3), none, none, some (.iload_n 1, 1), some (.iastore, 1), some (.aload_n 0, 1), some (.getfield 817, 3), none, none, some (.aload_n 0, 1), some (.getfield 814, 3), none, none, some (.iconst 0, 1), some (.iastore, 1), some (.aload_n 0, 1)],
  [some (.dup, 1), some (.getfield 814, 3), none, none, some (.iconst 1, 1), some (.iadd, 1), some (.putfield 814, 3), none, none, some (.aload_n 0, 1), some (.getfield 814, 3), none, none, some (.iconst 1, 1), some (.isub, 1), some (.ireturn, 1)]])
def mc_X12_copy : am_M := (99, false, [
  [some (.aload_n 0, 1), some (.iload_n 1, 1), some (.invokevirtual 30508, 3), none, none, some (.ifCond .eq 11, 3), none, none, some (.aload_n 0, 1), some (.iload_n 3, 1), some (.invokevirtual 30508, 3), none, none, some (.ifCond .ne 6, 3), none, none],
  [some (.bipush (-2), 2), none, some (.ireturn, 1), some (.aload_n 0, 1), some (.getfield 823, 3), none, none, some (.iload_n 1, 1), some (.iaload, 1), some (.ifCond .lt 12, 3), none, none, some (.aload_n 0, 1), some (.getfield 823, 3), none, none],
  [some (.iload_n 3, 1), some (.iaload, 1), some (.ifCond .ge 6, 3), none, none, some (.bipush (-11), 2), none, some (.ireturn, 1), some (.aload_n 0, 1), some (.getfield 823, 3), none, none, some (.iload_n 1, 1), some (.iaload, 1), some (.aload_n 0, 1), some (.getfield 823, 3)],
  [none, none, some (.iload_n 3, 1), some (.iaload, 1), some (.if_icmp .eq 6, 3), none, none, some (.bipush (-13), 2), none, some (.ireturn, 1), some (.iload 5, 2), none, some (.ifCond .lt 39, 3), none, none, some (.iload_n 2, 1)],
  [some (.ifCond .lt 35, 3), none, none, some (.iload 4, 2), none, some (.ifCond .lt 30, 3), none, none, some (.iload_n 2, 1), some (.aload_n 0, 1), some (.getfield 824, 3), none, none, some (.iload_n 1, 1), some (.iaload, 1), some (.iload 5, 2)],
  [none, some (.isub, 1), some (.if_icmp .gt 17, 3), none, none, some (.iload 4, 2), none, some (.aload_n 0, 1), some (.getfield 824, 3), none, none, some (.iload_n 3, 1), some (.iaload, 1), some (.iload 5, 2), none, some (.isub, 1)],
  [some (.if_icmp .le 6, 3), none, none, some (.bipush (-12), 2), none, some (.ireturn, 1), some (.iconst 0, 1), some (.istore 6, 2), none, some (.iload 6, 2), none, some (.iload 5, 2), none, some (.if_icmp .ge 30, 3), none, none],
  [some (.aload_n 0, 1), some (.getfield 826, 3), none, none, some (.iload 6, 2), none, some (.aload_n 0, 1), some (.getfield 825, 3), none, none, some (.bipush 40, 2), none, some (.iload_n 1, 1), some (.imul, 1), some (.iload_n 2, 1), some (.iadd, 1)],
  [some (.iload 6, 2), none, some (.iadd, 1), some (.iaload, 1), some (.iastore, 1), some (.iinc 6 1, 3), none, none, some (.goto (-31), 3), none, none, some (.iconst 0, 1), some (.istore 6, 2), none, some (.iload 6, 2), none],
  [some (.iload 5, 2), none, some (.if_icmp .ge 31, 3), none, none, some (.aload_n 0, 1), some (.getfield 825, 3), none, none, some (.bipush 40, 2), none, some (.iload_n 3, 1), some (.imul, 1), some (.iload 4, 2), none, some (.iadd, 1)],
  [some (.iload 6, 2), none, some (.iadd, 1), some (.aload_n 0, 1), some (.getfield 826, 3), none, none, some (.iload 6, 2), none, some (.iaload, 1), some (.iastore, 1), some (.iinc 6 1, 3), none, none, some (.goto (-32), 3), none],
  [none, some (.iload 5, 2), none, some (.ireturn, 1)]])
def mc_X12_council : am_M := (99, false, [
  [some (.aload_n 0, 1), some (.iload_n 1, 1), some (.invokevirtual 29228, 3), none, none, some (.ifCond .eq 36, 3), none, none, some (.aload_n 0, 1), some (.iload_n 2, 1), some (.iconst 0, 1), some (.sipush 999, 3), none, none, some (.invokevirtual 26956, 3), none],
  [none, some (.ifCond .eq 24, 3), none, none, some (.aload_n 0, 1), some (.iload_n 3, 1), some (.iconst 1, 1), some (.sipush 999, 3), none, none, some (.invokevirtual 26956, 3), none, none, some (.ifCond .eq 12, 3), none, none],
  [some (.aload_n 0, 1), some (.iload 4, 2), none, some (.invokevirtual 28460, 3), none, none, some (.ifCond .ne 6, 3), none, none, some (.bipush (-2), 2), none, some (.ireturn, 1), some (.aload_n 0, 1), some (.invokevirtual 25116, 3), none, none],
  [some (.iconst 0, 1), some (.istore 5, 2), none, some (.iconst 0, 1), some (.istore 6, 2), none, some (.iload 6, 2), none, some (.bipush 8, 2), none, some (.if_icmp .ge 56, 3), none, none, some (.iload 5, 2), none, some (.aload_n 0, 1)],
  [some (.getfield 769, 3), none, none, some (.bipush 8, 2), none, some (.iload 6, 2), none, some (.imul, 1), some (.iload_n 1, 1), some (.iadd, 1), some (.iaload, 1), some (.sipush 999, 3), none, none, some (.if_icmp .ge 26, 3), none],
  [none, some (.aload_n 0, 1), some (.getfield 769, 3), none, none, some (.bipush 8, 2), none, some (.iload 6, 2), none, some (.imul, 1), some (.iload_n 1, 1), some (.iadd, 1), some (.iaload, 1), some (.iload_n 2, 1), some (.if_icmp .gt 10, 3), none],
  [none, some (.iconst 1, 1), some (.iload 6, 2), none, some (.ishl, 1), some (.goto 4, 3), none, none, some (.iconst 0, 1), some (.ior, 1), some (.istore 5, 2), none, some (.iinc 6 1, 3), none, none, some (.goto (-57), 3)],
  [none, none, some (.iconst (-1), 1), some (.istore 6, 2), none, some (.iconst 1, 1), some (.istore 7, 2), none, some (.iload 7, 2), none, some (.sipush 256, 3), none, none, some (.if_icmp .ge 125, 3), none, none],
  [some (.iload 7, 2), none, some (.iload 5, 2), none, some (.iconst (-1), 1), some (.ixor, 1), some (.iand, 1), some (.ifCond .ne 109, 3), none, none, some (.aload_n 0, 1), some (.iload 7, 2), none, some (.iconst (-1), 1), some (.iload 4, 2), none],
  [some (.invokevirtual 40012, 3), none, none, some (.iload_n 3, 1), some (.if_icmp .lt 96, 3), none, none, some (.aload_n 0, 1), some (.iload 7, 2), none, some (.iconst 0, 1), some (.iload 4, 2), none, some (.invokevirtual 40012, 3), none, none],
  [some (.iload_n 3, 1), some (.iconst 3, 1), some (.idiv, 1), some (.if_icmp .lt 81, 3), none, none, some (.aload_n 0, 1), some (.iload 7, 2), none, some (.iconst 1, 1), some (.iload 4, 2), none, some (.invokevirtual 40012, 3), none, none, some (.iload_n 3, 1)],
  [some (.iconst 3, 1), some (.idiv, 1), some (.if_icmp .ge 6, 3), none, none, some (.goto 63, 3), none, none, some (.iload 6, 2), none, some (.ifCond .lt 54, 3), none, none, some (.aload_n 0, 1), some (.iload 7, 2), none],
  [some (.invokevirtual 35372, 3), none, none, some (.aload_n 0, 1), some (.iload 6, 2), none, some (.invokevirtual 35372, 3), none, none, some (.if_icmp .lt 39, 3), none, none, some (.aload_n 0, 1), some (.iload 7, 2), none, some (.invokevirtual 35372, 3)],
  [none, none, some (.aload_n 0, 1), some (.iload 6, 2), none, some (.invokevirtual 35372, 3), none, none, some (.if_icmp .ne 28, 3), none, none, some (.aload_n 0, 1), some (.iload 7, 2), none, some (.iconst (-1), 1), some (.iload 4, 2)],
  [none, some (.invokevirtual 40012, 3), none, none, some (.aload_n 0, 1), some (.iload 6, 2), none, some (.iconst (-1), 1), some (.iload 4, 2), none, some (.invokevirtual 40012, 3), none, none, some (.if_icmp .le 7, 3), none, none],
  [some (.iload 7, 2), none, some (.istore 6, 2), none, some (.iinc 7 1, 3), none, none, some (.goto (-127), 3), none, none, some (.iload 6, 2), none, some (.ireturn, 1)]])
def mc_X12_count : am_M := (99, false, [
  [some (.iload_n 1, 1), some (.tableswitch 109 0 10 #[59, 64, 69, 74, 79, 84, 89, 94, 99, 99, 99], 59), none, none, none, none, none, none, none, none, none, none, none, none, none, none],
  [none, none, none, none, none, none, none, none, none, none, none, none, none, none, none, none],
  [none, none, none, none, none, none, none, none, none, none, none, none, none, none, none, none],
  [none, none, none, none, none, none, none, none, none, none, none, none, some (.aload_n 0, 1), some (.getfield 770, 3), none, none],
  [some (.ireturn, 1), some (.aload_n 0, 1), some (.getfield 778, 3), none, none, some (.ireturn, 1), some (.aload_n 0, 1), some (.getfield 771, 3), none, none, some (.ireturn, 1), some (.aload_n 0, 1), some (.getfield 804, 3), none, none, some (.ireturn, 1)],
  [some (.aload_n 0, 1), some (.getfield 809, 3), none, none, some (.ireturn, 1), some (.aload_n 0, 1), some (.getfield 814, 3), none, none, some (.ireturn, 1), some (.aload_n 0, 1), some (.getfield 788, 3), none, none, some (.ireturn, 1), some (.aload_n 0, 1)],
  [some (.getfield 787, 3), none, none, some (.ireturn, 1), some (.aload_n 0, 1), some (.getfield 789, 3), none, none, some (.iload_n 1, 1), some (.bipush 8, 2), none, some (.isub, 1), some (.iaload, 1), some (.ireturn, 1), some (.bipush (-2), 2), none],
  [some (.ireturn, 1)]])
def mc_X12_crossed : am_M := (99, false, [
  [some (.aload_n 0, 1), some (.iload_n 1, 1), some (.invokevirtual 27692, 3), none, none, some (.ifCond .eq 16, 3), none, none, some (.aload_n 0, 1), some (.iload_n 2, 1), some (.invokevirtual 27692, 3), none, none, some (.ifCond .eq 8, 3), none, none],
  [some (.iload_n 1, 1), some (.iload_n 2, 1), some (.if_icmp .ne 6, 3), none, none, some (.bipush (-2), 2), none, some (.ireturn, 1), some (.aload_n 0, 1), some (.invokevirtual 25116, 3), none, none, some (.aload_n 0, 1), some (.iload_n 1, 1), some (.iload_n 2, 1), some (.invokevirtual 32572, 3)],
  [none, none, some (.ifCond .ne 12, 3), none, none, some (.aload_n 0, 1), some (.iload_n 2, 1), some (.iload_n 1, 1), some (.invokevirtual 32572, 3), none, none, some (.ifCond .eq 7, 3), none, none, some (.iconst 0, 1), some (.goto 4, 3)],
  [none, none, some (.iconst 1, 1), some (.ireturn, 1)]])
def mc_X12_elector : am_M := (99, false, [
  [some (.aload_n 0, 1), some (.iload_n 1, 1), some (.iconst 0, 1), some (.sipush 999, 3), none, none, some (.invokevirtual 26956, 3), none, none, some (.ifCond .eq 13, 3), none, none, some (.aload_n 0, 1), some (.iload_n 2, 1), some (.iconst 0, 1), some (.iconst 1, 1)],
  [some (.invokevirtual 26956, 3), none, none, some (.ifCond .ne 6, 3), none, none, some (.bipush (-2), 2), none, some (.ireturn, 1), some (.aload_n 0, 1), some (.getfield 809, 3), none, none, some (.bipush 10, 2), none, some (.if_icmp .ne 6, 3)],
  [none, none, some (.bipush (-4), 2), none, some (.ireturn, 1), some (.aload_n 0, 1), some (.getfield 810, 3), none, none, some (.aload_n 0, 1), some (.getfield 809, 3), none, none, some (.iload_n 1, 1), some (.iastore, 1), some (.aload_n 0, 1)],
  [some (.getfield 811, 3), none, none, some (.aload_n 0, 1), some (.getfield 809, 3), none, none, some (.iload_n 2, 1), some (.iastore, 1), some (.aload_n 0, 1), some (.getfield 812, 3), none, none, some (.aload_n 0, 1), some (.getfield 809, 3), none],
  [none, some (.iconst 0, 1), some (.iastore, 1), some (.aload_n 0, 1), some (.dup, 1), some (.getfield 809, 3), none, none, some (.iconst 1, 1), some (.iadd, 1), some (.putfield 809, 3), none, none, some (.aload_n 0, 1), some (.getfield 809, 3), none],
  [none, some (.iconst 1, 1), some (.isub, 1), some (.ireturn, 1)]])
def mc_X12_far : am_M := (99, false, [
  [some (.aload_n 0, 1), some (.iload_n 1, 1), some (.invokevirtual 29228, 3), none, none, some (.ifCond .eq 11, 3), none, none, some (.aload_n 0, 1), some (.iload_n 2, 1), some (.invokevirtual 29228, 3), none, none, some (.ifCond .ne 6, 3), none, none],
  [some (.bipush (-2), 2), none, some (.ireturn, 1), some (.aload_n 0, 1), some (.invokevirtual 25116, 3), none, none, some (.aload_n 0, 1), some (.getfield 769, 3), none, none, some (.bipush 8, 2), none, some (.iload_n 1, 1), some (.imul, 1), some (.iload_n 2, 1)],
  [some (.iadd, 1), some (.iaload, 1), some (.ireturn, 1)]])
def mc_X12_feed : am_M := (99, false, [
  [some (.aload_n 0, 1), some (.iload_n 1, 1), some (.iconst 1, 1), some (.bipush 8, 2), none, some (.invokevirtual 26956, 3), none, none, some (.ifCond .ne 6, 3), none, none, some (.bipush (-2), 2), none, some (.ireturn, 1), some (.aload_n 0, 1), some (.getfield 787, 3)],
  [none, none, some (.iload_n 1, 1), some (.iadd, 1), some (.sipush 160, 3), none, none, some (.if_icmp .le 6, 3), none, none, some (.bipush (-4), 2), none, some (.ireturn, 1), some (.iconst 0, 1), some (.istore 4, 2), none],
  [some (.iload 4, 2), none, some (.iload_n 1, 1), some (.if_icmp .ge 37, 3), none, none, some (.aload_n 0, 1), some (.getfield 786, 3), none, none, some (.aload_n 0, 1), some (.getfield 787, 3), none, none, some (.lload_n 2, 1), some (.bipush 8, 2)],
  [none, some (.iload 4, 2), none, some (.imul, 1), some (.lshr, 1), some (.l2i, 1), some (.i2b, 1), some (.bastore, 1), some (.aload_n 0, 1), some (.dup, 1), some (.getfield 787, 3), none, none, some (.iconst 1, 1), some (.iadd, 1), some (.putfield 787, 3)],
  [none, none, some (.iinc 4 1, 3), none, none, some (.goto (-37), 3), none, none, some (.aload_n 0, 1), some (.getfield 787, 3), none, none, some (.ireturn, 1)]])
def mc_X12_felled : am_M := (99, false, [
  [some (.aload_n 0, 1), some (.iload_n 1, 1), some (.invokevirtual 30764, 3), none, none, some (.ifCond .eq 11, 3), none, none, some (.aload_n 0, 1), some (.iload_n 2, 1), some (.invokevirtual 27692, 3), none, none, some (.ifCond .ne 6, 3), none, none],
  [some (.bipush (-2), 2), none, some (.ireturn, 1), some (.aload_n 0, 1), some (.iload_n 1, 1), some (.invokevirtual 42028, 3), none, none, some (.istore_n 3, 1), some (.aload_n 0, 1), some (.iload_n 1, 1), some (.invokevirtual 38956, 3), none, none, some (.istore 4, 2), none],
  [some (.aload_n 0, 1), some (.iload_n 3, 1), some (.iload 4, 2), none, some (.invokevirtual 26172, 3), none, none, some (.aload_n 0, 1), some (.iload_n 3, 1), some (.iconst 1, 1), some (.iload_n 2, 1), some (.ishl, 1), some (.iconst (-1), 1), some (.ixor, 1), some (.iand, 1), some (.iload 4, 2)],
  [none, some (.invokevirtual 26172, 3), none, none, some (.iconst (-1), 1), some (.ixor, 1), some (.iand, 1), some (.ireturn, 1)]])
def mc_X12_findFar : am_M := (99, false, [
  [some (.iconst 0, 1), some (.istore_n 1, 1), some (.iload_n 1, 1), some (.bipush 64, 2), none, some (.if_icmp .ge 21, 3), none, none, some (.aload_n 0, 1), some (.getfield 769, 3), none, none, some (.iload_n 1, 1), some (.aload_n 0, 1), some (.getfield 768, 3), none],
  [none, some (.iload_n 1, 1), some (.iaload, 1), some (.iastore, 1), some (.iinc 1 1, 3), none, none, some (.goto (-21), 3), none, none, some (.iconst 0, 1), some (.istore_n 1, 1), some (.iload_n 1, 1), some (.bipush 8, 2), none, some (.if_icmp .ge 91, 3)],
  [none, none, some (.iconst 0, 1), some (.istore_n 2, 1), some (.iload_n 2, 1), some (.bipush 8, 2), none, some (.if_icmp .ge 77, 3), none, none, some (.iconst 0, 1), some (.istore_n 3, 1), some (.iload_n 3, 1), some (.bipush 8, 2), none, some (.if_icmp .ge 63, 3)],
  [none, none, some (.aload_n 0, 1), some (.getfield 769, 3), none, none, some (.bipush 8, 2), none, some (.iload_n 2, 1), some (.imul, 1), some (.iload_n 1, 1), some (.iadd, 1), some (.iaload, 1), some (.aload_n 0, 1), some (.getfield 769, 3), none],
  [none, some (.bipush 8, 2), none, some (.iload_n 1, 1), some (.imul, 1), some (.iload_n 3, 1), some (.iadd, 1), some (.iaload, 1), some (.iadd, 1), some (.istore 4, 2), none, some (.iload 4, 2), none, some (.aload_n 0, 1), some (.getfield 769, 3), none],
  [none, some (.bipush 8, 2), none, some (.iload_n 2, 1), some (.imul, 1), some (.iload_n 3, 1), some (.iadd, 1), some (.iaload, 1), some (.if_icmp .ge 16, 3), none, none, some (.aload_n 0, 1), some (.getfield 769, 3), none, none, some (.bipush 8, 2)],
  [none, some (.iload_n 2, 1), some (.imul, 1), some (.iload_n 3, 1), some (.iadd, 1), some (.iload 4, 2), none, some (.iastore, 1), some (.iinc 3 1, 3), none, none, some (.goto (-63), 3), none, none, some (.iinc 2 1, 3), none],
  [none, some (.goto (-77), 3), none, none, some (.iinc 1 1, 3), none, none, some (.goto (-91), 3), none, none, some (.return_, 1)]])
def mc_X12_firmOf : am_M := (99, false, [
  [some (.iconst 0, 1), some (.istore_n 3, 1), some (.iconst 1, 1), some (.istore 4, 2), none, some (.iload 4, 2), none, some (.ifCond .eq 82, 3), none, none, some (.iconst 0, 1), some (.istore 4, 2), none, some (.iconst 0, 1), some (.istore 5, 2), none],
  [some (.iload 5, 2), none, some (.aload_n 0, 1), some (.getfield 778, 3), none, none, some (.if_icmp .ge 64, 3), none, none, some (.iload_n 3, 1), some (.iload 5, 2), none, some (.ishr, 1), some (.iconst 1, 1), some (.iand, 1), some (.iconst 1, 1)],
  [some (.if_icmp .eq 48, 3), none, none, some (.iload_n 1, 1), some (.iload 5, 2), none, some (.ishr, 1), some (.iconst 1, 1), some (.iand, 1), some (.ifCond .eq 39, 3), none, none, some (.iload_n 2, 1), some (.iload 5, 2), none, some (.ishr, 1)],
  [some (.iconst 1, 1), some (.iand, 1), some (.ifCond .ne 20, 3), none, none, some (.aload_n 0, 1), some (.getfield 784, 3), none, none, some (.iload 5, 2), none, some (.iaload, 1), some (.iload_n 3, 1), some (.iconst (-1), 1), some (.ixor, 1), some (.iand, 1)],
  [some (.ifCond .eq 6, 3), none, none, some (.goto 13, 3), none, none, some (.iload_n 3, 1), some (.iconst 1, 1), some (.iload 5, 2), none, some (.ishl, 1), some (.ior, 1), some (.istore_n 3, 1), some (.iconst 1, 1), some (.istore 4, 2), none],
  [some (.iinc 5 1, 3), none, none, some (.goto (-67), 3), none, none, some (.goto (-81), 3), none, none, some (.iload_n 3, 1), some (.ireturn, 1)]])
def mc_X12_goTogether : am_M := (99, true, [
  [some (.iconst 1, 1), some (.istore_n 2, 1), some (.iconst 0, 1), some (.istore_n 3, 1), some (.iload_n 3, 1), some (.aload_n 0, 1), some (.getfield 814, 3), none, none, some (.if_icmp .ge 38, 3), none, none, some (.iload_n 2, 1), some (.ifCond .eq 26, 3), none, none],
  [some (.iload_n 1, 1), some (.iload_n 3, 1), some (.ishr, 1), some (.iconst 1, 1), some (.iand, 1), some (.ifCond .eq 14, 3), none, none, some (.aload_n 0, 1), some (.getfield 817, 3), none, none, some (.iload_n 3, 1), some (.iaload, 1), some (.iload_n 1, 1), some (.iand, 1)],
  [some (.ifCond .ne 7, 3), none, none, some (.iconst 1, 1), some (.goto 4, 3), none, none, some (.iconst 0, 1), some (.istore_n 2, 1), some (.iinc 3 1, 3), none, none, some (.goto (-40), 3), none, none, some (.iload_n 2, 1)],
  [some (.ireturn, 1)]])
def mc_X12_goodBy : am_M := (99, false, [
  [some (.aload_n 0, 1), some (.aload_n 0, 1), some (.iload_n 1, 1), some (.invokevirtual 42028, 3), none, none, some (.aload_n 0, 1), some (.iload_n 1, 1), some (.invokevirtual 38956, 3), none, none, some (.invokevirtual 26172, 3), none, none, some (.ireturn, 1)]])
def mc_X12_goodOf : am_M := (99, false, [
  [some (.iload_n 1, 1), some (.istore_n 3, 1), some (.iconst 1, 1), some (.istore 4, 2), none, some (.iload 4, 2), none, some (.ifCond .eq 75, 3), none, none, some (.iconst 0, 1), some (.istore 4, 2), none, some (.iconst 0, 1), some (.istore 5, 2), none],
  [some (.iload 5, 2), none, some (.aload_n 0, 1), some (.getfield 778, 3), none, none, some (.if_icmp .ge 57, 3), none, none, some (.iload_n 3, 1), some (.iload 5, 2), none, some (.ishr, 1), some (.iconst 1, 1), some (.iand, 1), some (.ifCond .eq 42, 3)],
  [none, none, some (.iload_n 2, 1), some (.iload 5, 2), none, some (.ishr, 1), some (.iconst 1, 1), some (.iand, 1), some (.iconst 1, 1), some (.if_icmp .eq 32, 3), none, none, some (.aload_n 0, 1), some (.getfield 784, 3), none, none],
  [some (.iload 5, 2), none, some (.iaload, 1), some (.iload_n 3, 1), some (.iconst (-1), 1), some (.ixor, 1), some (.iand, 1), some (.ifCond .ne 6, 3), none, none, some (.goto 15, 3), none, none, some (.iload_n 3, 1), some (.iconst 1, 1), some (.iload 5, 2)],
  [none, some (.ishl, 1), some (.iconst (-1), 1), some (.ixor, 1), some (.iand, 1), some (.istore_n 3, 1), some (.iconst 1, 1), some (.istore 4, 2), none, some (.iinc 5 1, 3), none, none, some (.goto (-60), 3), none, none, some (.goto (-74), 3)],
  [none, none, some (.iload_n 3, 1), some (.ireturn, 1)]])
def mc_X12_hang : am_M := (99, false, [
  [some (.aload_n 0, 1), some (.iload_n 1, 1), some (.invokevirtual 27692, 3), none, none, some (.ifCond .eq 16, 3), none, none, some (.aload_n 0, 1), some (.iload_n 2, 1), some (.invokevirtual 27692, 3), none, none, some (.ifCond .eq 8, 3), none, none],
  [some (.iload_n 1, 1), some (.iload_n 2, 1), some (.if_icmp .ne 6, 3), none, none, some (.bipush (-2), 2), none, some (.ireturn, 1), some (.aload_n 0, 1), some (.getfield 784, 3), none, none, some (.iload_n 1, 1), some (.iaload, 1), some (.iload_n 2, 1), some (.ishr, 1)],
  [some (.iconst 1, 1), some (.iand, 1), some (.iconst 1, 1), some (.if_icmp .ne 6, 3), none, none, some (.bipush (-3), 2), none, some (.ireturn, 1), some (.aload_n 0, 1), some (.getfield 784, 3), none, none, some (.iload_n 1, 1), some (.dup2, 1), some (.iaload, 1)],
  [some (.iconst 1, 1), some (.iload_n 2, 1), some (.ishl, 1), some (.ior, 1), some (.iastore, 1), some (.aload_n 0, 1), some (.aload_n 0, 1), some (.getfield 784, 3), none, none, some (.iload_n 1, 1), some (.iaload, 1), some (.invokevirtual 35372, 3), none, none, some (.ireturn, 1)]])
def mc_X12_hold : am_M := (99, false, [
  [some (.aload_n 0, 1), some (.getfield 796, 3), none, none, some (.aload_n 0, 1), some (.getfield 798, 3), none, none, some (.iload_n 1, 1), some (.iastore, 1), some (.aload_n 0, 1), some (.dup, 1), some (.getfield 798, 3), none, none, some (.iconst 1, 1)],
  [some (.iadd, 1), some (.putfield 798, 3), none, none, some (.iload_n 1, 1), some (.bipush (-3), 2), none, some (.if_icmp .eq 15, 3), none, none, some (.iload_n 1, 1), some (.bipush (-9), 2), none, some (.if_icmp .eq 9, 3), none, none],
  [some (.iload_n 1, 1), some (.bipush (-10), 2), none, some (.if_icmp .ne 13, 3), none, none, some (.aload_n 0, 1), some (.dup, 1), some (.getfield 800, 3), none, none, some (.iconst 1, 1), some (.iadd, 1), some (.putfield 800, 3), none, none],
  [some (.return_, 1)]])
def mc_X12_in : am_M := (99, true, [
  [some (.iload_n 1, 1), some (.iload_n 2, 1), some (.if_icmp .lt 12, 3), none, none, some (.iload_n 1, 1), some (.iload_n 3, 1), some (.if_icmp .gt 7, 3), none, none, some (.iconst 1, 1), some (.goto 4, 3), none, none, some (.iconst 0, 1), some (.ireturn, 1)]])
def mc_X12_inForce : am_M := (99, false, [
  [some (.aload_n 0, 1), some (.iload_n 1, 1), some (.invokevirtual 30764, 3), none, none, some (.ifCond .eq 11, 3), none, none, some (.aload_n 0, 1), some (.iload_n 2, 1), some (.invokevirtual 28460, 3), none, none, some (.ifCond .ne 6, 3), none, none],
  [some (.bipush (-2), 2), none, some (.ireturn, 1), some (.aload_n 0, 1), some (.iload_n 1, 1), some (.invokevirtual 25900, 3), none, none, some (.istore_n 3, 1), some (.iconst 0, 1), some (.istore 4, 2), none, some (.iconst 0, 1), some (.istore 5, 2), none, some (.iload 5, 2)],
  [none, some (.aload_n 0, 1), some (.getfield 778, 3), none, none, some (.if_icmp .ge 70, 3), none, none, some (.iload_n 3, 1), some (.iload 5, 2), none, some (.ishr, 1), some (.iconst 1, 1), some (.iand, 1), some (.iconst 1, 1), some (.if_icmp .ne 54, 3)],
  [none, none, some (.aload_n 0, 1), some (.iload 5, 2), none, some (.iload_n 2, 1), some (.invokevirtual 30012, 3), none, none, some (.ifCond .eq 44, 3), none, none, some (.aload_n 0, 1), some (.getfield 779, 3), none, none],
  [some (.iload 5, 2), none, some (.iaload, 1), some (.iconst 1, 1), some (.if_icmp .ne 24, 3), none, none, some (.aload_n 0, 1), some (.aload_n 0, 1), some (.getfield 781, 3), none, none, some (.iload 5, 2), none, some (.iaload, 1), some (.bipush 12, 2)],
  [none, some (.idiv, 1), some (.iload_n 2, 1), some (.iload_n 3, 1), some (.invokevirtual 33868, 3), none, none, some (.iload 5, 2), none, some (.if_icmp .ne 12, 3), none, none, some (.iload 4, 2), none, some (.iconst 1, 1), some (.iload 5, 2)],
  [none, some (.ishl, 1), some (.ior, 1), some (.istore 4, 2), none, some (.iinc 5 1, 3), none, none, some (.goto (-73), 3), none, none, some (.iload 4, 2), none, some (.ireturn, 1)]])
def mc_X12_init : am_M := (12, false, [
  [some (.aload_n 0, 1), some (.invokespecial 31, 3), none, none, some (.aload_n 0, 1), some (.bipush 64, 2), none, some (.newarray .int, 2), none, some (.putfield 768, 3), none, none, some (.aload_n 0, 1), some (.bipush 64, 2), none, some (.newarray .int, 2)],
  [none, some (.putfield 769, 3), none, none, some (.aload_n 0, 1), some (.iconst 0, 1), some (.putfield 770, 3), none, none, some (.aload_n 0, 1), some (.iconst 0, 1), some (.putfield 771, 3), none, none, some (.aload_n 0, 1), some (.bipush 12, 2)],
  [none, some (.newarray .int, 2), none, some (.putfield 772, 3), none, none, some (.aload_n 0, 1), some (.bipush 6, 2), none, some (.newarray .int, 2), none, some (.putfield 773, 3), none, none, some (.aload_n 0, 1), some (.bipush 6, 2)],
  [none, some (.newarray .int, 2), none, some (.putfield 774, 3), none, none, some (.aload_n 0, 1), some (.bipush 31, 2), none, some (.newarray .int, 2), none, some (.putfield 775, 3), none, none, some (.aload_n 0, 1), some (.bipush 31, 2)],
  [none, some (.newarray .int, 2), none, some (.putfield 776, 3), none, none, some (.aload_n 0, 1), some (.bipush 31, 2), none, some (.newarray .int, 2), none, some (.putfield 777, 3), none, none, some (.aload_n 0, 1), some (.iconst 0, 1)],
  [some (.putfield 778, 3), none, none, some (.aload_n 0, 1), some (.bipush 24, 2), none, some (.newarray .int, 2), none, some (.putfield 779, 3), none, none, some (.aload_n 0, 1), some (.bipush 24, 2), none, some (.newarray .int, 2), none],
  [some (.putfield 780, 3), none, none, some (.aload_n 0, 1), some (.bipush 24, 2), none, some (.newarray .int, 2), none, some (.putfield 781, 3), none, none, some (.aload_n 0, 1), some (.bipush 24, 2), none, some (.newarray .int, 2), none],
  [some (.putfield 782, 3), none, none, some (.aload_n 0, 1), some (.bipush 24, 2), none, some (.newarray .int, 2), none, some (.putfield 783, 3), none, none, some (.aload_n 0, 1), some (.bipush 24, 2), none, some (.newarray .int, 2), none],
  [some (.putfield 784, 3), none, none, some (.aload_n 0, 1), some (.bipush 24, 2), none, some (.newarray .int, 2), none, some (.putfield 785, 3), none, none, some (.aload_n 0, 1), some (.sipush 160, 3), none, none, some (.newarray .byte, 2)],
  [none, some (.putfield 786, 3), none, none, some (.aload_n 0, 1), some (.iconst 0, 1), some (.putfield 787, 3), none, none, some (.aload_n 0, 1), some (.iconst 1, 1), some (.putfield 788, 3), none, none, some (.aload_n 0, 1), some (.iconst 3, 1)],
  [some (.newarray .int, 2), none, some (.putfield 789, 3), none, none, some (.aload_n 0, 1), some (.bipush 12, 2), none, some (.newarray .int, 2), none, some (.putfield 790, 3), none, none, some (.aload_n 0, 1), some (.sipush 1920, 3), none],
  [none, some (.newarray .int, 2), none, some (.putfield 791, 3), none, none, some (.aload_n 0, 1), some (.iconst 0, 1), some (.putfield 792, 3), none, none, some (.aload_n 0, 1), some (.iconst 0, 1), some (.putfield 793, 3), none, none],
  [some (.aload_n 0, 1), some (.iconst 0, 1), some (.putfield 794, 3), none, none, some (.aload_n 0, 1), some (.iconst 0, 1), some (.putfield 795, 3), none, none, some (.aload_n 0, 1), some (.sipush 161, 3), none, none, some (.newarray .int, 2), none],
  [some (.putfield 796, 3), none, none, some (.aload_n 0, 1), some (.bipush 7, 2), none, some (.newarray .boolean, 2), none, some (.putfield 797, 3), none, none, some (.aload_n 0, 1), some (.iconst 0, 1), some (.putfield 798, 3), none, none],
  [some (.aload_n 0, 1), some (.iconst 0, 1), some (.putfield 799, 3), none, none, some (.aload_n 0, 1), some (.iconst 0, 1), some (.putfield 800, 3), none, none, some (.aload_n 0, 1), some (.iconst 0, 1), some (.putfield 801, 3), none, none, some (.aload_n 0, 1)],
  [some (.bipush 6, 2), none, some (.newarray .int, 2), none, some (.putfield 802, 3), none, none, some (.aload_n 0, 1), some (.sipush 161, 3), none, none, some (.newarray .int, 2), none, some (.putfield 803, 3), none, none],
  [some (.aload_n 0, 1), some (.iconst 0, 1), some (.putfield 804, 3), none, none, some (.aload_n 0, 1), some (.bipush 30, 2), none, some (.newarray .int, 2), none, some (.putfield 805, 3), none, none, some (.aload_n 0, 1), some (.bipush 30, 2), none],
  [some (.newarray .int, 2), none, some (.putfield 806, 3), none, none, some (.aload_n 0, 1), some (.bipush 30, 2), none, some (.newarray .int, 2), none, some (.putfield 807, 3), none, none, some (.aload_n 0, 1), some (.bipush 30, 2), none],
  [some (.newarray .int, 2), none, some (.putfield 808, 3), none, none, some (.aload_n 0, 1), some (.iconst 0, 1), some (.putfield 809, 3), none, none, some (.aload_n 0, 1), some (.bipush 10, 2), none, some (.newarray .int, 2), none, some (.putfield 810, 3)],
  [none, none, some (.aload_n 0, 1), some (.bipush 10, 2), none, some (.newarray .int, 2), none, some (.putfield 811, 3), none, none, some (.aload_n 0, 1), some (.bipush 10, 2), none, some (.newarray .int, 2), none, some (.putfield 812, 3)],
  [none, none, some (.aload_n 0, 1), some (.bipush 8, 2), none, some (.newarray .int, 2), none, some (.putfield 813, 3), none, none, some (.aload_n 0, 1), some (.iconst 0, 1), some (.putfield 814, 3), none, none, some (.aload_n 0, 1)],
  [some (.bipush 8, 2), none, some (.newarray .int, 2), none, some (.putfield 815, 3), none, none, some (.aload_n 0, 1), some (.bipush 64, 2), none, some (.newarray .int, 2), none, some (.putfield 816, 3), none, none, some (.aload_n 0, 1)],
  [some (.bipush 8, 2), none, some (.newarray .int, 2), none, some (.putfield 817, 3), none, none, some (.aload_n 0, 1), some (.bipush 8, 2), none, some (.newarray .int, 2), none, some (.putfield 818, 3), none, none, some (.aload_n 0, 1)],
  [some (.bipush 7, 2), none, some (.newarray .int, 2), none, some (.putfield 819, 3), none, none, some (.aload_n 0, 1), some (.bipush 7, 2), none, some (.newarray .int, 2), none, some (.putfield 820, 3), none, none, some (.aload_n 0, 1)],
  [some (.bipush 7, 2), none, some (.newarray .int, 2), none, some (.putfield 821, 3), none, none, some (.aload_n 0, 1), some (.iconst 0, 1), some (.putfield 822, 3), none, none, some (.aload_n 0, 1), some (.iconst 4, 1), some (.newarray .int, 2), none],
  [some (.dup, 1), some (.iconst 0, 1), some (.iconst (-1), 1), some (.iastore, 1), some (.dup, 1), some (.iconst 1, 1), some (.iconst (-1), 1), some (.iastore, 1), some (.dup, 1), some (.iconst 2, 1), some (.iconst (-1), 1), some (.iastore, 1), some (.dup, 1), some (.iconst 3, 1), some (.iconst (-1), 1), some (.iastore, 1)],
  [some (.putfield 823, 3), none, none, some (.aload_n 0, 1), some (.iconst 4, 1), some (.newarray .int, 2), none, some (.putfield 824, 3), none, none, some (.aload_n 0, 1), some (.sipush 160, 3), none, none, some (.newarray .int, 2), none],
  [some (.putfield 825, 3), none, none, some (.aload_n 0, 1), some (.bipush 40, 2), none, some (.newarray .int, 2), none, some (.putfield 826, 3), none, none, some (.iconst 0, 1), some (.istore_n 1, 1), some (.iload_n 1, 1), some (.bipush 64, 2), none],
  [some (.if_icmp .ge 33, 3), none, none, some (.aload_n 0, 1), some (.getfield 768, 3), none, none, some (.iload_n 1, 1), some (.iload_n 1, 1), some (.bipush 8, 2), none, some (.idiv, 1), some (.iload_n 1, 1), some (.bipush 8, 2), none, some (.irem, 1)],
  [some (.if_icmp .ne 7, 3), none, none, some (.iconst 0, 1), some (.goto 6, 3), none, none, some (.sipush 999, 3), none, none, some (.iastore, 1), some (.iinc 1 1, 3), none, none, some (.goto (-33), 3), none],
  [none, some (.iconst 0, 1), some (.istore_n 1, 1), some (.iload_n 1, 1), some (.bipush 6, 2), none, some (.if_icmp .ge 16, 3), none, none, some (.aload_n 0, 1), some (.getfield 774, 3), none, none, some (.iload_n 1, 1), some (.iconst (-1), 1), some (.iastore, 1)],
  [some (.iinc 1 1, 3), none, none, some (.goto (-16), 3), none, none, some (.aload_n 0, 1), some (.invokevirtual 38684, 3), none, none, some (.return_, 1)]])
def mc_X12_isAct : am_M := (99, true, [
  [some (.aload_n 0, 1), some (.iload_n 1, 1), some (.iconst 0, 1), some (.aload_n 0, 1), some (.getfield 778, 3), none, none, some (.iconst 1, 1), some (.isub, 1), some (.invokevirtual 26956, 3), none, none, some (.ireturn, 1)]])
def mc_X12_isBetter : am_M := (99, true, [
  [some (.aload_n 0, 1), some (.iload_n 1, 1), some (.invokevirtual 35372, 3), none, none, some (.aload_n 0, 1), some (.iload_n 2, 1), some (.invokevirtual 35372, 3), none, none, some (.if_icmp .eq 22, 3), none, none, some (.aload_n 0, 1), some (.iload_n 1, 1), some (.invokevirtual 35372, 3)],
  [none, none, some (.aload_n 0, 1), some (.iload_n 2, 1), some (.invokevirtual 35372, 3), none, none, some (.if_icmp .le 7, 3), none, none, some (.iconst 1, 1), some (.goto 4, 3), none, none, some (.iconst 0, 1), some (.ireturn, 1)],
  [some (.aload_n 0, 1), some (.iload_n 1, 1), some (.iload_n 3, 1), some (.invokevirtual 43324, 3), none, none, some (.aload_n 0, 1), some (.iload_n 2, 1), some (.iload_n 3, 1), some (.invokevirtual 43324, 3), none, none, some (.if_icmp .eq 24, 3), none, none, some (.aload_n 0, 1)],
  [some (.iload_n 1, 1), some (.iload_n 3, 1), some (.invokevirtual 43324, 3), none, none, some (.aload_n 0, 1), some (.iload_n 2, 1), some (.iload_n 3, 1), some (.invokevirtual 43324, 3), none, none, some (.if_icmp .ge 7, 3), none, none, some (.iconst 1, 1), some (.goto 4, 3)],
  [none, none, some (.iconst 0, 1), some (.ireturn, 1), some (.aload_n 0, 1), some (.aload_n 0, 1), some (.iload_n 1, 1), some (.invokevirtual 42540, 3), none, none, some (.invokevirtual 35372, 3), none, none, some (.aload_n 0, 1), some (.aload_n 0, 1), some (.iload_n 2, 1)],
  [some (.invokevirtual 42540, 3), none, none, some (.invokevirtual 35372, 3), none, none, some (.if_icmp .le 7, 3), none, none, some (.iconst 1, 1), some (.goto 4, 3), none, none, some (.iconst 0, 1), some (.ireturn, 1)]])
def mc_X12_isClause : am_M := (99, true, [
  [some (.aload_n 0, 1), some (.iload_n 1, 1), some (.iconst 0, 1), some (.aload_n 0, 1), some (.getfield 814, 3), none, none, some (.iconst 1, 1), some (.isub, 1), some (.invokevirtual 26956, 3), none, none, some (.ireturn, 1)]])
def mc_X12_isDay : am_M := (99, true, [
  [some (.aload_n 0, 1), some (.iload_n 1, 1), some (.iconst 0, 1), some (.sipush 9999, 3), none, none, some (.invokevirtual 26956, 3), none, none, some (.ireturn, 1)]])
def mc_X12_isDigit : am_M := (99, true, [
  [some (.iload_n 1, 1), some (.bipush 48, 2), none, some (.if_icmp .lt 13, 3), none, none, some (.iload_n 1, 1), some (.bipush 57, 2), none, some (.if_icmp .gt 7, 3), none, none, some (.iconst 1, 1), some (.goto 4, 3), none, none],
  [some (.iconst 0, 1), some (.ireturn, 1)]])
def mc_X12_isKey : am_M := (99, true, [
  [some (.aload_n 0, 1), some (.getfield 793, 3), none, none, some (.iconst 3, 1), some (.if_icmp .ne 15, 3), none, none, some (.aload_n 0, 1), some (.getfield 794, 3), none, none, some (.iload_n 1, 1), some (.if_icmp .ne 7, 3), none, none],
  [some (.iconst 1, 1), some (.goto 4, 3), none, none, some (.iconst 0, 1), some (.ireturn, 1)]])
def mc_X12_isLand : am_M := (99, true, [
  [some (.aload_n 0, 1), some (.iload_n 1, 1), some (.iconst 0, 1), some (.bipush 7, 2), none, some (.invokevirtual 26956, 3), none, none, some (.ireturn, 1)]])
def mc_X12_isLetter : am_M := (99, true, [
  [some (.iload_n 1, 1), some (.bipush 97, 2), none, some (.if_icmp .lt 13, 3), none, none, some (.iload_n 1, 1), some (.bipush 122, 2), none, some (.if_icmp .gt 7, 3), none, none, some (.iconst 1, 1), some (.goto 4, 3), none, none],
  [some (.iconst 0, 1), some (.ireturn, 1)]])
def mc_X12_isOffice : am_M := (99, true, [
  [some (.aload_n 0, 1), some (.iload_n 1, 1), some (.iconst 0, 1), some (.iconst 5, 1), some (.invokevirtual 26956, 3), none, none, some (.ireturn, 1)]])
def mc_X12_isOn : am_M := (99, true, [
  [some (.iload_n 2, 1), some (.aload_n 0, 1), some (.getfield 782, 3), none, none, some (.iload_n 1, 1), some (.iaload, 1), some (.if_icmp .lt 23, 3), none, none, some (.iload_n 2, 1), some (.aload_n 0, 1), some (.getfield 782, 3), none, none, some (.iload_n 1, 1)],
  [some (.iaload, 1), some (.isub, 1), some (.aload_n 0, 1), some (.iload_n 1, 1), some (.invokevirtual 33324, 3), none, none, some (.if_icmp .ge 7, 3), none, none, some (.iconst 1, 1), some (.goto 4, 3), none, none, some (.iconst 0, 1), some (.ireturn, 1)]])
def mc_X12_isPerson : am_M := (99, true, [
  [some (.aload_n 0, 1), some (.iload_n 1, 1), some (.iconst 0, 1), some (.aload_n 0, 1), some (.getfield 770, 3), none, none, some (.iconst 1, 1), some (.isub, 1), some (.invokevirtual 26956, 3), none, none, some (.ireturn, 1)]])
def mc_X12_isSheet : am_M := (99, true, [
  [some (.aload_n 0, 1), some (.iload_n 1, 1), some (.iconst 0, 1), some (.iconst 3, 1), some (.invokevirtual 26956, 3), none, none, some (.ireturn, 1)]])
def mc_X12_isSide : am_M := (99, true, [
  [some (.aload_n 0, 1), some (.iload_n 1, 1), some (.iconst 0, 1), some (.iconst 2, 1), some (.invokevirtual 26956, 3), none, none, some (.ireturn, 1)]])
def mc_X12_isSign : am_M := (99, true, [
  [some (.aload_n 0, 1), some (.getfield 793, 3), none, none, some (.iconst 4, 1), some (.if_icmp .ne 15, 3), none, none, some (.aload_n 0, 1), some (.getfield 794, 3), none, none, some (.iload_n 1, 1), some (.if_icmp .ne 7, 3), none, none],
  [some (.iconst 1, 1), some (.goto 4, 3), none, none, some (.iconst 0, 1), some (.ireturn, 1)]])
def mc_X12_isText : am_M := (99, true, [
  [some (.aload_n 0, 1), some (.iconst 0, 1), some (.putfield 792, 3), none, none, some (.aload_n 0, 1), some (.invokevirtual 34076, 3), none, none, some (.iconst 0, 1), some (.istore_n 1, 1), some (.iload_n 1, 1), some (.iconst 2, 1), some (.if_icmp .ge 48, 3), none, none],
  [some (.aload_n 0, 1), some (.iload_n 1, 1), some (.invokevirtual 28972, 3), none, none, some (.ifCond .ne 5, 3), none, none, some (.iconst 0, 1), some (.ireturn, 1), some (.aload_n 0, 1), some (.invokevirtual 34076, 3), none, none, some (.aload_n 0, 1), some (.iconst 2, 1)],
  [some (.aload_n 0, 1), some (.getfield 788, 3), none, none, some (.imul, 1), some (.iload_n 1, 1), some (.iadd, 1), some (.putfield 801, 3), none, none, some (.aload_n 0, 1), some (.invokevirtual 35868, 3), none, none, some (.ifCond .ne 5, 3), none],
  [none, some (.iconst 0, 1), some (.ireturn, 1), some (.aload_n 0, 1), some (.invokevirtual 34076, 3), none, none, some (.iinc 1 1, 3), none, none, some (.goto (-47), 3), none, none, some (.aload_n 0, 1), some (.getfield 793, 3), none],
  [none, some (.ifCond .ne 7, 3), none, none, some (.iconst 1, 1), some (.goto 4, 3), none, none, some (.iconst 0, 1), some (.ireturn, 1)]])
def mc_X12_isTurn : am_M := (99, true, [
  [some (.aload_n 0, 1), some (.iload_n 1, 1), some (.invokevirtual 29228, 3), none, none, some (.ifCond .eq 25, 3), none, none, some (.aload_n 0, 1), some (.iload_n 2, 1), some (.invokevirtual 28460, 3), none, none, some (.ifCond .eq 17, 3), none, none],
  [some (.aload_n 0, 1), some (.iload_n 3, 1), some (.iconst 0, 1), some (.iconst 1, 1), some (.invokevirtual 26956, 3), none, none, some (.ifCond .eq 7, 3), none, none, some (.iconst 1, 1), some (.goto 4, 3), none, none, some (.iconst 0, 1), some (.ireturn, 1)]])
def mc_X12_isUnder : am_M := (99, true, [
  [some (.iload_n 2, 1), some (.ifCond .eq 28, 3), none, none, some (.iload_n 1, 1), some (.iload_n 2, 1), some (.if_icmp .eq 23, 3), none, none, some (.iload_n 2, 1), some (.iconst 2, 1), some (.if_icmp .ne 8, 3), none, none, some (.iload_n 1, 1), some (.iconst 4, 1)],
  [some (.if_icmp .eq 13, 3), none, none, some (.iload_n 2, 1), some (.iconst 3, 1), some (.if_icmp .ne 12, 3), none, none, some (.iload_n 1, 1), some (.iconst 5, 1), some (.if_icmp .ne 7, 3), none, none, some (.iconst 1, 1), some (.goto 4, 3), none],
  [none, some (.iconst 0, 1), some (.ireturn, 1)]])
def mc_X12_isWord : am_M := (99, true, [
  [some (.lload_n 1, 1), some (.lstore_n 3, 1), some (.aload_n 0, 1), some (.getfield 792, 3), none, none, some (.iconst 1, 1), some (.isub, 1), some (.istore 5, 2), none, some (.iload 5, 2), none, some (.aload_n 0, 1), some (.getfield 795, 3), none, none],
  [some (.if_icmp .lt 39, 3), none, none, some (.lload_n 3, 1), some (.lconst 0, 1), some (.lcmp, 1), some (.ifCond .le 33, 3), none, none, some (.lload_n 3, 1), some (.ldc2_w 31, 3), none, none, some (.land, 1), some (.aload_n 0, 1), some (.getfield 786, 3)],
  [none, none, some (.iload 5, 2), none, some (.baload, 1), some (.bipush 96, 2), none, some (.isub, 1), some (.i2l, 1), some (.lcmp, 1), some (.ifCond .ne 13, 3), none, none, some (.lload_n 3, 1), some (.iconst 5, 1), some (.lshr, 1)],
  [some (.lstore_n 3, 1), some (.iinc 5 (-1), 3), none, none, some (.goto (-42), 3), none, none, some (.lload_n 3, 1), some (.lconst 0, 1), some (.lcmp, 1), some (.ifCond .ne 18, 3), none, none, some (.iload 5, 2), none, some (.aload_n 0, 1)],
  [some (.getfield 795, 3), none, none, some (.iconst 1, 1), some (.isub, 1), some (.if_icmp .ne 7, 3), none, none, some (.iconst 1, 1), some (.goto 4, 3), none, none, some (.iconst 0, 1), some (.ireturn, 1)]])
def mc_X12_journey : am_M := (99, false, [
  [some (.aload_n 0, 1), some (.iload_n 1, 1), some (.invokevirtual 29228, 3), none, none, some (.ifCond .eq 15, 3), none, none, some (.aload_n 0, 1), some (.iload_n 2, 1), some (.iconst 0, 1), some (.sipush 255, 3), none, none, some (.invokevirtual 26956, 3), none],
  [none, some (.ifCond .ne 6, 3), none, none, some (.bipush (-2), 2), none, some (.ireturn, 1), some (.aload_n 0, 1), some (.invokevirtual 25116, 3), none, none, some (.aload_n 0, 1), some (.iconst 0, 1), some (.putfield 822, 3), none, none],
  [some (.iconst 0, 1), some (.istore 4, 2), none, some (.iload 4, 2), none, some (.bipush 8, 2), none, some (.if_icmp .ge 61, 3), none, none, some (.iload 4, 2), none, some (.iload_n 1, 1), some (.if_icmp .eq 49, 3), none, none],
  [some (.iload_n 2, 1), some (.iload 4, 2), none, some (.ishr, 1), some (.iconst 1, 1), some (.iand, 1), some (.ifCond .ne 6, 3), none, none, some (.goto 37, 3), none, none, some (.aload_n 0, 1), some (.getfield 819, 3), none, none],
  [some (.aload_n 0, 1), some (.getfield 822, 3), none, none, some (.aload_n 0, 1), some (.getfield 822, 3), none, none, some (.iastore, 1), some (.aload_n 0, 1), some (.getfield 821, 3), none, none, some (.aload_n 0, 1), some (.getfield 822, 3), none],
  [none, some (.iload 4, 2), none, some (.iastore, 1), some (.aload_n 0, 1), some (.dup, 1), some (.getfield 822, 3), none, none, some (.iconst 1, 1), some (.iadd, 1), some (.putfield 822, 3), none, none, some (.iinc 4 1, 3), none],
  [none, some (.goto (-62), 3), none, none, some (.iconst (-1), 1), some (.istore 4, 2), none, some (.iconst 1, 1), some (.istore 5, 2), none, some (.iload 5, 2), none, some (.ifCond .eq 67, 3), none, none, some (.aload_n 0, 1)],
  [some (.iload_n 1, 1), some (.invokevirtual 43564, 3), none, none, some (.istore 6, 2), none, some (.iload 6, 2), none, some (.iload 4, 2), none, some (.if_icmp .le 44, 3), none, none, some (.iload 6, 2), none, some (.istore 4, 2)],
  [none, some (.iconst 0, 1), some (.istore 7, 2), none, some (.iload 7, 2), none, some (.aload_n 0, 1), some (.getfield 822, 3), none, none, some (.if_icmp .ge 28, 3), none, none, some (.aload_n 0, 1), some (.getfield 820, 3), none],
  [none, some (.iload 7, 2), none, some (.aload_n 0, 1), some (.getfield 821, 3), none, none, some (.aload_n 0, 1), some (.getfield 819, 3), none, none, some (.iload 7, 2), none, some (.iaload, 1), some (.iaload, 1), some (.iastore, 1)],
  [some (.iinc 7 1, 3), none, none, some (.goto (-31), 3), none, none, some (.aload_n 0, 1), some (.invokevirtual 34332, 3), none, none, some (.istore 5, 2), none, some (.goto (-66), 3), none, none, some (.iload_n 3, 1)],
  [some (.iconst (-1), 1), some (.if_icmp .ne 8, 3), none, none, some (.iload 4, 2), none, some (.goto 28, 3), none, none, some (.aload_n 0, 1), some (.iload_n 3, 1), some (.iconst 0, 1), some (.aload_n 0, 1), some (.getfield 822, 3), none, none],
  [some (.iconst 1, 1), some (.isub, 1), some (.invokevirtual 26956, 3), none, none, some (.ifCond .eq 12, 3), none, none, some (.aload_n 0, 1), some (.getfield 820, 3), none, none, some (.iload_n 3, 1), some (.iaload, 1), some (.goto 4, 3), none],
  [none, some (.iconst (-1), 1), some (.ireturn, 1)]])
def mc_X12_knew : am_M := (99, true, [
  [some (.aload_n 0, 1), some (.iload_n 1, 1), some (.aload_n 0, 1), some (.getfield 772, 3), none, none, some (.aload_n 0, 1), some (.getfield 780, 3), none, none, some (.iload_n 2, 1), some (.iaload, 1), some (.iaload, 1), some (.invokevirtual 33084, 3), none, none],
  [some (.istore_n 3, 1), some (.iload_n 3, 1), some (.ifCond .lt 17, 3), none, none, some (.iload_n 3, 1), some (.aload_n 0, 1), some (.getfield 782, 3), none, none, some (.iload_n 2, 1), some (.iaload, 1), some (.if_icmp .gt 7, 3), none, none, some (.iconst 1, 1)],
  [some (.goto 4, 3), none, none, some (.iconst 0, 1), some (.ireturn, 1)]])
def mc_X12_known : am_M := (99, false, [
  [some (.aload_n 0, 1), some (.iload_n 1, 1), some (.invokevirtual 27692, 3), none, none, some (.ifCond .eq 11, 3), none, none, some (.aload_n 0, 1), some (.iload_n 2, 1), some (.invokevirtual 29228, 3), none, none, some (.ifCond .ne 6, 3), none, none],
  [some (.bipush (-2), 2), none, some (.ireturn, 1), some (.aload_n 0, 1), some (.invokevirtual 25116, 3), none, none, some (.aload_n 0, 1), some (.iload_n 1, 1), some (.iload_n 2, 1), some (.invokevirtual 33084, 3), none, none, some (.ireturn, 1)]])
def mc_X12_knownIn : am_M := (99, false, [
  [some (.aload_n 0, 1), some (.getfield 769, 3), none, none, some (.bipush 8, 2), none, some (.aload_n 0, 1), some (.getfield 772, 3), none, none, some (.aload_n 0, 1), some (.getfield 780, 3), none, none, some (.iload_n 1, 1), some (.iaload, 1)],
  [some (.iaload, 1), some (.imul, 1), some (.iload_n 2, 1), some (.iadd, 1), some (.iaload, 1), some (.istore_n 3, 1), some (.iload_n 3, 1), some (.sipush 999, 3), none, none, some (.if_icmp .lt 7, 3), none, none, some (.iconst (-1), 1), some (.goto 11, 3), none],
  [none, some (.aload_n 0, 1), some (.getfield 782, 3), none, none, some (.iload_n 1, 1), some (.iaload, 1), some (.iload_n 3, 1), some (.iadd, 1), some (.ireturn, 1)]])
def mc_X12_lastsOf : am_M := (99, false, [
  [some (.aload_n 0, 1), some (.getfield 779, 3), none, none, some (.iload_n 1, 1), some (.iaload, 1), some (.iconst 4, 1), some (.if_icmp .ne 26, 3), none, none, some (.aload_n 0, 1), some (.getfield 785, 3), none, none, some (.iload_n 1, 1), some (.iaload, 1)],
  [some (.ifCond .lt 17, 3), none, none, some (.aload_n 0, 1), some (.getfield 785, 3), none, none, some (.iload_n 1, 1), some (.iaload, 1), some (.aload_n 0, 1), some (.getfield 782, 3), none, none, some (.iload_n 1, 1), some (.iaload, 1), some (.isub, 1)],
  [some (.ireturn, 1), some (.aload_n 0, 1), some (.getfield 779, 3), none, none, some (.iload_n 1, 1), some (.iaload, 1), some (.iconst 2, 1), some (.if_icmp .eq 13, 3), none, none, some (.aload_n 0, 1), some (.getfield 779, 3), none, none, some (.iload_n 1, 1)],
  [some (.iaload, 1), some (.iconst 4, 1), some (.if_icmp .ne 9, 3), none, none, some (.sipush 1000, 3), none, none, some (.goto 38, 3), none, none, some (.aload_n 0, 1), some (.getfield 779, 3), none, none, some (.iload_n 1, 1)],
  [some (.iaload, 1), some (.iconst 3, 1), some (.if_icmp .ne 9, 3), none, none, some (.sipush 300, 3), none, none, some (.goto 22, 3), none, none, some (.aload_n 0, 1), some (.getfield 779, 3), none, none, some (.iload_n 1, 1)],
  [some (.iaload, 1), some (.iconst 5, 1), some (.if_icmp .ne 9, 3), none, none, some (.sipush 900, 3), none, none, some (.goto 6, 3), none, none, some (.sipush 9999, 3), none, none, some (.ireturn, 1)]])
def mc_X12_lift : am_M := (99, false, [
  [some (.aload_n 0, 1), some (.iload_n 1, 1), some (.invokevirtual 27692, 3), none, none, some (.ifCond .eq 21, 3), none, none, some (.aload_n 0, 1), some (.iload_n 2, 1), some (.invokevirtual 28460, 3), none, none, some (.ifCond .eq 13, 3), none, none],
  [some (.iload_n 2, 1), some (.aload_n 0, 1), some (.getfield 782, 3), none, none, some (.iload_n 1, 1), some (.iaload, 1), some (.if_icmp .ge 6, 3), none, none, some (.bipush (-2), 2), none, some (.ireturn, 1), some (.aload_n 0, 1), some (.getfield 779, 3), none],
  [none, some (.iload_n 1, 1), some (.iaload, 1), some (.iconst 4, 1), some (.if_icmp .eq 6, 3), none, none, some (.bipush (-13), 2), none, some (.ireturn, 1), some (.aload_n 0, 1), some (.getfield 785, 3), none, none, some (.iload_n 1, 1), some (.iaload, 1)],
  [some (.ifCond .lt 6, 3), none, none, some (.bipush (-3), 2), none, some (.ireturn, 1), some (.aload_n 0, 1), some (.getfield 785, 3), none, none, some (.iload_n 1, 1), some (.iload_n 2, 1), some (.iastore, 1), some (.iload_n 2, 1), some (.aload_n 0, 1), some (.getfield 782, 3)],
  [none, none, some (.iload_n 1, 1), some (.iaload, 1), some (.isub, 1), some (.ireturn, 1)]])
def mc_X12_namingOf : am_M := (99, false, [
  [some (.iconst (-1), 1), some (.istore 4, 2), none, some (.iconst 0, 1), some (.istore 5, 2), none, some (.iload 5, 2), none, some (.aload_n 0, 1), some (.getfield 778, 3), none, none, some (.if_icmp .ge 81, 3), none, none, some (.aload_n 0, 1)],
  [some (.getfield 779, 3), none, none, some (.iload 5, 2), none, some (.iaload, 1), some (.iconst 1, 1), some (.if_icmp .ne 64, 3), none, none, some (.aload_n 0, 1), some (.getfield 781, 3), none, none, some (.iload 5, 2), none],
  [some (.iaload, 1), some (.bipush 12, 2), none, some (.idiv, 1), some (.iload_n 1, 1), some (.if_icmp .ne 50, 3), none, none, some (.iload_n 3, 1), some (.iload 5, 2), none, some (.ishr, 1), some (.iconst 1, 1), some (.iand, 1), some (.iconst 1, 1), some (.if_icmp .ne 40, 3)],
  [none, none, some (.aload_n 0, 1), some (.getfield 782, 3), none, none, some (.iload 5, 2), none, some (.iaload, 1), some (.iload_n 2, 1), some (.if_icmp .gt 29, 3), none, none, some (.iload 4, 2), none, some (.ifCond .lt 20, 3)],
  [none, none, some (.aload_n 0, 1), some (.getfield 782, 3), none, none, some (.iload 5, 2), none, some (.iaload, 1), some (.aload_n 0, 1), some (.getfield 782, 3), none, none, some (.iload 4, 2), none, some (.iaload, 1)],
  [some (.if_icmp .lt 7, 3), none, none, some (.iload 5, 2), none, some (.istore 4, 2), none, some (.iinc 5 1, 3), none, none, some (.goto (-84), 3), none, none, some (.iload 4, 2), none, some (.ireturn, 1)]])
def mc_X12_next : am_M := (99, false, [
  [some (.aload_n 0, 1), some (.getfield 792, 3), none, none, some (.aload_n 0, 1), some (.getfield 787, 3), none, none, some (.if_icmp .ge 44, 3), none, none, some (.aload_n 0, 1), some (.getfield 786, 3), none, none, some (.aload_n 0, 1)],
  [some (.getfield 792, 3), none, none, some (.baload, 1), some (.bipush 32, 2), none, some (.if_icmp .eq 17, 3), none, none, some (.aload_n 0, 1), some (.getfield 786, 3), none, none, some (.aload_n 0, 1), some (.getfield 792, 3), none],
  [none, some (.baload, 1), some (.bipush 10, 2), none, some (.if_icmp .ne 16, 3), none, none, some (.aload_n 0, 1), some (.dup, 1), some (.getfield 792, 3), none, none, some (.iconst 1, 1), some (.iadd, 1), some (.putfield 792, 3), none],
  [none, some (.goto (-49), 3), none, none, some (.aload_n 0, 1), some (.aload_n 0, 1), some (.getfield 792, 3), none, none, some (.putfield 795, 3), none, none, some (.aload_n 0, 1), some (.iconst 0, 1), some (.putfield 793, 3), none],
  [none, some (.aload_n 0, 1), some (.getfield 792, 3), none, none, some (.aload_n 0, 1), some (.getfield 787, 3), none, none, some (.if_icmp .ne 4, 3), none, none, some (.return_, 1), some (.aload_n 0, 1), some (.getfield 786, 3), none],
  [none, some (.aload_n 0, 1), some (.getfield 792, 3), none, none, some (.baload, 1), some (.istore_n 1, 1), some (.aload_n 0, 1), some (.iload_n 1, 1), some (.invokevirtual 29484, 3), none, none, some (.ifCond .eq 8, 3), none, none, some (.aload_n 0, 1)],
  [some (.invokevirtual 43804, 3), none, none, some (.return_, 1), some (.aload_n 0, 1), some (.iload_n 1, 1), some (.invokevirtual 28716, 3), none, none, some (.ifCond .eq 115, 3), none, none, some (.aload_n 0, 1), some (.iconst 0, 1), some (.putfield 794, 3), none],
  [none, some (.aload_n 0, 1), some (.getfield 792, 3), none, none, some (.aload_n 0, 1), some (.getfield 787, 3), none, none, some (.if_icmp .ge 76, 3), none, none, some (.aload_n 0, 1), some (.aload_n 0, 1), some (.getfield 786, 3), none],
  [none, some (.aload_n 0, 1), some (.getfield 792, 3), none, none, some (.baload, 1), some (.invokevirtual 28716, 3), none, none, some (.ifCond .eq 60, 3), none, none, some (.aload_n 0, 1), some (.aload_n 0, 1), some (.getfield 792, 3), none],
  [none, some (.aload_n 0, 1), some (.getfield 795, 3), none, none, some (.isub, 1), some (.iconst 4, 1), some (.if_icmp .ge 26, 3), none, none, some (.bipush 10, 2), none, some (.aload_n 0, 1), some (.getfield 794, 3), none, none],
  [some (.imul, 1), some (.aload_n 0, 1), some (.getfield 786, 3), none, none, some (.aload_n 0, 1), some (.getfield 792, 3), none, none, some (.baload, 1), some (.iadd, 1), some (.bipush 48, 2), none, some (.isub, 1), some (.goto 7, 3), none],
  [none, some (.aload_n 0, 1), some (.getfield 794, 3), none, none, some (.putfield 794, 3), none, none, some (.aload_n 0, 1), some (.dup, 1), some (.getfield 792, 3), none, none, some (.iconst 1, 1), some (.iadd, 1), some (.putfield 792, 3)],
  [none, none, some (.goto (-81), 3), none, none, some (.aload_n 0, 1), some (.aload_n 0, 1), some (.getfield 792, 3), none, none, some (.aload_n 0, 1), some (.getfield 795, 3), none, none, some (.isub, 1), some (.iconst 4, 1)],
  [some (.if_icmp .le 7, 3), none, none, some (.iconst 5, 1), some (.goto 4, 3), none, none, some (.iconst 1, 1), some (.putfield 793, 3), none, none, some (.return_, 1), some (.aload_n 0, 1), some (.dup, 1), some (.getfield 792, 3), none],
  [none, some (.iconst 1, 1), some (.iadd, 1), some (.putfield 792, 3), none, none, some (.aload_n 0, 1), some (.iload_n 1, 1), some (.putfield 794, 3), none, none, some (.aload_n 0, 1), some (.iload_n 1, 1), some (.bipush 40, 2), none, some (.if_icmp .eq 45, 3)],
  [none, none, some (.iload_n 1, 1), some (.bipush 41, 2), none, some (.if_icmp .eq 39, 3), none, none, some (.iload_n 1, 1), some (.bipush 59, 2), none, some (.if_icmp .eq 33, 3), none, none, some (.iload_n 1, 1), some (.bipush 43, 2)],
  [none, some (.if_icmp .eq 27, 3), none, none, some (.iload_n 1, 1), some (.bipush 45, 2), none, some (.if_icmp .eq 21, 3), none, none, some (.iload_n 1, 1), some (.bipush 42, 2), none, some (.if_icmp .eq 15, 3), none, none],
  [some (.iload_n 1, 1), some (.bipush 60, 2), none, some (.if_icmp .eq 9, 3), none, none, some (.iload_n 1, 1), some (.bipush 61, 2), none, some (.if_icmp .ne 7, 3), none, none, some (.iconst 4, 1), some (.goto 4, 3), none, none],
  [some (.iconst 5, 1), some (.putfield 793, 3), none, none, some (.return_, 1)]])
def mc_X12_nextOrder : am_M := (99, true, [
  [some (.aload_n 0, 1), some (.getfield 822, 3), none, none, some (.iconst 2, 1), some (.isub, 1), some (.istore_n 1, 1), some (.iload_n 1, 1), some (.ifCond .lt 26, 3), none, none, some (.aload_n 0, 1), some (.getfield 819, 3), none, none, some (.iload_n 1, 1)],
  [some (.iaload, 1), some (.aload_n 0, 1), some (.getfield 819, 3), none, none, some (.iload_n 1, 1), some (.iconst 1, 1), some (.iadd, 1), some (.iaload, 1), some (.if_icmp .le 9, 3), none, none, some (.iinc 1 (-1), 3), none, none, some (.goto (-24), 3)],
  [none, none, some (.iload_n 1, 1), some (.ifCond .ge 5, 3), none, none, some (.iconst 0, 1), some (.ireturn, 1), some (.aload_n 0, 1), some (.getfield 822, 3), none, none, some (.iconst 1, 1), some (.isub, 1), some (.istore_n 2, 1), some (.aload_n 0, 1)],
  [some (.getfield 819, 3), none, none, some (.iload_n 2, 1), some (.iaload, 1), some (.aload_n 0, 1), some (.getfield 819, 3), none, none, some (.iload_n 1, 1), some (.iaload, 1), some (.if_icmp .ge 9, 3), none, none, some (.iinc 2 (-1), 3), none],
  [none, some (.goto (-18), 3), none, none, some (.aload_n 0, 1), some (.getfield 819, 3), none, none, some (.iload_n 1, 1), some (.iaload, 1), some (.istore_n 3, 1), some (.aload_n 0, 1), some (.getfield 819, 3), none, none, some (.iload_n 1, 1)],
  [some (.aload_n 0, 1), some (.getfield 819, 3), none, none, some (.iload_n 2, 1), some (.iaload, 1), some (.iastore, 1), some (.aload_n 0, 1), some (.getfield 819, 3), none, none, some (.iload_n 2, 1), some (.iload_n 3, 1), some (.iastore, 1), some (.iload_n 1, 1), some (.iconst 1, 1)],
  [some (.iadd, 1), some (.istore 4, 2), none, some (.aload_n 0, 1), some (.getfield 822, 3), none, none, some (.iconst 1, 1), some (.isub, 1), some (.istore 5, 2), none, some (.iload 4, 2), none, some (.iload 5, 2), none, some (.if_icmp .ge 42, 3)],
  [none, none, some (.aload_n 0, 1), some (.getfield 819, 3), none, none, some (.iload 4, 2), none, some (.iaload, 1), some (.istore_n 3, 1), some (.aload_n 0, 1), some (.getfield 819, 3), none, none, some (.iload 4, 2), none],
  [some (.aload_n 0, 1), some (.getfield 819, 3), none, none, some (.iload 5, 2), none, some (.iaload, 1), some (.iastore, 1), some (.aload_n 0, 1), some (.getfield 819, 3), none, none, some (.iload 5, 2), none, some (.iload_n 3, 1), some (.iastore, 1)],
  [some (.iinc 4 1, 3), none, none, some (.iinc 5 (-1), 3), none, none, some (.goto (-43), 3), none, none, some (.iconst 1, 1), some (.ireturn, 1)]])
def mc_X12_note : am_M := (99, false, [
  [some (.aload_n 0, 1), some (.getfield 775, 3), none, none, some (.aload_n 0, 1), some (.getfield 771, 3), none, none, some (.iload_n 1, 1), some (.iastore, 1), some (.aload_n 0, 1), some (.getfield 776, 3), none, none, some (.aload_n 0, 1), some (.getfield 771, 3)],
  [none, none, some (.iload_n 2, 1), some (.iastore, 1), some (.aload_n 0, 1), some (.getfield 777, 3), none, none, some (.aload_n 0, 1), some (.getfield 771, 3), none, none, some (.iload_n 3, 1), some (.iastore, 1), some (.aload_n 0, 1), some (.dup, 1)],
  [some (.getfield 771, 3), none, none, some (.iconst 1, 1), some (.iadd, 1), some (.putfield 771, 3), none, none, some (.return_, 1)]])
def mc_X12_office : am_M := (99, false, [
  [some (.aload_n 0, 1), some (.iload_n 1, 1), some (.invokevirtual 29740, 3), none, none, some (.ifCond .eq 11, 3), none, none, some (.aload_n 0, 1), some (.iload_n 2, 1), some (.invokevirtual 29228, 3), none, none, some (.ifCond .ne 6, 3), none, none],
  [some (.bipush (-2), 2), none, some (.ireturn, 1), some (.aload_n 0, 1), some (.getfield 773, 3), none, none, some (.iload_n 1, 1), some (.iaload, 1), some (.istore_n 3, 1), some (.aload_n 0, 1), some (.getfield 773, 3), none, none, some (.iload_n 1, 1), some (.iload_n 2, 1)],
  [some (.iastore, 1), some (.iload_n 3, 1), some (.ireturn, 1)]])
def mc_X12_officeTold : am_M := (99, false, [
  [some (.aload_n 0, 1), some (.iload_n 1, 1), some (.invokevirtual 29740, 3), none, none, some (.ifCond .eq 13, 3), none, none, some (.aload_n 0, 1), some (.iload_n 2, 1), some (.iconst 0, 1), some (.iconst 1, 1), some (.invokevirtual 26956, 3), none, none, some (.ifCond .ne 8, 3)],
  [none, none, some (.bipush (-2), 2), none, some (.goto 22, 3), none, none, some (.iload_n 2, 1), some (.ifCond .ne 12, 3), none, none, some (.aload_n 0, 1), some (.getfield 773, 3), none, none, some (.iload_n 1, 1)],
  [some (.iaload, 1), some (.goto 9, 3), none, none, some (.aload_n 0, 1), some (.getfield 774, 3), none, none, some (.iload_n 1, 1), some (.iaload, 1), some (.ireturn, 1)]])
def mc_X12_ones : am_M := (99, false, [
  [some (.iconst 0, 1), some (.istore_n 2, 1), some (.iload_n 1, 1), some (.istore_n 3, 1), some (.iload_n 3, 1), some (.ifCond .eq 15, 3), none, none, some (.iinc 2 1, 3), none, none, some (.iload_n 3, 1), some (.iload_n 3, 1), some (.iconst 1, 1), some (.isub, 1), some (.iand, 1)],
  [some (.istore_n 3, 1), some (.goto (-13), 3), none, none, some (.iload_n 2, 1), some (.ireturn, 1)]])
def mc_X12_owed : am_M := (99, false, [
  [some (.aload_n 0, 1), some (.iload_n 1, 1), some (.invokevirtual 30764, 3), none, none, some (.ifCond .eq 16, 3), none, none, some (.iload_n 2, 1), some (.iconst (-1), 1), some (.if_icmp .eq 15, 3), none, none, some (.aload_n 0, 1), some (.iload_n 2, 1), some (.invokevirtual 30252, 3)],
  [none, none, some (.ifCond .ne 7, 3), none, none, some (.ldc2_w 13835058055282163712, 3), none, none, some (.lreturn, 1), some (.aload_n 0, 1), some (.iload_n 1, 1), some (.invokevirtual 25900, 3), none, none, some (.istore_n 3, 1), some (.lconst 0, 1)],
  [some (.lstore 4, 2), none, some (.iconst 0, 1), some (.istore 6, 2), none, some (.iload 6, 2), none, some (.aload_n 0, 1), some (.getfield 804, 3), none, none, some (.if_icmp .ge 71, 3), none, none, some (.aload_n 0, 1), some (.aload_n 0, 1)],
  [some (.getfield 805, 3), none, none, some (.iload 6, 2), none, some (.iaload, 1), some (.aload_n 0, 1), some (.getfield 808, 3), none, none, some (.iload 6, 2), none, some (.iaload, 1), some (.iload_n 3, 1), some (.invokevirtual 37964, 3), none],
  [none, some (.istore 7, 2), none, some (.iload 7, 2), none, some (.ifCond .lt 39, 3), none, none, some (.iload 7, 2), none, some (.aload_n 0, 1), some (.getfield 806, 3), none, none, some (.iload 6, 2), none],
  [some (.iaload, 1), some (.if_icmp .eq 27, 3), none, none, some (.iload_n 2, 1), some (.iconst (-1), 1), some (.if_icmp .eq 9, 3), none, none, some (.iload_n 2, 1), some (.iload 7, 2), none, some (.if_icmp .ne 16, 3), none, none, some (.lload 4, 2)],
  [none, some (.aload_n 0, 1), some (.getfield 807, 3), none, none, some (.iload 6, 2), none, some (.iaload, 1), some (.i2l, 1), some (.ladd, 1), some (.lstore 4, 2), none, some (.iinc 6 1, 3), none, none, some (.goto (-74), 3)],
  [none, none, some (.lload 4, 2), none, some (.lreturn, 1)]])
def mc_X12_part : am_M := (99, true, [
  [some (.aload_n 0, 1), some (.iconst 0, 1), some (.putfield 798, 3), none, none, some (.aload_n 0, 1), some (.iconst 0, 1), some (.putfield 799, 3), none, none, some (.aload_n 0, 1), some (.iconst 0, 1), some (.putfield 800, 3), none, none, some (.aload_n 0, 1)],
  [some (.getfield 790, 3), none, none, some (.aload_n 0, 1), some (.getfield 801, 3), none, none, some (.iconst 0, 1), some (.iastore, 1), some (.aload_n 0, 1), some (.getfield 797, 3), none, none, some (.iconst 0, 1), some (.iconst 0, 1), some (.bastore, 1)],
  [some (.iconst 1, 1), some (.istore_n 1, 1), some (.iconst 1, 1), some (.istore_n 2, 1), some (.iload_n 1, 1), some (.ifCond .eq 132, 3), none, none, some (.aload_n 0, 1), some (.iload_n 2, 1), some (.invokevirtual 20268, 3), none, none, some (.ifCond .ne 5, 3), none, none],
  [some (.iconst 0, 1), some (.ireturn, 1), some (.aload_n 0, 1), some (.iconst 4, 1), some (.invokevirtual 28972, 3), none, none, some (.ifCond .eq 12, 3), none, none, some (.aload_n 0, 1), some (.bipush (-3), 2), none, some (.invokevirtual 26668, 3), none, none],
  [some (.goto 98, 3), none, none, some (.aload_n 0, 1), some (.bipush 45, 2), none, some (.invokevirtual 31020, 3), none, none, some (.ifCond .eq 14, 3), none, none, some (.aload_n 0, 1), some (.bipush (-9), 2), none, some (.invokevirtual 26668, 3)],
  [none, none, some (.iconst 0, 1), some (.istore_n 2, 1), some (.goto 78, 3), none, none, some (.aload_n 0, 1), some (.bipush 40, 2), none, some (.invokevirtual 31020, 3), none, none, some (.ifCond .eq 34, 3), none, none],
  [some (.aload_n 0, 1), some (.bipush (-10), 2), none, some (.invokevirtual 26668, 3), none, none, some (.aload_n 0, 1), some (.dup, 1), some (.getfield 799, 3), none, none, some (.iconst 1, 1), some (.iadd, 1), some (.putfield 799, 3), none, none],
  [some (.aload_n 0, 1), some (.getfield 797, 3), none, none, some (.aload_n 0, 1), some (.getfield 799, 3), none, none, some (.iconst 0, 1), some (.bastore, 1), some (.iconst 1, 1), some (.istore_n 2, 1), some (.goto 38, 3), none, none, some (.aload_n 0, 1)],
  [some (.aload_n 0, 1), some (.getfield 793, 3), none, none, some (.iconst 1, 1), some (.if_icmp .ne 10, 3), none, none, some (.aload_n 0, 1), some (.getfield 794, 3), none, none, some (.goto 11, 3), none, none, some (.sipush 10000, 3)],
  [none, none, some (.aload_n 0, 1), some (.getfield 794, 3), none, none, some (.iadd, 1), some (.invokevirtual 36908, 3), none, none, some (.aload_n 0, 1), some (.bipush 7, 2), none, some (.invokevirtual 40492, 3), none, none],
  [some (.iconst 0, 1), some (.istore_n 1, 1), some (.aload_n 0, 1), some (.invokevirtual 34076, 3), none, none, some (.goto (-130), 3), none, none, some (.aload_n 0, 1), some (.bipush 59, 2), none, some (.invokevirtual 31020, 3), none, none, some (.ifCond .eq 21, 3)],
  [none, none, some (.aload_n 0, 1), some (.iconst 1, 1), some (.invokevirtual 40492, 3), none, none, some (.aload_n 0, 1), some (.getfield 799, 3), none, none, some (.ifCond .ne 7, 3), none, none, some (.iconst 1, 1), some (.goto 4, 3)],
  [none, none, some (.iconst 0, 1), some (.ireturn, 1), some (.aload_n 0, 1), some (.bipush 41, 2), none, some (.invokevirtual 31020, 3), none, none, some (.ifCond .eq 60, 3), none, none, some (.aload_n 0, 1), some (.getfield 799, 3), none],
  [none, some (.ifCond .ne 5, 3), none, none, some (.iconst 0, 1), some (.ireturn, 1), some (.aload_n 0, 1), some (.iconst 1, 1), some (.invokevirtual 40492, 3), none, none, some (.aload_n 0, 1), some (.dup, 1), some (.getfield 798, 3), none, none],
  [some (.iconst 1, 1), some (.isub, 1), some (.putfield 798, 3), none, none, some (.aload_n 0, 1), some (.dup, 1), some (.getfield 800, 3), none, none, some (.iconst 1, 1), some (.isub, 1), some (.putfield 800, 3), none, none, some (.aload_n 0, 1)],
  [some (.dup, 1), some (.getfield 799, 3), none, none, some (.iconst 1, 1), some (.isub, 1), some (.putfield 799, 3), none, none, some (.aload_n 0, 1), some (.bipush 7, 2), none, some (.invokevirtual 40492, 3), none, none, some (.aload_n 0, 1)],
  [some (.invokevirtual 34076, 3), none, none, some (.goto (-223), 3), none, none, some (.aload_n 0, 1), some (.invokevirtual 41756, 3), none, none, some (.istore_n 3, 1), some (.iload_n 3, 1), some (.ifCond .eq 24, 3), none, none, some (.aload_n 0, 1)],
  [some (.iload_n 3, 1), some (.invokevirtual 37420, 3), none, none, some (.iconst 4, 1), some (.if_icmp .ne 17, 3), none, none, some (.aload_n 0, 1), some (.getfield 797, 3), none, none, some (.aload_n 0, 1), some (.getfield 799, 3), none, none],
  [some (.baload, 1), some (.ifCond .eq 5, 3), none, none, some (.iconst 0, 1), some (.ireturn, 1), some (.aload_n 0, 1), some (.getfield 797, 3), none, none, some (.aload_n 0, 1), some (.getfield 799, 3), none, none, some (.aload_n 0, 1), some (.iload_n 3, 1)],
  [some (.invokevirtual 37420, 3), none, none, some (.iconst 4, 1), some (.if_icmp .eq 24, 3), none, none, some (.aload_n 0, 1), some (.iload_n 3, 1), some (.invokevirtual 37420, 3), none, none, some (.iconst 2, 1), some (.if_icmp .le 19, 3), none, none],
  [some (.aload_n 0, 1), some (.getfield 797, 3), none, none, some (.aload_n 0, 1), some (.getfield 799, 3), none, none, some (.baload, 1), some (.ifCond .eq 7, 3), none, none, some (.iconst 1, 1), some (.goto 4, 3), none, none],
  [some (.iconst 0, 1), some (.bastore, 1), some (.aload_n 0, 1), some (.aload_n 0, 1), some (.iload_n 3, 1), some (.invokevirtual 37420, 3), none, none, some (.invokevirtual 40492, 3), none, none, some (.aload_n 0, 1), some (.iload_n 3, 1), some (.invokevirtual 26668, 3), none, none],
  [some (.iconst 1, 1), some (.istore_n 1, 1), some (.aload_n 0, 1), some (.iload_n 3, 1), some (.invokevirtual 37420, 3), none, none, some (.iconst 3, 1), some (.if_icmp .ge 7, 3), none, none, some (.iconst 1, 1), some (.goto 4, 3), none, none, some (.iconst 0, 1)],
  [some (.istore_n 2, 1), some (.aload_n 0, 1), some (.invokevirtual 34076, 3), none, none, some (.goto (-337), 3)]])
def mc_X12_pay : am_M := (99, false, [
  [some (.aload_n 0, 1), some (.iload_n 1, 1), some (.invokevirtual 29740, 3), none, none, some (.ifCond .eq 32, 3), none, none, some (.aload_n 0, 1), some (.iload_n 2, 1), some (.invokevirtual 30252, 3), none, none, some (.ifCond .eq 24, 3), none, none],
  [some (.aload_n 0, 1), some (.iload_n 3, 1), some (.iconst 1, 1), some (.sipush 9999, 3), none, none, some (.invokevirtual 26956, 3), none, none, some (.ifCond .eq 12, 3), none, none, some (.aload_n 0, 1), some (.iload 4, 2), none, some (.invokevirtual 28460, 3)],
  [none, none, some (.ifCond .ne 6, 3), none, none, some (.bipush (-2), 2), none, some (.ireturn, 1), some (.aload_n 0, 1), some (.getfield 804, 3), none, none, some (.bipush 30, 2), none, some (.if_icmp .ne 6, 3), none],
  [none, some (.bipush (-4), 2), none, some (.ireturn, 1), some (.aload_n 0, 1), some (.getfield 805, 3), none, none, some (.aload_n 0, 1), some (.getfield 804, 3), none, none, some (.iload_n 1, 1), some (.iastore, 1), some (.aload_n 0, 1), some (.getfield 806, 3)],
  [none, none, some (.aload_n 0, 1), some (.getfield 804, 3), none, none, some (.iload_n 2, 1), some (.iastore, 1), some (.aload_n 0, 1), some (.getfield 807, 3), none, none, some (.aload_n 0, 1), some (.getfield 804, 3), none, none],
  [some (.iload_n 3, 1), some (.iastore, 1), some (.aload_n 0, 1), some (.getfield 808, 3), none, none, some (.aload_n 0, 1), some (.getfield 804, 3), none, none, some (.iload 4, 2), none, some (.iastore, 1), some (.aload_n 0, 1), some (.dup, 1), some (.getfield 804, 3)],
  [none, none, some (.iconst 1, 1), some (.iadd, 1), some (.putfield 804, 3), none, none, some (.aload_n 0, 1), some (.getfield 804, 3), none, none, some (.iconst 1, 1), some (.isub, 1), some (.ireturn, 1)]])
def mc_X12_person : am_M := (99, false, [
  [some (.aload_n 0, 1), some (.iload_n 1, 1), some (.invokevirtual 29228, 3), none, none, some (.ifCond .ne 6, 3), none, none, some (.bipush (-2), 2), none, some (.ireturn, 1), some (.aload_n 0, 1), some (.getfield 770, 3), none, none, some (.bipush 12, 2)],
  [none, some (.if_icmp .ne 6, 3), none, none, some (.bipush (-4), 2), none, some (.ireturn, 1), some (.aload_n 0, 1), some (.getfield 772, 3), none, none, some (.aload_n 0, 1), some (.getfield 770, 3), none, none, some (.iload_n 1, 1)],
  [some (.iastore, 1), some (.aload_n 0, 1), some (.dup, 1), some (.getfield 770, 3), none, none, some (.iconst 1, 1), some (.iadd, 1), some (.putfield 770, 3), none, none, some (.aload_n 0, 1), some (.getfield 770, 3), none, none, some (.iconst 1, 1)],
  [some (.isub, 1), some (.ireturn, 1)]])
def mc_X12_priceOf : am_M := (99, false, [
  [some (.iconst 0, 1), some (.istore_n 2, 1), some (.iconst 0, 1), some (.istore_n 3, 1), some (.iload_n 3, 1), some (.aload_n 0, 1), some (.getfield 809, 3), none, none, some (.if_icmp .ge 31, 3), none, none, some (.iload_n 2, 1), some (.iload_n 1, 1), some (.iload_n 3, 1), some (.ishr, 1)],
  [some (.iconst 1, 1), some (.iand, 1), some (.iconst 1, 1), some (.if_icmp .ne 12, 3), none, none, some (.aload_n 0, 1), some (.getfield 810, 3), none, none, some (.iload_n 3, 1), some (.iaload, 1), some (.goto 4, 3), none, none, some (.iconst 0, 1)],
  [some (.iadd, 1), some (.istore_n 2, 1), some (.iinc 3 1, 3), none, none, some (.goto (-33), 3), none, none, some (.iload_n 2, 1), some (.ireturn, 1)]])
def mc_X12_put : am_M := (99, false, [
  [some (.aload_n 0, 1), some (.getfield 791, 3), none, none, some (.sipush 160, 3), none, none, some (.aload_n 0, 1), some (.getfield 801, 3), none, none, some (.imul, 1), some (.aload_n 0, 1), some (.getfield 790, 3), none, none],
  [some (.aload_n 0, 1), some (.getfield 801, 3), none, none, some (.iaload, 1), some (.iadd, 1), some (.iload_n 1, 1), some (.iastore, 1), some (.aload_n 0, 1), some (.getfield 790, 3), none, none, some (.aload_n 0, 1), some (.getfield 801, 3), none, none],
  [some (.dup2, 1), some (.iaload, 1), some (.iconst 1, 1), some (.iadd, 1), some (.iastore, 1), some (.return_, 1)]])
def mc_X12_quarrels : am_M := (99, false, [
  [some (.aload_n 0, 1), some (.iload_n 1, 1), some (.invokevirtual 28460, 3), none, none, some (.ifCond .ne 6, 3), none, none, some (.bipush (-2), 2), none, some (.ireturn, 1), some (.aload_n 0, 1), some (.iconst 0, 1), some (.invokevirtual 25900, 3), none, none],
  [some (.istore_n 2, 1), some (.aload_n 0, 1), some (.iconst 1, 1), some (.invokevirtual 25900, 3), none, none, some (.istore_n 3, 1), some (.iconst 0, 1), some (.istore 4, 2), none, some (.iconst 0, 1), some (.istore 5, 2), none, some (.iload 5, 2), none, some (.bipush 6, 2)],
  [none, some (.if_icmp .ge 41, 3), none, none, some (.iload 4, 2), none, some (.aload_n 0, 1), some (.iload 5, 2), none, some (.iload_n 1, 1), some (.iload_n 2, 1), some (.invokevirtual 37964, 3), none, none, some (.aload_n 0, 1), some (.iload 5, 2)],
  [none, some (.iload_n 1, 1), some (.iload_n 3, 1), some (.invokevirtual 37964, 3), none, none, some (.if_icmp .ne 7, 3), none, none, some (.iconst 0, 1), some (.goto 7, 3), none, none, some (.iconst 1, 1), some (.iload 5, 2), none],
  [some (.ishl, 1), some (.ior, 1), some (.istore 4, 2), none, some (.iinc 5 1, 3), none, none, some (.goto (-42), 3), none, none, some (.iload 4, 2), none, some (.ireturn, 1)]])
def mc_X12_rank : am_M := (99, false, [
  [some (.iload_n 1, 1), some (.iconst (-1), 1), some (.if_icmp .ne 7, 3), none, none, some (.iconst 1, 1), some (.goto 78, 3), none, none, some (.iload_n 1, 1), some (.bipush (-2), 2), none, some (.if_icmp .ne 7, 3), none, none, some (.iconst 2, 1)],
  [some (.goto 68, 3), none, none, some (.iload_n 1, 1), some (.bipush (-3), 2), none, some (.if_icmp .ne 7, 3), none, none, some (.iconst 3, 1), some (.goto 58, 3), none, none, some (.iload_n 1, 1), some (.bipush (-4), 2), none],
  [some (.if_icmp .eq 9, 3), none, none, some (.iload_n 1, 1), some (.bipush (-5), 2), none, some (.if_icmp .ne 7, 3), none, none, some (.iconst 4, 1), some (.goto 42, 3), none, none, some (.iload_n 1, 1), some (.bipush (-6), 2), none],
  [some (.if_icmp .eq 9, 3), none, none, some (.iload_n 1, 1), some (.bipush (-7), 2), none, some (.if_icmp .ne 7, 3), none, none, some (.iconst 5, 1), some (.goto 26, 3), none, none, some (.iload_n 1, 1), some (.bipush (-8), 2), none],
  [some (.if_icmp .ne 8, 3), none, none, some (.bipush 6, 2), none, some (.goto 15, 3), none, none, some (.iload_n 1, 1), some (.bipush (-9), 2), none, some (.if_icmp .ne 8, 3), none, none, some (.bipush 7, 2), none],
  [some (.goto 4, 3), none, none, some (.iconst 0, 1), some (.ireturn, 1)]])
def mc_X12_rankOf : am_M := (99, false, [
  [some (.aload_n 0, 1), some (.getfield 779, 3), none, none, some (.iload_n 1, 1), some (.iaload, 1), some (.iconst 1, 1), some (.if_icmp .ne 7, 3), none, none, some (.iconst 3, 1), some (.goto 46, 3), none, none, some (.aload_n 0, 1), some (.getfield 779, 3)],
  [none, none, some (.iload_n 1, 1), some (.iaload, 1), some (.iconst 2, 1), some (.if_icmp .ne 7, 3), none, none, some (.iconst 2, 1), some (.goto 32, 3), none, none, some (.aload_n 0, 1), some (.getfield 779, 3), none, none],
  [some (.iload_n 1, 1), some (.iaload, 1), some (.iconst 4, 1), some (.if_icmp .ne 7, 3), none, none, some (.iconst 4, 1), some (.goto 18, 3), none, none, some (.aload_n 0, 1), some (.getfield 779, 3), none, none, some (.iload_n 1, 1), some (.iaload, 1)],
  [some (.iconst 5, 1), some (.if_icmp .ne 7, 3), none, none, some (.iconst 5, 1), some (.goto 4, 3), none, none, some (.iconst 1, 1), some (.ireturn, 1)]])
def mc_X12_rightOf : am_M := (99, false, [
  [some (.aload_n 0, 1), some (.iload_n 1, 1), some (.iload_n 2, 1), some (.iload_n 3, 1), some (.invokevirtual 33868, 3), none, none, some (.istore 4, 2), none, some (.iload 4, 2), none, some (.ifCond .lt 13, 3), none, none, some (.aload_n 0, 1), some (.iload 4, 2)],
  [none, some (.iload_n 2, 1), some (.invokevirtual 30012, 3), none, none, some (.ifCond .ne 7, 3), none, none, some (.iconst (-1), 1), some (.goto 13, 3), none, none, some (.aload_n 0, 1), some (.getfield 781, 3), none, none],
  [some (.iload 4, 2), none, some (.iaload, 1), some (.bipush 12, 2), none, some (.irem, 1), some (.ireturn, 1)]])
def mc_X12_road : am_M := (99, false, [
  [some (.aload_n 0, 1), some (.iload_n 1, 1), some (.invokevirtual 29228, 3), none, none, some (.ifCond .eq 34, 3), none, none, some (.aload_n 0, 1), some (.iload_n 2, 1), some (.invokevirtual 29228, 3), none, none, some (.ifCond .eq 26, 3), none, none],
  [some (.iload_n 1, 1), some (.iload_n 2, 1), some (.if_icmp .eq 21, 3), none, none, some (.aload_n 0, 1), some (.iload_n 3, 1), some (.iconst 1, 1), some (.bipush 99, 2), none, some (.invokevirtual 26956, 3), none, none, some (.ifCond .ne 13, 3), none, none],
  [some (.iload_n 3, 1), some (.sipush 999, 3), none, none, some (.if_icmp .eq 6, 3), none, none, some (.bipush (-2), 2), none, some (.ireturn, 1), some (.aload_n 0, 1), some (.getfield 768, 3), none, none, some (.bipush 8, 2), none],
  [some (.iload_n 1, 1), some (.imul, 1), some (.iload_n 2, 1), some (.iadd, 1), some (.iaload, 1), some (.istore 4, 2), none, some (.aload_n 0, 1), some (.getfield 768, 3), none, none, some (.bipush 8, 2), none, some (.iload_n 1, 1), some (.imul, 1), some (.iload_n 2, 1)],
  [some (.iadd, 1), some (.iload_n 3, 1), some (.iastore, 1), some (.aload_n 0, 1), some (.getfield 768, 3), none, none, some (.bipush 8, 2), none, some (.iload_n 2, 1), some (.imul, 1), some (.iload_n 1, 1), some (.iadd, 1), some (.iload_n 3, 1), some (.iastore, 1), some (.iload 4, 2)],
  [none, some (.ireturn, 1)]])
def mc_X12_rule : am_M := (99, false, [
  [some (.aload_n 0, 1), some (.iload_n 1, 1), some (.invokevirtual 30764, 3), none, none, some (.ifCond .eq 18, 3), none, none, some (.aload_n 0, 1), some (.iload_n 2, 1), some (.iconst 0, 1), some (.aload_n 0, 1), some (.getfield 788, 3), none, none, some (.iconst 1, 1)],
  [some (.isub, 1), some (.invokevirtual 26956, 3), none, none, some (.ifCond .ne 6, 3), none, none, some (.bipush (-2), 2), none, some (.ireturn, 1), some (.aload_n 0, 1), some (.getfield 789, 3), none, none, some (.iload_n 1, 1), some (.iaload, 1)],
  [some (.istore_n 3, 1), some (.aload_n 0, 1), some (.getfield 789, 3), none, none, some (.iload_n 1, 1), some (.iload_n 2, 1), some (.iastore, 1), some (.iload_n 3, 1), some (.ireturn, 1)]])
def mc_X12_ruleZero : am_M := (99, false, [
  [some (.aload_n 0, 1), some (.getfield 790, 3), none, none, some (.iconst 0, 1), some (.iconst 1, 1), some (.iastore, 1), some (.aload_n 0, 1), some (.getfield 791, 3), none, none, some (.iconst 0, 1), some (.sipush 10003, 3), none, none, some (.iastore, 1)],
  [some (.aload_n 0, 1), some (.getfield 790, 3), none, none, some (.iconst 1, 1), some (.iconst 1, 1), some (.iastore, 1), some (.aload_n 0, 1), some (.getfield 791, 3), none, none, some (.sipush 160, 3), none, none, some (.sipush 10005, 3), none],
  [none, some (.iastore, 1), some (.return_, 1)]])
def mc_X12_savedBy : am_M := (99, false, [
  [some (.iconst 0, 1), some (.istore_n 2, 1), some (.iconst 0, 1), some (.istore_n 3, 1), some (.iload_n 3, 1), some (.aload_n 0, 1), some (.getfield 778, 3), none, none, some (.if_icmp .ge 29, 3), none, none, some (.iload_n 2, 1), some (.aload_n 0, 1), some (.iload_n 1, 1), some (.iload_n 3, 1)],
  [some (.iconst 1, 1), some (.invokevirtual 20556, 3), none, none, some (.ifCond .eq 9, 3), none, none, some (.iconst 1, 1), some (.iload_n 3, 1), some (.ishl, 1), some (.goto 4, 3), none, none, some (.iconst 0, 1), some (.ior, 1), some (.istore_n 2, 1)],
  [some (.iinc 3 1, 3), none, none, some (.goto (-31), 3), none, none, some (.iload_n 2, 1), some (.ireturn, 1)]])
def mc_X12_says : am_M := (99, false, [
  [some (.aload_n 0, 1), some (.iload_n 1, 1), some (.invokevirtual 30764, 3), none, none, some (.ifCond .eq 32, 3), none, none, some (.aload_n 0, 1), some (.iload_n 2, 1), some (.invokevirtual 27692, 3), none, none, some (.ifCond .eq 24, 3), none, none],
  [some (.aload_n 0, 1), some (.iload_n 3, 1), some (.iconst 0, 1), some (.iconst 1, 1), some (.invokevirtual 26956, 3), none, none, some (.ifCond .eq 14, 3), none, none, some (.aload_n 0, 1), some (.iload_n 1, 1), some (.iload_n 2, 1), some (.iload_n 3, 1), some (.invokevirtual 20556, 3), none],
  [none, some (.i2l, 1), some (.goto 6, 3), none, none, some (.ldc2_w 13835058055282163712, 3), none, none, some (.lreturn, 1)]])
def mc_X12_seat : am_M := (99, false, [
  [some (.aload_n 0, 1), some (.iload_n 1, 1), some (.invokevirtual 29740, 3), none, none, some (.ifCond .eq 16, 3), none, none, some (.iload_n 2, 1), some (.iconst (-1), 1), some (.if_icmp .eq 14, 3), none, none, some (.aload_n 0, 1), some (.iload_n 2, 1), some (.invokevirtual 30252, 3)],
  [none, none, some (.ifCond .ne 6, 3), none, none, some (.bipush (-5), 2), none, some (.ireturn, 1), some (.aload_n 0, 1), some (.getfield 774, 3), none, none, some (.iload_n 1, 1), some (.iaload, 1), some (.istore_n 3, 1), some (.aload_n 0, 1)],
  [some (.getfield 774, 3), none, none, some (.iload_n 1, 1), some (.iload_n 2, 1), some (.iastore, 1), some (.iload_n 3, 1), some (.ireturn, 1)]])
def mc_X12_seats : am_M := (99, false, [
  [some (.aload_n 0, 1), some (.iload_n 1, 1), some (.invokevirtual 29228, 3), none, none, some (.ifCond .eq 14, 3), none, none, some (.aload_n 0, 1), some (.iload_n 2, 1), some (.iconst 0, 1), some (.bipush 99, 2), none, some (.invokevirtual 26956, 3), none, none],
  [some (.ifCond .ne 6, 3), none, none, some (.bipush (-2), 2), none, some (.ireturn, 1), some (.aload_n 0, 1), some (.getfield 813, 3), none, none, some (.iload_n 1, 1), some (.iaload, 1), some (.istore_n 3, 1), some (.aload_n 0, 1), some (.getfield 813, 3), none],
  [none, some (.iload_n 1, 1), some (.iload_n 2, 1), some (.iastore, 1), some (.iload_n 3, 1), some (.ireturn, 1)]])
def mc_X12_seatsOf : am_M := (99, false, [
  [some (.iconst 0, 1), some (.istore 4, 2), none, some (.iconst 0, 1), some (.istore 5, 2), none, some (.iload 5, 2), none, some (.bipush 8, 2), none, some (.if_icmp .ge 50, 3), none, none, some (.iload 4, 2), none, some (.iload_n 1, 1)],
  [some (.iload 5, 2), none, some (.ishr, 1), some (.iconst 1, 1), some (.iand, 1), some (.iconst 1, 1), some (.if_icmp .ne 28, 3), none, none, some (.iload_n 2, 1), some (.ifCond .lt 14, 3), none, none, some (.aload_n 0, 1), some (.iload 5, 2), none],
  [some (.iload_n 3, 1), some (.invokevirtual 41532, 3), none, none, some (.iload_n 2, 1), some (.if_icmp .ne 13, 3), none, none, some (.aload_n 0, 1), some (.getfield 813, 3), none, none, some (.iload 5, 2), none, some (.iaload, 1), some (.goto 4, 3)],
  [none, none, some (.iconst 0, 1), some (.iadd, 1), some (.istore 4, 2), none, some (.iinc 5 1, 3), none, none, some (.goto (-51), 3), none, none, some (.iload 4, 2), none, some (.ireturn, 1)]])
def mc_X12_seatsRow : am_M := (99, false, [
  [some (.aload_n 0, 1), some (.iload_n 1, 1), some (.invokevirtual 30508, 3), none, none, some (.ifCond .eq 25, 3), none, none, some (.aload_n 0, 1), some (.iload_n 2, 1), some (.iconst 0, 1), some (.iconst 2, 1), some (.invokevirtual 26956, 3), none, none, some (.ifCond .eq 15, 3)],
  [none, none, some (.aload_n 0, 1), some (.iload 4, 2), none, some (.iconst 0, 1), some (.bipush 8, 2), none, some (.invokevirtual 26956, 3), none, none, some (.ifCond .ne 6, 3), none, none, some (.bipush (-2), 2), none],
  [some (.ireturn, 1), some (.aload_n 0, 1), some (.getfield 823, 3), none, none, some (.iload_n 1, 1), some (.iaload, 1), some (.ifCond .lt 16, 3), none, none, some (.aload_n 0, 1), some (.getfield 823, 3), none, none, some (.iload_n 1, 1), some (.iaload, 1)],
  [some (.iload_n 2, 1), some (.if_icmp .eq 6, 3), none, none, some (.bipush (-13), 2), none, some (.ireturn, 1), some (.aload_n 0, 1), some (.getfield 823, 3), none, none, some (.iload_n 1, 1), some (.iaload, 1), some (.ifCond .ge 6, 3), none, none],
  [some (.bipush (-11), 2), none, some (.ireturn, 1), some (.iconst 0, 1), some (.istore 5, 2), none, some (.iconst 0, 1), some (.istore 6, 2), none, some (.iload 6, 2), none, some (.iload 4, 2), none, some (.if_icmp .ge 64, 3), none, none],
  [some (.iload_n 3, 1), some (.ifCond .lt 18, 3), none, none, some (.iload_n 3, 1), some (.aload_n 0, 1), some (.getfield 824, 3), none, none, some (.iload_n 1, 1), some (.iaload, 1), some (.iload 6, 2), none, some (.isub, 1), some (.iconst 1, 1), some (.isub, 1)],
  [some (.if_icmp .le 6, 3), none, none, some (.bipush (-12), 2), none, some (.ireturn, 1), some (.iload 5, 2), none, some (.aload_n 0, 1), some (.iload 6, 2), none, some (.aload_n 0, 1), some (.getfield 825, 3), none, none, some (.bipush 40, 2)],
  [none, some (.iload_n 1, 1), some (.imul, 1), some (.iload_n 3, 1), some (.iadd, 1), some (.iload 6, 2), none, some (.iadd, 1), some (.iaload, 1), some (.invokevirtual 39740, 3), none, none, some (.ifCond .lt 7, 3), none, none, some (.iconst 1, 1)],
  [some (.goto 4, 3), none, none, some (.iconst 0, 1), some (.iadd, 1), some (.istore 5, 2), none, some (.iinc 6 1, 3), none, none, some (.goto (-65), 3), none, none, some (.iload 5, 2), none, some (.ireturn, 1)]])
def mc_X12_settle : am_M := (99, false, [
  [some (.aload_n 0, 1), some (.getfield 798, 3), none, none, some (.ifCond .le 86, 3), none, none, some (.aload_n 0, 1), some (.aload_n 0, 1), some (.getfield 796, 3), none, none, some (.aload_n 0, 1), some (.getfield 798, 3), none, none],
  [some (.iconst 1, 1), some (.isub, 1), some (.iaload, 1), some (.invokevirtual 37420, 3), none, none, some (.iload_n 1, 1), some (.if_icmp .lt 67, 3), none, none, some (.aload_n 0, 1), some (.dup, 1), some (.getfield 798, 3), none, none, some (.iconst 1, 1)],
  [some (.isub, 1), some (.putfield 798, 3), none, none, some (.aload_n 0, 1), some (.aload_n 0, 1), some (.getfield 796, 3), none, none, some (.aload_n 0, 1), some (.getfield 798, 3), none, none, some (.iaload, 1), some (.invokevirtual 36908, 3), none],
  [none, some (.aload_n 0, 1), some (.getfield 796, 3), none, none, some (.aload_n 0, 1), some (.getfield 798, 3), none, none, some (.iaload, 1), some (.bipush (-3), 2), none, some (.if_icmp .eq 17, 3), none, none, some (.aload_n 0, 1)],
  [some (.getfield 796, 3), none, none, some (.aload_n 0, 1), some (.getfield 798, 3), none, none, some (.iaload, 1), some (.bipush (-9), 2), none, some (.if_icmp .ne (-74), 3), none, none, some (.aload_n 0, 1), some (.dup, 1), some (.getfield 800, 3)],
  [none, none, some (.iconst 1, 1), some (.isub, 1), some (.putfield 800, 3), none, none, some (.goto (-87), 3), none, none, some (.return_, 1)]])
def mc_X12_settling : am_M := (99, false, [
  [some (.aload_n 0, 1), some (.iload_n 1, 1), some (.iconst 0, 1), some (.bipush 8, 2), none, some (.invokevirtual 26956, 3), none, none, some (.ifCond .eq 13, 3), none, none, some (.aload_n 0, 1), some (.iload_n 2, 1), some (.iconst 0, 1), some (.iconst 2, 1), some (.invokevirtual 26956, 3)],
  [none, none, some (.ifCond .ne 6, 3), none, none, some (.bipush (-2), 2), none, some (.ireturn, 1), some (.aload_n 0, 1), some (.iconst 2, 1), some (.invokevirtual 25900, 3), none, none, some (.istore_n 3, 1), some (.iconst 0, 1), some (.istore 4, 2)],
  [none, some (.iconst 1, 1), some (.istore 5, 2), none, some (.iload 5, 2), none, some (.iconst 1, 1), some (.aload_n 0, 1), some (.getfield 814, 3), none, none, some (.ishl, 1), some (.if_icmp .ge 48, 3), none, none, some (.aload_n 0, 1)],
  [some (.iload 5, 2), none, some (.invokevirtual 25644, 3), none, none, some (.ifCond .eq 33, 3), none, none, some (.aload_n 0, 1), some (.aload_n 0, 1), some (.iload 5, 2), none, some (.invokevirtual 42540, 3), none, none, some (.invokevirtual 35372, 3)],
  [none, none, some (.iload_n 1, 1), some (.if_icmp .lt 19, 3), none, none, some (.aload_n 0, 1), some (.iload 5, 2), none, some (.iload 4, 2), none, some (.iload_n 3, 1), some (.invokevirtual 27980, 3), none, none, some (.ifCond .eq 7, 3)],
  [none, none, some (.iload 5, 2), none, some (.istore 4, 2), none, some (.iinc 5 1, 3), none, none, some (.goto (-53), 3), none, none, some (.iload_n 2, 1), some (.ifCond .ne 8, 3), none, none],
  [some (.iload 4, 2), none, some (.goto 24, 3), none, none, some (.iload_n 2, 1), some (.iconst 1, 1), some (.if_icmp .ne 13, 3), none, none, some (.aload_n 0, 1), some (.iload 4, 2), none, some (.iload_n 3, 1), some (.invokevirtual 43324, 3), none],
  [none, some (.goto 9, 3), none, none, some (.aload_n 0, 1), some (.iload 4, 2), none, some (.invokevirtual 42540, 3), none, none, some (.ireturn, 1)]])
def mc_X12_sheet : am_M := (99, false, [
  [some (.aload_n 0, 1), some (.iload_n 1, 1), some (.invokevirtual 30508, 3), none, none, some (.ifCond .eq 23, 3), none, none, some (.aload_n 0, 1), some (.iload_n 2, 1), some (.iconst (-1), 1), some (.iconst 2, 1), some (.invokevirtual 26956, 3), none, none, some (.ifCond .eq 13, 3)],
  [none, none, some (.iload_n 2, 1), some (.ifCond .lt 12, 3), none, none, some (.iload_n 3, 1), some (.bipush 40, 2), none, some (.if_icmp .le 6, 3), none, none, some (.bipush (-2), 2), none, some (.ireturn, 1), some (.iload_n 2, 1)],
  [some (.ifCond .lt 10, 3), none, none, some (.iload_n 3, 1), some (.ifCond .ge 6, 3), none, none, some (.bipush (-14), 2), none, some (.ireturn, 1), some (.aload_n 0, 1), some (.getfield 823, 3), none, none, some (.iload_n 1, 1), some (.iload_n 2, 1)],
  [some (.iastore, 1), some (.aload_n 0, 1), some (.getfield 824, 3), none, none, some (.iload_n 1, 1), some (.iload_n 2, 1), some (.ifCond .ge 7, 3), none, none, some (.iconst 0, 1), some (.goto 4, 3), none, none, some (.iload_n 3, 1), some (.iastore, 1)],
  [some (.iconst 0, 1), some (.istore 4, 2), none, some (.iload 4, 2), none, some (.bipush 40, 2), none, some (.if_icmp .ge 22, 3), none, none, some (.aload_n 0, 1), some (.getfield 825, 3), none, none, some (.bipush 40, 2), none],
  [some (.iload_n 1, 1), some (.imul, 1), some (.iload 4, 2), none, some (.iadd, 1), some (.iconst 0, 1), some (.iastore, 1), some (.iinc 4 1, 3), none, none, some (.goto (-23), 3), none, none, some (.iconst 1, 1), some (.ireturn, 1)]])
def mc_X12_side : am_M := (99, false, [
  [some (.aload_n 0, 1), some (.iload_n 1, 1), some (.invokevirtual 29228, 3), none, none, some (.ifCond .eq 20, 3), none, none, some (.aload_n 0, 1), some (.iload_n 2, 1), some (.invokevirtual 28460, 3), none, none, some (.ifCond .eq 12, 3), none, none],
  [some (.aload_n 0, 1), some (.iload_n 1, 1), some (.iload_n 2, 1), some (.invokevirtual 41532, 3), none, none, some (.goto 5, 3), none, none, some (.bipush (-2), 2), none, some (.ireturn, 1)]])
def mc_X12_sideOf : am_M := (99, false, [
  [some (.iconst (-1), 1), some (.istore_n 3, 1), some (.iconst 0, 1), some (.istore 4, 2), none, some (.iload 4, 2), none, some (.aload_n 0, 1), some (.getfield 771, 3), none, none, some (.if_icmp .ge 54, 3), none, none, some (.aload_n 0, 1), some (.getfield 775, 3)],
  [none, none, some (.iload 4, 2), none, some (.iaload, 1), some (.iload_n 1, 1), some (.if_icmp .ne 37, 3), none, none, some (.aload_n 0, 1), some (.getfield 776, 3), none, none, some (.iload 4, 2), none, some (.iaload, 1)],
  [some (.iload_n 2, 1), some (.if_icmp .gt 26, 3), none, none, some (.iload_n 3, 1), some (.ifCond .lt 19, 3), none, none, some (.aload_n 0, 1), some (.getfield 776, 3), none, none, some (.iload 4, 2), none, some (.iaload, 1), some (.aload_n 0, 1)],
  [some (.getfield 776, 3), none, none, some (.iload_n 3, 1), some (.iaload, 1), some (.if_icmp .lt 6, 3), none, none, some (.iload 4, 2), none, some (.istore_n 3, 1), some (.iinc 4 1, 3), none, none, some (.goto (-57), 3), none],
  [none, some (.iload_n 3, 1), some (.ifCond .ge 7, 3), none, none, some (.iconst 0, 1), some (.goto 9, 3), none, none, some (.aload_n 0, 1), some (.getfield 777, 3), none, none, some (.iload_n 3, 1), some (.iaload, 1), some (.ireturn, 1)]])
def mc_X12_signOf : am_M := (99, false, [
  [some (.aload_n 0, 1), some (.iconst 2, 1), some (.invokevirtual 28972, 3), none, none, some (.ifCond .eq 7, 3), none, none, some (.iconst (-1), 1), some (.goto 87, 3), none, none, some (.aload_n 0, 1), some (.iconst 3, 1), some (.invokevirtual 28972, 3), none],
  [none, some (.ifCond .eq 8, 3), none, none, some (.bipush (-2), 2), none, some (.goto 74, 3), none, none, some (.aload_n 0, 1), some (.bipush 60, 2), none, some (.invokevirtual 31020, 3), none, none, some (.ifCond .eq 8, 3)],
  [none, none, some (.bipush (-4), 2), none, some (.goto 60, 3), none, none, some (.aload_n 0, 1), some (.bipush 61, 2), none, some (.invokevirtual 31020, 3), none, none, some (.ifCond .eq 8, 3), none, none],
  [some (.bipush (-5), 2), none, some (.goto 46, 3), none, none, some (.aload_n 0, 1), some (.bipush 43, 2), none, some (.invokevirtual 31020, 3), none, none, some (.ifCond .eq 8, 3), none, none, some (.bipush (-6), 2), none],
  [some (.goto 32, 3), none, none, some (.aload_n 0, 1), some (.bipush 45, 2), none, some (.invokevirtual 31020, 3), none, none, some (.ifCond .eq 8, 3), none, none, some (.bipush (-7), 2), none, some (.goto 18, 3), none],
  [none, some (.aload_n 0, 1), some (.bipush 42, 2), none, some (.invokevirtual 31020, 3), none, none, some (.ifCond .eq 8, 3), none, none, some (.bipush (-8), 2), none, some (.goto 4, 3), none, none, some (.iconst 0, 1)],
  [some (.ireturn, 1)]])
def mc_X12_soundBy : am_M := (99, false, [
  [some (.iconst 0, 1), some (.istore_n 2, 1), some (.iconst 0, 1), some (.istore_n 3, 1), some (.iload_n 3, 1), some (.aload_n 0, 1), some (.getfield 778, 3), none, none, some (.if_icmp .ge 29, 3), none, none, some (.iload_n 2, 1), some (.aload_n 0, 1), some (.iload_n 1, 1), some (.iload_n 3, 1)],
  [some (.iconst 0, 1), some (.invokevirtual 20556, 3), none, none, some (.ifCond .eq 9, 3), none, none, some (.iconst 1, 1), some (.iload_n 3, 1), some (.ishl, 1), some (.goto 4, 3), none, none, some (.iconst 0, 1), some (.ior, 1), some (.istore_n 2, 1)],
  [some (.iinc 3 1, 3), none, none, some (.goto (-31), 3), none, none, some (.iload_n 2, 1), some (.ireturn, 1)]])
def mc_X12_taken : am_M := (99, false, [
  [some (.aload_n 0, 1), some (.iload_n 2, 1), some (.iconst 0, 1), some (.iconst 5, 1), some (.invokevirtual 26956, 3), none, none, some (.ifCond .ne 6, 3), none, none, some (.bipush (-2), 2), none, some (.ireturn, 1), some (.aload_n 0, 1), some (.iload_n 1, 1), some (.invokevirtual 27692, 3)],
  [none, none, some (.ifCond .ne 6, 3), none, none, some (.bipush (-11), 2), none, some (.ireturn, 1), some (.aload_n 0, 1), some (.aload_n 0, 1), some (.getfield 779, 3), none, none, some (.iload_n 1, 1), some (.iaload, 1), some (.iload_n 2, 1)],
  [some (.invokevirtual 31804, 3), none, none, some (.ifCond .eq 11, 3), none, none, some (.aload_n 0, 1), some (.iload_n 1, 1), some (.invokevirtual 37676, 3), none, none, some (.goto 5, 3), none, none, some (.bipush (-13), 2), none],
  [some (.ireturn, 1)]])
def mc_X12_takersOf : am_M := (99, false, [
  [some (.iconst 0, 1), some (.istore_n 2, 1), some (.iconst 0, 1), some (.istore_n 3, 1), some (.iload_n 3, 1), some (.bipush 8, 2), none, some (.if_icmp .ge 76, 3), none, none, some (.iconst 0, 1), some (.istore 4, 2), none, some (.iconst 0, 1), some (.istore 5, 2), none],
  [some (.iload 5, 2), none, some (.aload_n 0, 1), some (.getfield 814, 3), none, none, some (.if_icmp .ge 40, 3), none, none, some (.iload 4, 2), none, some (.iload_n 1, 1), some (.iload 5, 2), none, some (.ishr, 1), some (.iconst 1, 1)],
  [some (.iand, 1), some (.iconst 1, 1), some (.if_icmp .ne 18, 3), none, none, some (.aload_n 0, 1), some (.getfield 816, 3), none, none, some (.bipush 8, 2), none, some (.iload 5, 2), none, some (.imul, 1), some (.iload_n 3, 1), some (.iadd, 1)],
  [some (.iaload, 1), some (.goto 4, 3), none, none, some (.iconst 0, 1), some (.iadd, 1), some (.istore 4, 2), none, some (.iinc 5 1, 3), none, none, some (.goto (-43), 3), none, none, some (.iload_n 2, 1), some (.iload 4, 2)],
  [none, some (.ifCond .ge 7, 3), none, none, some (.iconst 0, 1), some (.goto 6, 3), none, none, some (.iconst 1, 1), some (.iload_n 3, 1), some (.ishl, 1), some (.ior, 1), some (.istore_n 2, 1), some (.iinc 3 1, 3), none, none],
  [some (.goto (-76), 3), none, none, some (.iload_n 2, 1), some (.ireturn, 1)]])
def mc_X12_text : am_M := (99, false, [
  [some (.aload_n 0, 1), some (.getfield 788, 3), none, none, some (.bipush 6, 2), none, some (.if_icmp .ne 6, 3), none, none, some (.bipush (-4), 2), none, some (.ireturn, 1), some (.aload_n 0, 1), some (.invokevirtual 31260, 3), none, none],
  [some (.istore_n 1, 1), some (.aload_n 0, 1), some (.getfield 795, 3), none, none, some (.istore_n 2, 1), some (.aload_n 0, 1), some (.iconst 0, 1), some (.putfield 787, 3), none, none, some (.iload_n 1, 1), some (.ifCond .ne 8, 3), none, none, some (.bipush (-100), 2)],
  [none, some (.iload_n 2, 1), some (.isub, 1), some (.ireturn, 1), some (.aload_n 0, 1), some (.dup, 1), some (.getfield 788, 3), none, none, some (.iconst 1, 1), some (.iadd, 1), some (.putfield 788, 3), none, none, some (.aload_n 0, 1), some (.getfield 788, 3)],
  [none, none, some (.iconst 1, 1), some (.isub, 1), some (.ireturn, 1)]])
def mc_X12_turn : am_M := (99, false, [
  [some (.aload_n 0, 1), some (.iload_n 1, 1), some (.iload_n 2, 1), some (.iload_n 3, 1), some (.invokevirtual 31564, 3), none, none, some (.ifCond .ne 6, 3), none, none, some (.bipush (-2), 2), none, some (.ireturn, 1), some (.aload_n 0, 1), some (.getfield 771, 3), none],
  [none, some (.bipush 30, 2), none, some (.if_icmp .ne 6, 3), none, none, some (.bipush (-4), 2), none, some (.ireturn, 1), some (.aload_n 0, 1), some (.iload_n 1, 1), some (.iload_n 2, 1), some (.iload_n 3, 1), some (.invokevirtual 34636, 3), none, none],
  [some (.aload_n 0, 1), some (.getfield 771, 3), none, none, some (.iconst 1, 1), some (.isub, 1), some (.ireturn, 1)]])
def mc_X12_undoneBy : am_M := (99, false, [
  [some (.iconst 0, 1), some (.istore_n 3, 1), some (.iconst 0, 1), some (.istore 4, 2), none, some (.iload 4, 2), none, some (.aload_n 0, 1), some (.getfield 814, 3), none, none, some (.if_icmp .ge 33, 3), none, none, some (.iload_n 3, 1), some (.iload_n 1, 1)],
  [some (.iload 4, 2), none, some (.ishr, 1), some (.iconst 1, 1), some (.iand, 1), some (.iconst 1, 1), some (.if_icmp .ne 13, 3), none, none, some (.aload_n 0, 1), some (.getfield 815, 3), none, none, some (.iload 4, 2), none, some (.iaload, 1)],
  [some (.goto 4, 3), none, none, some (.iconst 0, 1), some (.ior, 1), some (.istore_n 3, 1), some (.iinc 4 1, 3), none, none, some (.goto (-36), 3), none, none, some (.aload_n 0, 1), some (.iload_n 3, 1), some (.iload_n 2, 1), some (.iand, 1)],
  [some (.invokevirtual 35372, 3), none, none, some (.ireturn, 1)]])
def mc_X12_wonBy : am_M := (99, false, [
  [some (.iload_n 1, 1), some (.istore_n 2, 1), some (.iconst 0, 1), some (.istore_n 3, 1), some (.iconst 0, 1), some (.istore 4, 2), none, some (.iconst 0, 1), some (.istore 5, 2), none, some (.iload 5, 2), none, some (.aload_n 0, 1), some (.getfield 822, 3), none, none],
  [some (.if_icmp .ge 85, 3), none, none, some (.aload_n 0, 1), some (.getfield 769, 3), none, none, some (.bipush 8, 2), none, some (.iload_n 2, 1), some (.imul, 1), some (.aload_n 0, 1), some (.getfield 821, 3), none, none, some (.aload_n 0, 1)],
  [some (.getfield 819, 3), none, none, some (.iload 5, 2), none, some (.iaload, 1), some (.iaload, 1), some (.iadd, 1), some (.iaload, 1), some (.istore 6, 2), none, some (.iload 6, 2), none, some (.sipush 999, 3), none, none],
  [some (.if_icmp .lt 6, 3), none, none, some (.iload 4, 2), none, some (.ireturn, 1), some (.iload_n 3, 1), some (.iload 6, 2), none, some (.iadd, 1), some (.istore_n 3, 1), some (.aload_n 0, 1), some (.getfield 821, 3), none, none, some (.aload_n 0, 1)],
  [some (.getfield 819, 3), none, none, some (.iload 5, 2), none, some (.iaload, 1), some (.iaload, 1), some (.istore_n 2, 1), some (.iload 4, 2), none, some (.iload_n 3, 1), some (.aload_n 0, 1), some (.getfield 818, 3), none, none, some (.iload_n 2, 1)],
  [some (.iaload, 1), some (.if_icmp .gt 7, 3), none, none, some (.iconst 1, 1), some (.goto 4, 3), none, none, some (.iconst 0, 1), some (.iadd, 1), some (.istore 4, 2), none, some (.iinc 3 3, 3), none, none, some (.iinc 5 1, 3)],
  [none, none, some (.goto (-88), 3), none, none, some (.iload 4, 2), none, some (.ireturn, 1)]])
def mc_X12_wordToken : am_M := (99, false, [
  [some (.aload_n 0, 1), some (.getfield 792, 3), none, none, some (.aload_n 0, 1), some (.getfield 787, 3), none, none, some (.if_icmp .ge 32, 3), none, none, some (.aload_n 0, 1), some (.aload_n 0, 1), some (.getfield 786, 3), none, none],
  [some (.aload_n 0, 1), some (.getfield 792, 3), none, none, some (.baload, 1), some (.invokevirtual 29484, 3), none, none, some (.ifCond .eq 16, 3), none, none, some (.aload_n 0, 1), some (.dup, 1), some (.getfield 792, 3), none, none],
  [some (.iconst 1, 1), some (.iadd, 1), some (.putfield 792, 3), none, none, some (.goto (-37), 3), none, none, some (.aload_n 0, 1), some (.iconst 2, 1), some (.putfield 793, 3), none, none, some (.aload_n 0, 1), some (.aload_n 0, 1), some (.ldc2_w 370116, 3)],
  [none, none, some (.invokevirtual 32044, 3), none, none, some (.ifCond .eq 7, 3), none, none, some (.iconst 0, 1), some (.goto 74, 3), none, none, some (.aload_n 0, 1), some (.ldc2_w 4153, 3), none, none],
  [some (.invokevirtual 32044, 3), none, none, some (.ifCond .eq 7, 3), none, none, some (.iconst 1, 1), some (.goto 60, 3), none, none, some (.aload_n 0, 1), some (.ldc2_w 591307, 3), none, none, some (.invokevirtual 32044, 3), none],
  [none, some (.ifCond .eq 7, 3), none, none, some (.iconst 2, 1), some (.goto 46, 3), none, none, some (.aload_n 0, 1), some (.ldc2_w 624037, 3), none, none, some (.invokevirtual 32044, 3), none, none, some (.ifCond .eq 7, 3)],
  [none, none, some (.iconst 3, 1), some (.goto 32, 3), none, none, some (.aload_n 0, 1), some (.ldc2_w 8435955, 3), none, none, some (.invokevirtual 32044, 3), none, none, some (.ifCond .eq 7, 3), none, none],
  [some (.iconst 4, 1), some (.goto 18, 3), none, none, some (.aload_n 0, 1), some (.ldc2_w 6334088, 3), none, none, some (.invokevirtual 32044, 3), none, none, some (.ifCond .eq 7, 3), none, none, some (.iconst 5, 1), some (.goto 4, 3)],
  [none, none, some (.iconst (-1), 1), some (.putfield 794, 3), none, none, some (.aload_n 0, 1), some (.getfield 794, 3), none, none, some (.ifCond .lt 4, 3), none, none, some (.return_, 1), some (.aload_n 0, 1), some (.iconst 3, 1)],
  [some (.putfield 793, 3), none, none, some (.aload_n 0, 1), some (.aload_n 0, 1), some (.ldc2_w 2406547, 3), none, none, some (.invokevirtual 32044, 3), none, none, some (.ifCond .eq 7, 3), none, none, some (.iconst 0, 1), some (.goto 60, 3)],
  [none, none, some (.aload_n 0, 1), some (.ldc2_w 19978404, 3), none, none, some (.invokevirtual 32044, 3), none, none, some (.ifCond .eq 7, 3), none, none, some (.iconst 1, 1), some (.goto 46, 3), none, none],
  [some (.aload_n 0, 1), some (.ldc2_w 498, 3), none, none, some (.invokevirtual 32044, 3), none, none, some (.ifCond .eq 7, 3), none, none, some (.iconst 2, 1), some (.goto 32, 3), none, none, some (.aload_n 0, 1), some (.ldc2_w 1476, 3)],
  [none, none, some (.invokevirtual 32044, 3), none, none, some (.ifCond .eq 7, 3), none, none, some (.iconst 3, 1), some (.goto 18, 3), none, none, some (.aload_n 0, 1), some (.ldc2_w 14836, 3), none, none],
  [some (.invokevirtual 32044, 3), none, none, some (.ifCond .eq 7, 3), none, none, some (.iconst 4, 1), some (.goto 4, 3), none, none, some (.iconst (-1), 1), some (.putfield 794, 3), none, none, some (.aload_n 0, 1), some (.getfield 794, 3)],
  [none, none, some (.ifCond .ge 8, 3), none, none, some (.aload_n 0, 1), some (.iconst 5, 1), some (.putfield 793, 3), none, none, some (.return_, 1)]])
def mc_X12_work : am_M := (99, false, [
  [some (.iconst 2, 1), some (.iload_n 1, 1), some (.imul, 1), some (.iload_n 2, 1), some (.iadd, 1), some (.istore_n 3, 1), some (.iconst 0, 1), some (.istore 4, 2), none, some (.iconst 0, 1), some (.istore 5, 2), none, some (.iload 5, 2), none, some (.aload_n 0, 1), some (.getfield 790, 3)],
  [none, none, some (.iload_n 3, 1), some (.iaload, 1), some (.if_icmp .ge 163, 3), none, none, some (.aload_n 0, 1), some (.getfield 791, 3), none, none, some (.sipush 160, 3), none, none, some (.iload_n 3, 1), some (.imul, 1)],
  [some (.iload 5, 2), none, some (.iadd, 1), some (.iaload, 1), some (.istore 6, 2), none, some (.iload 6, 2), none, some (.ifCond .lt 40, 3), none, none, some (.aload_n 0, 1), some (.getfield 803, 3), none, none, some (.iload 4, 2)],
  [none, some (.iload 6, 2), none, some (.sipush 10000, 3), none, none, some (.if_icmp .ge 8, 3), none, none, some (.iload 6, 2), none, some (.goto 14, 3), none, none, some (.aload_n 0, 1), some (.getfield 802, 3)],
  [none, none, some (.iload 6, 2), none, some (.sipush 10000, 3), none, none, some (.isub, 1), some (.iaload, 1), some (.iastore, 1), some (.iinc 4 1, 3), none, none, some (.goto 100, 3), none, none],
  [some (.iload 6, 2), none, some (.bipush (-3), 2), none, some (.if_icmp .eq 10, 3), none, none, some (.iload 6, 2), none, some (.bipush (-9), 2), none, some (.if_icmp .ne 52, 3), none, none, some (.aload_n 0, 1), some (.getfield 803, 3)],
  [none, none, some (.iload 4, 2), none, some (.iconst 1, 1), some (.isub, 1), some (.iload 6, 2), none, some (.bipush (-9), 2), none, some (.if_icmp .ne 16, 3), none, none, some (.aload_n 0, 1), some (.getfield 803, 3), none],
  [none, some (.iload 4, 2), none, some (.iconst 1, 1), some (.isub, 1), some (.iaload, 1), some (.ineg, 1), some (.goto 20, 3), none, none, some (.aload_n 0, 1), some (.getfield 803, 3), none, none, some (.iload 4, 2), none],
  [some (.iconst 1, 1), some (.isub, 1), some (.iaload, 1), some (.ifCond .ne 7, 3), none, none, some (.iconst 1, 1), some (.goto 4, 3), none, none, some (.iconst 0, 1), some (.iastore, 1), some (.goto 37, 3), none, none, some (.iinc 4 (-1), 3)],
  [none, none, some (.aload_n 0, 1), some (.getfield 803, 3), none, none, some (.iload 4, 2), none, some (.iconst 1, 1), some (.isub, 1), some (.aload_n 0, 1), some (.iload 6, 2), none, some (.aload_n 0, 1), some (.getfield 803, 3), none],
  [none, some (.iload 4, 2), none, some (.iconst 1, 1), some (.isub, 1), some (.iaload, 1), some (.aload_n 0, 1), some (.getfield 803, 3), none, none, some (.iload 4, 2), none, some (.iaload, 1), some (.invokevirtual 20812, 3), none, none],
  [some (.iastore, 1), some (.iinc 5 1, 3), none, none, some (.goto (-168), 3), none, none, some (.aload_n 0, 1), some (.getfield 803, 3), none, none, some (.iconst 0, 1), some (.iaload, 1), some (.ireturn, 1)]])
def mc_X12_worth : am_M := (99, false, [
  [some (.aload_n 0, 1), some (.iload_n 1, 1), some (.invokevirtual 28204, 3), none, none, some (.ifCond .eq 23, 3), none, none, some (.aload_n 0, 1), some (.iload_n 2, 1), some (.invokevirtual 29228, 3), none, none, some (.ifCond .eq 15, 3), none, none],
  [some (.aload_n 0, 1), some (.iload_n 3, 1), some (.bipush (-99), 2), none, some (.bipush 99, 2), none, some (.invokevirtual 26956, 3), none, none, some (.ifCond .ne 7, 3), none, none, some (.sipush (-1000), 3), none, none, some (.ireturn, 1)],
  [some (.aload_n 0, 1), some (.getfield 816, 3), none, none, some (.bipush 8, 2), none, some (.iload_n 1, 1), some (.imul, 1), some (.iload_n 2, 1), some (.iadd, 1), some (.iaload, 1), some (.istore 4, 2), none, some (.aload_n 0, 1), some (.getfield 816, 3), none],
  [none, some (.bipush 8, 2), none, some (.iload_n 1, 1), some (.imul, 1), some (.iload_n 2, 1), some (.iadd, 1), some (.iload_n 3, 1), some (.iastore, 1), some (.iload 4, 2), none, some (.ireturn, 1)]])
def mc_X1_addText : am_M := (99, false, [
  [some (.aload_n 0, 1), some (.getfield 67, 3), none, none, some (.aload_n 0, 1), some (.getfield 69, 3), none, none, some (.aload_n 1, 1), some (.aastore, 1), some (.aload_n 0, 1), some (.getfield 68, 3), none, none, some (.aload_n 0, 1), some (.getfield 69, 3)],
  [none, none, some (.aload_n 2, 1), some (.aastore, 1), some (.aload_n 0, 1), some (.dup, 1), some (.getfield 69, 3), none, none, some (.dup_x1, 1), some (.iconst 1, 1), some (.iadd, 1), some (.putfield 69, 3), none, none, some (.ireturn, 1)]])
def mc_X1_changedBy : am_M := (99, false, [
  [some (.iconst 0, 1), some (.istore 4, 2), none, some (.iconst 0, 1), some (.istore 5, 2), none, some (.iload 5, 2), none, some (.aload_n 0, 1), some (.getfield 66, 3), none, none, some (.getfield 135, 3), none, none, some (.if_icmp .ge 97, 3)],
  [none, none, some (.aload_n 0, 1), some (.iload 5, 2), none, some (.invokevirtual 47137, 3), none, none, some (.iload_n 1, 1), some (.if_icmp .eq 6, 3), none, none, some (.goto 78, 3), none, none, some (.aload_n 0, 1)],
  [some (.getfield 64, 3), none, none, some (.iload_n 1, 1), some (.aload_n 0, 1), some (.getfield 66, 3), none, none, some (.getfield 131, 3), none, none, some (.iload 5, 2), none, some (.iaload, 1), some (.invokevirtual 55350, 3), none],
  [none, some (.istore 6, 2), none, some (.aload_n 0, 1), some (.getfield 64, 3), none, none, some (.iload_n 1, 1), some (.aload_n 0, 1), some (.getfield 66, 3), none, none, some (.getfield 131, 3), none, none, some (.iload 5, 2)],
  [none, some (.iaload, 1), some (.iload_n 2, 1), some (.iload_n 3, 1), some (.invokevirtual 55126, 3), none, none, some (.istore 7, 2), none, some (.iload 4, 2), none, some (.iload 6, 2), none, some (.iload 7, 2), none, some (.if_icmp .eq 23, 3)],
  [none, none, some (.aload_n 0, 1), some (.iload 5, 2), none, some (.iload 6, 2), none, some (.iload 7, 2), none, some (.invokevirtual 47937, 3), none, none, some (.ifCond .eq 10, 3), none, none, some (.iconst 1, 1)],
  [some (.iload 5, 2), none, some (.ishl, 1), some (.goto 4, 3), none, none, some (.iconst 0, 1), some (.ior, 1), some (.istore 4, 2), none, some (.iinc 5 1, 3), none, none, some (.goto (-103), 3), none, none],
  [some (.iload 4, 2), none, some (.ireturn, 1)]])
def mc_X1_firmAmong : am_M := (99, false, [
  [some (.iconst 0, 1), some (.istore_n 3, 1), some (.iconst 0, 1), some (.istore 4, 2), none, some (.iload 4, 2), none, some (.bipush 24, 2), none, some (.if_icmp .ge 32, 3), none, none, some (.iload_n 1, 1), some (.iload_n 2, 1), some (.aload_n 0, 1), some (.iload_n 3, 1)],
  [some (.invokevirtual 46113, 3), none, none, some (.ior, 1), some (.iand, 1), some (.istore 5, 2), none, some (.iload 5, 2), none, some (.iload_n 3, 1), some (.if_icmp .ne 6, 3), none, none, some (.goto 12, 3), none, none],
  [some (.iload 5, 2), none, some (.istore_n 3, 1), some (.iinc 4 1, 3), none, none, some (.goto (-33), 3), none, none, some (.iload_n 3, 1), some (.ireturn, 1)]])
def mc_X1_forceOn : am_M := (99, false, [
  [some (.iconst 0, 1), some (.istore_n 3, 1), some (.iconst 0, 1), some (.istore 4, 2), none, some (.iload 4, 2), none, some (.aload_n 0, 1), some (.getfield 66, 3), none, none, some (.getfield 135, 3), none, none, some (.if_icmp .ge 68, 3), none],
  [none, some (.iload_n 1, 1), some (.iload 4, 2), none, some (.invokestatic 9775, 3), none, none, some (.ifCond .eq 21, 3), none, none, some (.aload_n 0, 1), some (.getfield 66, 3), none, none, some (.getfield 128, 3), none],
  [none, some (.iload 4, 2), none, some (.iaload, 1), some (.iconst 1, 1), some (.if_icmp .eq 7, 3), none, none, some (.iconst 1, 1), some (.goto 4, 3), none, none, some (.iconst 0, 1), some (.istore 5, 2), none, some (.iload_n 3, 1)],
  [some (.iload 5, 2), none, some (.ifCond .eq 23, 3), none, none, some (.aload_n 0, 1), some (.getfield 66, 3), none, none, some (.iload 4, 2), none, some (.iload_n 2, 1), some (.invokevirtual 49970, 3), none, none, some (.ifCond .eq 10, 3)],
  [none, none, some (.iconst 1, 1), some (.iload 4, 2), none, some (.ishl, 1), some (.goto 4, 3), none, none, some (.iconst 0, 1), some (.ior, 1), some (.istore_n 3, 1), some (.iinc 4 1, 3), none, none, some (.goto (-74), 3)],
  [none, none, some (.iconst 0, 1), some (.istore 4, 2), none, some (.iload 4, 2), none, some (.bipush 6, 2), none, some (.if_icmp .ge 36, 3), none, none, some (.aload_n 0, 1), some (.iload_n 1, 1), some (.iload 4, 2), none],
  [some (.iload_n 2, 1), some (.invokevirtual 47425, 3), none, none, some (.istore 5, 2), none, some (.iload_n 3, 1), some (.iload 5, 2), none, some (.iconst (-1), 1), some (.if_icmp .eq 10, 3), none, none, some (.iconst 1, 1), some (.iload 5, 2), none],
  [some (.ishl, 1), some (.goto 4, 3), none, none, some (.iconst 0, 1), some (.ior, 1), some (.istore_n 3, 1), some (.iinc 4 1, 3), none, none, some (.goto (-37), 3), none, none, some (.iload_n 3, 1), some (.ireturn, 1)]])
def mc_X1_goodAmong : am_M := (99, false, [
  [some (.iload_n 1, 1), some (.istore_n 3, 1), some (.iconst 0, 1), some (.istore 4, 2), none, some (.iload 4, 2), none, some (.bipush 24, 2), none, some (.if_icmp .ge 32, 3), none, none, some (.iload_n 3, 1), some (.iload_n 2, 1), some (.aload_n 0, 1), some (.iload_n 3, 1)],
  [some (.invokevirtual 46113, 3), none, none, some (.ior, 1), some (.iand, 1), some (.istore 5, 2), none, some (.iload 5, 2), none, some (.iload_n 3, 1), some (.if_icmp .ne 6, 3), none, none, some (.goto 12, 3), none, none],
  [some (.iload 5, 2), none, some (.istore_n 3, 1), some (.iinc 4 1, 3), none, none, some (.goto (-33), 3), none, none, some (.iload_n 3, 1), some (.ireturn, 1)]])
def mc_X1_goodUnder : am_M := (99, false, [
  [some (.aload_n 0, 1), some (.aload_n 0, 1), some (.iload_n 1, 1), some (.iconst 0, 1), some (.invokevirtual 48177, 3), none, none, some (.aload_n 0, 1), some (.iload_n 1, 1), some (.iconst 1, 1), some (.invokevirtual 48177, 3), none, none, some (.invokevirtual 45617, 3), none, none],
  [some (.ireturn, 1)]])
def mc_X1_hangingWithin : am_M := (99, false, [
  [some (.iconst 0, 1), some (.istore_n 2, 1), some (.iconst 0, 1), some (.istore_n 3, 1), some (.iload_n 3, 1), some (.aload_n 0, 1), some (.getfield 66, 3), none, none, some (.getfield 135, 3), none, none, some (.if_icmp .ge 35, 3), none, none, some (.iload_n 2, 1)],
  [some (.aload_n 0, 1), some (.getfield 66, 3), none, none, some (.getfield 133, 3), none, none, some (.iload_n 3, 1), some (.iaload, 1), some (.iload_n 1, 1), some (.iconst (-1), 1), some (.ixor, 1), some (.iand, 1), some (.ifCond .ne 9, 3), none, none],
  [some (.iconst 1, 1), some (.iload_n 3, 1), some (.ishl, 1), some (.goto 4, 3), none, none, some (.iconst 0, 1), some (.ior, 1), some (.istore_n 2, 1), some (.iinc 3 1, 3), none, none, some (.goto (-40), 3), none, none, some (.iload_n 2, 1)],
  [some (.ireturn, 1)]])
def mc_X1_init : am_M := (1, false, [
  [some (.aload_n 0, 1), some (.invokespecial 31, 3), none, none, some (.aload_n 0, 1), some (.bipush 6, 2), none, some (.anewarray 4, 3), none, none, some (.putfield 67, 3), none, none, some (.aload_n 0, 1), some (.bipush 6, 2), none],
  [some (.anewarray 4, 3), none, none, some (.putfield 68, 3), none, none, some (.aload_n 0, 1), some (.iconst 3, 1), some (.newarray .int, 2), none, some (.putfield 70, 3), none, none, some (.aload_n 0, 1), some (.bipush 6, 2), none],
  [some (.newarray .int, 2), none, some (.putfield 71, 3), none, none, some (.aload_n 0, 1), some (.bipush 40, 2), none, some (.newarray .int, 2), none, some (.putfield 72, 3), none, none, some (.aload_n 0, 1), some (.aload_n 1, 1), some (.putfield 64, 3)],
  [none, none, some (.aload_n 0, 1), some (.aload_n 2, 1), some (.putfield 65, 3), none, none, some (.aload_n 0, 1), some (.aload_n 3, 1), some (.putfield 66, 3), none, none, some (.aload_n 0, 1), some (.new 5, 3), none, none],
  [some (.dup, 1), some (.iconst 1, 1), some (.newarray .int, 2), none, some (.dup, 1), some (.iconst 0, 1), some (.bipush (-4), 2), none, some (.iastore, 1), some (.invokespecial 52783, 3), none, none, some (.new 5, 3), none, none, some (.dup, 1)],
  [some (.iconst 1, 1), some (.newarray .int, 2), none, some (.dup, 1), some (.iconst 0, 1), some (.bipush (-6), 2), none, some (.iastore, 1), some (.invokespecial 52783, 3), none, none, some (.invokevirtual 44593, 3), none, none, some (.pop, 1), some (.return_, 1)]])
def mc_X1_knewOf : am_M := (99, true, [
  [some (.aload_n 0, 1), some (.iload_n 2, 1), some (.aload_n 0, 1), some (.iload_n 1, 1), some (.invokevirtual 47137, 3), none, none, some (.invokevirtual 46897, 3), none, none, some (.istore_n 3, 1), some (.iload_n 3, 1), some (.iconst (-1), 1), some (.if_icmp .eq 20, 3), none, none],
  [some (.iload_n 3, 1), some (.aload_n 0, 1), some (.getfield 66, 3), none, none, some (.getfield 131, 3), none, none, some (.iload_n 1, 1), some (.iaload, 1), some (.if_icmp .gt 7, 3), none, none, some (.iconst 1, 1), some (.goto 4, 3), none],
  [none, some (.iconst 0, 1), some (.ireturn, 1)]])
def mc_X1_knownFrom : am_M := (99, false, [
  [some (.aload_n 0, 1), some (.getfield 64, 3), none, none, some (.getfield 385, 3), none, none, some (.aload_n 0, 1), some (.iload_n 1, 1), some (.invokevirtual 47137, 3), none, none, some (.aaload, 1), some (.iload_n 2, 1), some (.iaload, 1), some (.istore_n 3, 1)],
  [some (.iload_n 3, 1), some (.sipush 999, 3), none, none, some (.if_icmp .ne 7, 3), none, none, some (.iconst (-1), 1), some (.goto 14, 3), none, none, some (.aload_n 0, 1), some (.getfield 66, 3), none, none, some (.getfield 131, 3)],
  [none, none, some (.iload_n 1, 1), some (.iaload, 1), some (.iload_n 3, 1), some (.iadd, 1), some (.ireturn, 1)]])
def mc_X1_landOf : am_M := (99, false, [
  [some (.aload_n 0, 1), some (.getfield 65, 3), none, none, some (.getfield 448, 3), none, none, some (.aload_n 0, 1), some (.getfield 66, 3), none, none, some (.getfield 129, 3), none, none, some (.iload_n 1, 1), some (.iaload, 1)],
  [some (.iaload, 1), some (.ireturn, 1)]])
def mc_X1_namingOn : am_M := (99, false, [
  [some (.iconst (-1), 1), some (.istore 4, 2), none, some (.iconst 0, 1), some (.istore 5, 2), none, some (.iload 5, 2), none, some (.aload_n 0, 1), some (.getfield 66, 3), none, none, some (.getfield 135, 3), none, none, some (.if_icmp .ge 120, 3)],
  [none, none, some (.aload_n 0, 1), some (.getfield 66, 3), none, none, some (.getfield 128, 3), none, none, some (.iload 5, 2), none, some (.iaload, 1), some (.iconst 1, 1), some (.if_icmp .ne 24, 3), none, none],
  [some (.aload_n 0, 1), some (.getfield 66, 3), none, none, some (.getfield 130, 3), none, none, some (.iload 5, 2), none, some (.iaload, 1), some (.bipush 12, 2), none, some (.idiv, 1), some (.iload_n 2, 1), some (.if_icmp .ne 7, 3), none],
  [none, some (.iconst 1, 1), some (.goto 4, 3), none, none, some (.iconst 0, 1), some (.istore 6, 2), none, some (.iload 6, 2), none, some (.ifCond .eq 30, 3), none, none, some (.iload_n 1, 1), some (.iload 5, 2), none],
  [some (.invokestatic 9775, 3), none, none, some (.ifCond .eq 21, 3), none, none, some (.aload_n 0, 1), some (.getfield 66, 3), none, none, some (.getfield 131, 3), none, none, some (.iload 5, 2), none, some (.iaload, 1)],
  [some (.iload_n 3, 1), some (.if_icmp .gt 7, 3), none, none, some (.iconst 1, 1), some (.goto 4, 3), none, none, some (.iconst 0, 1), some (.istore 7, 2), none, some (.iload 7, 2), none, some (.ifCond .eq 36, 3), none, none],
  [some (.iload 4, 2), none, some (.iconst (-1), 1), some (.if_icmp .eq 26, 3), none, none, some (.aload_n 0, 1), some (.getfield 66, 3), none, none, some (.getfield 131, 3), none, none, some (.iload 5, 2), none, some (.iaload, 1)],
  [some (.aload_n 0, 1), some (.getfield 66, 3), none, none, some (.getfield 131, 3), none, none, some (.iload 4, 2), none, some (.iaload, 1), some (.if_icmp .lt 7, 3), none, none, some (.iload 5, 2), none, some (.istore 4, 2)],
  [none, some (.iinc 5 1, 3), none, none, some (.goto (-126), 3), none, none, some (.iload 4, 2), none, some (.iconst (-1), 1), some (.if_icmp .eq 21, 3), none, none, some (.aload_n 0, 1), some (.getfield 66, 3), none],
  [none, some (.iload 4, 2), none, some (.iload_n 3, 1), some (.invokevirtual 49970, 3), none, none, some (.ifCond .eq 8, 3), none, none, some (.iload 4, 2), none, some (.goto 4, 3), none, none, some (.iconst (-1), 1)],
  [some (.ireturn, 1)]])
def mc_X1_rightful : am_M := (99, false, [
  [some (.aload_n 0, 1), some (.iload_n 1, 1), some (.iload_n 2, 1), some (.iload_n 3, 1), some (.invokevirtual 47425, 3), none, none, some (.istore 4, 2), none, some (.iload 4, 2), none, some (.iconst (-1), 1), some (.if_icmp .ne 7, 3), none, none, some (.iconst (-1), 1)],
  [some (.goto 16, 3), none, none, some (.aload_n 0, 1), some (.getfield 66, 3), none, none, some (.getfield 130, 3), none, none, some (.iload 4, 2), none, some (.iaload, 1), some (.bipush 12, 2), none, some (.irem, 1)],
  [some (.ireturn, 1)]])
def mc_X1_tellsApart : am_M := (99, true, [
  [some (.iconst 0, 1), some (.istore 4, 2), none, some (.iload 4, 2), none, some (.iconst 2, 1), some (.if_icmp .ge 56, 3), none, none, some (.aload_n 0, 1), some (.iload 4, 2), none, some (.iload_n 1, 1), some (.iconst 0, 1), some (.iload_n 2, 1), some (.invokevirtual 48465, 3)],
  [none, none, some (.ifCond .eq 7, 3), none, none, some (.iconst 1, 1), some (.goto 4, 3), none, none, some (.iconst 0, 1), some (.istore 5, 2), none, some (.aload_n 0, 1), some (.iload 4, 2), none, some (.iload_n 1, 1)],
  [some (.iconst 0, 1), some (.iload_n 3, 1), some (.invokevirtual 48465, 3), none, none, some (.ifCond .eq 7, 3), none, none, some (.iconst 1, 1), some (.goto 4, 3), none, none, some (.iconst 0, 1), some (.istore 6, 2), none, some (.iload 5, 2)],
  [none, some (.iload 6, 2), none, some (.if_icmp .eq 5, 3), none, none, some (.iconst 1, 1), some (.ireturn, 1), some (.iinc 4 1, 3), none, none, some (.goto (-56), 3), none, none, some (.iconst 0, 1), some (.ireturn, 1)]])
def mc_X1_trueUnder : am_M := (99, false, [
  [some (.iconst 0, 1), some (.istore_n 3, 1), some (.iconst 0, 1), some (.istore 4, 2), none, some (.iload 4, 2), none, some (.aload_n 0, 1), some (.getfield 66, 3), none, none, some (.getfield 135, 3), none, none, some (.if_icmp .ge 31, 3), none],
  [none, some (.iload_n 3, 1), some (.aload_n 0, 1), some (.iload_n 1, 1), some (.iload 4, 2), none, some (.iload_n 2, 1), some (.invokevirtual 48705, 3), none, none, some (.ifCond .eq 10, 3), none, none, some (.iconst 1, 1), some (.iload 4, 2), none],
  [some (.ishl, 1), some (.goto 4, 3), none, none, some (.iconst 0, 1), some (.ior, 1), some (.istore_n 3, 1), some (.iinc 4 1, 3), none, none, some (.goto (-37), 3), none, none, some (.iload_n 3, 1), some (.ireturn, 1)]])
def mc_X1_valueIfHeld : am_M := (99, false, [
  [some (.aload_n 0, 1), some (.getfield 71, 3), none, none, some (.iconst 0, 1), some (.aload_n 0, 1), some (.getfield 66, 3), none, none, some (.getfield 128, 3), none, none, some (.iload_n 2, 1), some (.iaload, 1), some (.iastore, 1), some (.aload_n 0, 1)],
  [some (.getfield 71, 3), none, none, some (.iconst 1, 1), some (.aload_n 0, 1), some (.getfield 66, 3), none, none, some (.getfield 131, 3), none, none, some (.iload_n 2, 1), some (.iaload, 1), some (.iastore, 1), some (.aload_n 0, 1), some (.getfield 71, 3)],
  [none, none, some (.iconst 2, 1), some (.aload_n 0, 1), some (.getfield 66, 3), none, none, some (.iload_n 2, 1), some (.invokevirtual 49698, 3), none, none, some (.iastore, 1), some (.aload_n 0, 1), some (.getfield 71, 3), none, none],
  [some (.iconst 3, 1), some (.iload_n 1, 1), some (.iconst 2, 1), some (.if_icmp .eq 9, 3), none, none, some (.iload_n 1, 1), some (.iload 4, 2), none, some (.if_icmp .ne 7, 3), none, none, some (.iconst 1, 1), some (.goto 4, 3), none, none],
  [some (.iconst 0, 1), some (.iastore, 1), some (.aload_n 0, 1), some (.getfield 71, 3), none, none, some (.iconst 4, 1), some (.aload_n 0, 1), some (.getfield 66, 3), none, none, some (.getfield 133, 3), none, none, some (.iload_n 2, 1), some (.iaload, 1)],
  [some (.invokestatic 287, 3), none, none, some (.iastore, 1), some (.aload_n 0, 1), some (.getfield 71, 3), none, none, some (.iconst 5, 1), some (.aload_n 0, 1), some (.getfield 66, 3), none, none, some (.getfield 132, 3), none, none],
  [some (.iload_n 2, 1), some (.iaload, 1), some (.iastore, 1), some (.iload_n 3, 1), some (.ifCond .ne 17, 3), none, none, some (.aload_n 0, 1), some (.getfield 67, 3), none, none, some (.aload_n 0, 1), some (.getfield 70, 3), none, none, some (.iload_n 1, 1)],
  [some (.iaload, 1), some (.aaload, 1), some (.goto 14, 3), none, none, some (.aload_n 0, 1), some (.getfield 68, 3), none, none, some (.aload_n 0, 1), some (.getfield 70, 3), none, none, some (.iload_n 1, 1), some (.iaload, 1), some (.aaload, 1)],
  [some (.astore 5, 2), none, some (.aload 5, 2), none, some (.ifnonnull 7, 3), none, none, some (.iconst 0, 1), some (.goto 16, 3), none, none, some (.aload 5, 2), none, some (.aload_n 0, 1), some (.getfield 71, 3), none],
  [none, some (.aload_n 0, 1), some (.getfield 72, 3), none, none, some (.invokevirtual 53301, 3), none, none, some (.ireturn, 1)]])
def mc_X1_valueOf : am_M := (99, false, [
  [some (.aload_n 0, 1), some (.getfield 64, 3), none, none, some (.aload_n 0, 1), some (.iload_n 2, 1), some (.invokevirtual 47137, 3), none, none, some (.aload_n 0, 1), some (.getfield 66, 3), none, none, some (.getfield 131, 3), none, none],
  [some (.iload_n 2, 1), some (.iaload, 1), some (.invokevirtual 55350, 3), none, none, some (.istore 4, 2), none, some (.aload_n 0, 1), some (.iload_n 1, 1), some (.iload_n 2, 1), some (.iload_n 3, 1), some (.iload 4, 2), none, some (.invokevirtual 48465, 3), none, none],
  [some (.ireturn, 1)]])
def mc_X2_add : am_M := (99, false, [
  [some (.aload_n 0, 1), some (.getfield 128, 3), none, none, some (.aload_n 0, 1), some (.getfield 135, 3), none, none, some (.iload_n 1, 1), some (.iastore, 1), some (.aload_n 0, 1), some (.getfield 129, 3), none, none, some (.aload_n 0, 1), some (.getfield 135, 3)],
  [none, none, some (.iload_n 2, 1), some (.iastore, 1), some (.aload_n 0, 1), some (.getfield 130, 3), none, none, some (.aload_n 0, 1), some (.getfield 135, 3), none, none, some (.iload_n 3, 1), some (.iastore, 1), some (.aload_n 0, 1), some (.getfield 131, 3)],
  [none, none, some (.aload_n 0, 1), some (.getfield 135, 3), none, none, some (.iload 4, 2), none, some (.iastore, 1), some (.aload_n 0, 1), some (.getfield 132, 3), none, none, some (.aload_n 0, 1), some (.getfield 135, 3), none],
  [none, some (.iload 5, 2), none, some (.iastore, 1), some (.aload_n 0, 1), some (.dup, 1), some (.getfield 135, 3), none, none, some (.dup_x1, 1), some (.iconst 1, 1), some (.iadd, 1), some (.putfield 135, 3), none, none, some (.ireturn, 1)]])
def mc_X2_init : am_M := (2, false, [
  [some (.aload_n 0, 1), some (.invokespecial 31, 3), none, none, some (.aload_n 0, 1), some (.bipush 24, 2), none, some (.newarray .int, 2), none, some (.putfield 128, 3), none, none, some (.aload_n 0, 1), some (.bipush 24, 2), none, some (.newarray .int, 2)],
  [none, some (.putfield 129, 3), none, none, some (.aload_n 0, 1), some (.bipush 24, 2), none, some (.newarray .int, 2), none, some (.putfield 130, 3), none, none, some (.aload_n 0, 1), some (.bipush 24, 2), none, some (.newarray .int, 2)],
  [none, some (.putfield 131, 3), none, none, some (.aload_n 0, 1), some (.bipush 24, 2), none, some (.newarray .int, 2), none, some (.putfield 132, 3), none, none, some (.aload_n 0, 1), some (.bipush 24, 2), none, some (.newarray .int, 2)],
  [none, some (.putfield 133, 3), none, none, some (.aload_n 0, 1), some (.bipush 24, 2), none, some (.newarray .int, 2), none, some (.putfield 134, 3), none, none, some (.aload_n 0, 1), some (.getfield 134, 3), none, none],
  [some (.iconst (-1), 1), some (.invokestatic 815, 3), none, none, some (.return_, 1)]])
def mc_X2_lastsFor : am_M := (99, false, [
  [some (.aload_n 0, 1), some (.getfield 134, 3), none, none, some (.iload_n 1, 1), some (.iaload, 1), some (.iconst (-1), 1), some (.if_icmp .ne 16, 3), none, none, some (.getstatic 2, 3), none, none, some (.aload_n 0, 1), some (.getfield 128, 3), none],
  [none, some (.iload_n 1, 1), some (.iaload, 1), some (.iaload, 1), some (.goto 16, 3), none, none, some (.aload_n 0, 1), some (.getfield 134, 3), none, none, some (.iload_n 1, 1), some (.iaload, 1), some (.aload_n 0, 1), some (.getfield 131, 3), none],
  [none, some (.iload_n 1, 1), some (.iaload, 1), some (.isub, 1), some (.ireturn, 1)]])
def mc_X2_rankOf : am_M := (99, false, [
  [some (.getstatic 1, 3), none, none, some (.aload_n 0, 1), some (.getfield 128, 3), none, none, some (.iload_n 1, 1), some (.iaload, 1), some (.iaload, 1), some (.ireturn, 1)]])
def mc_X2_runsOn : am_M := (99, true, [
  [some (.aload_n 0, 1), some (.getfield 131, 3), none, none, some (.iload_n 1, 1), some (.iaload, 1), some (.iload_n 2, 1), some (.if_icmp .gt 23, 3), none, none, some (.iload_n 2, 1), some (.aload_n 0, 1), some (.getfield 131, 3), none, none, some (.iload_n 1, 1)],
  [some (.iaload, 1), some (.aload_n 0, 1), some (.iload_n 1, 1), some (.invokevirtual 49442, 3), none, none, some (.iadd, 1), some (.if_icmp .ge 7, 3), none, none, some (.iconst 1, 1), some (.goto 4, 3), none, none, some (.iconst 0, 1), some (.ireturn, 1)]])
def mc_X2_tell : am_M := (99, false, [
  [some (.iload_n 2, 1), some (.tableswitch 101 0 7 #[47, 54, 61, 68, 75, 82, 88, 94], 47), none, none, none, none, none, none, none, none, none, none, none, none, none, none],
  [none, none, none, none, none, none, none, none, none, none, none, none, none, none, none, none],
  [none, none, none, none, none, none, none, none, none, none, none, none, none, none, none, none],
  [some (.aload_n 0, 1), some (.getfield 128, 3), none, none, some (.iload_n 1, 1), some (.iaload, 1), some (.ireturn, 1), some (.aload_n 0, 1), some (.getfield 129, 3), none, none, some (.iload_n 1, 1), some (.iaload, 1), some (.ireturn, 1), some (.aload_n 0, 1), some (.getfield 130, 3)],
  [none, none, some (.iload_n 1, 1), some (.iaload, 1), some (.ireturn, 1), some (.aload_n 0, 1), some (.getfield 131, 3), none, none, some (.iload_n 1, 1), some (.iaload, 1), some (.ireturn, 1), some (.aload_n 0, 1), some (.getfield 132, 3), none, none],
  [some (.iload_n 1, 1), some (.iaload, 1), some (.ireturn, 1), some (.aload_n 0, 1), some (.iload_n 1, 1), some (.invokevirtual 49698, 3), none, none, some (.ireturn, 1), some (.aload_n 0, 1), some (.iload_n 1, 1), some (.invokevirtual 49442, 3), none, none, some (.ireturn, 1), some (.aload_n 0, 1)],
  [some (.getfield 133, 3), none, none, some (.iload_n 1, 1), some (.iaload, 1), some (.ireturn, 1), some (.bipush (-2), 2), none, some (.ireturn, 1)]])
def mc_X3_add : am_M := (99, false, [
  [some (.aload_n 0, 1), some (.getfield 192, 3), none, none, some (.aload_n 0, 1), some (.getfield 195, 3), none, none, some (.iload_n 1, 1), some (.iastore, 1), some (.aload_n 0, 1), some (.dup, 1), some (.getfield 194, 3), none, none, some (.iload_n 2, 1)],
  [some (.aload_n 0, 1), some (.getfield 195, 3), none, none, some (.ishl, 1), some (.ior, 1), some (.putfield 194, 3), none, none, some (.aload_n 0, 1), some (.dup, 1), some (.getfield 195, 3), none, none, some (.dup_x1, 1), some (.iconst 1, 1)],
  [some (.iadd, 1), some (.putfield 195, 3), none, none, some (.ireturn, 1)]])
def mc_X3_cheapest : am_M := (99, false, [
  [some (.iconst (-1), 1), some (.istore_n 1, 1), some (.iconst 0, 1), some (.istore_n 2, 1), some (.iconst 0, 1), some (.istore_n 3, 1), some (.aload_n 0, 1), some (.getfield 194, 3), none, none, some (.invokestatic 287, 3), none, none, some (.istore 4, 2), none, some (.iconst 0, 1)],
  [some (.istore 5, 2), none, some (.iload 5, 2), none, some (.iconst 1, 1), some (.aload_n 0, 1), some (.getfield 195, 3), none, none, some (.ishl, 1), some (.if_icmp .ge 113, 3), none, none, some (.iload 5, 2), none, some (.aload_n 0, 1)],
  [some (.getfield 194, 3), none, none, some (.iand, 1), some (.ifCond .eq 6, 3), none, none, some (.goto 94, 3), none, none, some (.iload 5, 2), none, some (.invokestatic 287, 3), none, none, some (.istore 6, 2)],
  [none, some (.iconst 2, 1), some (.iload 6, 2), none, some (.iload 4, 2), none, some (.iadd, 1), some (.imul, 1), some (.aload_n 0, 1), some (.getfield 195, 3), none, none, some (.if_icmp .gt 6, 3), none, none, some (.goto 70, 3)],
  [none, none, some (.aload_n 0, 1), some (.getfield 192, 3), none, none, some (.iload 5, 2), none, some (.invokestatic 17967, 3), none, none, some (.istore 7, 2), none, some (.iload 7, 2), none, some (.iload_n 2, 1)],
  [some (.if_icmp .lt 15, 3), none, none, some (.iload 7, 2), none, some (.iload_n 2, 1), some (.if_icmp .ne 13, 3), none, none, some (.iload 6, 2), none, some (.iload_n 3, 1), some (.if_icmp .ge 7, 3), none, none, some (.iconst 1, 1)],
  [some (.goto 4, 3), none, none, some (.iconst 0, 1), some (.istore 8, 2), none, some (.iload_n 1, 1), some (.iconst (-1), 1), some (.if_icmp .eq 8, 3), none, none, some (.iload 8, 2), none, some (.ifCond .eq 24, 3), none, none],
  [some (.aload_n 0, 1), some (.getfield 193, 3), none, none, some (.iload 5, 2), none, some (.invokestatic 9263, 3), none, none, some (.ifCond .eq 12, 3), none, none, some (.iload 5, 2), none, some (.istore_n 1, 1), some (.iload 7, 2)],
  [none, some (.istore_n 2, 1), some (.iload 6, 2), none, some (.istore_n 3, 1), some (.iinc 5 1, 3), none, none, some (.goto (-118), 3), none, none, some (.iload_n 1, 1), some (.ireturn, 1)]])
def mc_X3_init : am_M := (3, false, [
  [some (.aload_n 0, 1), some (.invokespecial 31, 3), none, none, some (.aload_n 0, 1), some (.bipush 10, 2), none, some (.newarray .int, 2), none, some (.putfield 192, 3), none, none, some (.aload_n 0, 1), some (.bipush 10, 2), none, some (.newarray .int, 2)],
  [none, some (.putfield 193, 3), none, none, some (.return_, 1)]])
def mc_X4_giveUp : am_M := (99, false, [
  [some (.iload_n 3, 1), some (.aload_n 0, 1), some (.getfield 260, 3), none, none, some (.if_icmp .gt 4, 3), none, none, some (.return_, 1), some (.iload_n 1, 1), some (.istore 4, 2), none, some (.iconst 0, 1), some (.istore 5, 2), none, some (.iload 5, 2)],
  [none, some (.bipush 8, 2), none, some (.if_icmp .ge 37, 3), none, none, some (.iload_n 2, 1), some (.iload 5, 2), none, some (.invokestatic 9775, 3), none, none, some (.ifCond .eq 22, 3), none, none, some (.iload 4, 2)],
  [none, some (.bipush 7, 2), none, some (.if_icmp .ge 15, 3), none, none, some (.aload_n 0, 1), some (.getfield 257, 3), none, none, some (.iload 4, 2), none, some (.iinc 4 1, 3), none, none, some (.iload 5, 2)],
  [none, some (.iastore, 1), some (.iinc 5 1, 3), none, none, some (.goto (-38), 3), none, none, some (.aload_n 0, 1), some (.iload_n 3, 1), some (.invokevirtual 52004, 3), none, none, some (.return_, 1)]])
def mc_X4_goOn : am_M := (99, false, [
  [some (.iload 5, 2), none, some (.aload_n 0, 1), some (.iload_n 2, 1), some (.iload_n 3, 1), some (.iload 4, 2), none, some (.invokevirtual 52292, 3), none, none, some (.iadd, 1), some (.aload_n 0, 1), some (.getfield 260, 3), none, none, some (.if_icmp .gt 4, 3)],
  [none, none, some (.return_, 1), some (.iload_n 1, 1), some (.aload_n 0, 1), some (.getfield 259, 3), none, none, some (.if_icmp .ge 9, 3), none, none, some (.iload_n 1, 1), some (.bipush 7, 2), none, some (.if_icmp .lt 10, 3), none],
  [none, some (.aload_n 0, 1), some (.iload 5, 2), none, some (.invokevirtual 52004, 3), none, none, some (.return_, 1), some (.iconst 0, 1), some (.istore 6, 2), none, some (.iload 6, 2), none, some (.bipush 8, 2), none, some (.if_icmp .ge 127, 3)],
  [none, none, some (.iload_n 3, 1), some (.iload 6, 2), none, some (.invokestatic 9775, 3), none, none, some (.ifCond .ne 6, 3), none, none, some (.goto 109, 3), none, none, some (.aload_n 0, 1), some (.getfield 257, 3)],
  [none, none, some (.iload_n 1, 1), some (.iload 6, 2), none, some (.iastore, 1), some (.iload_n 3, 1), some (.iconst 1, 1), some (.iload 6, 2), none, some (.ishl, 1), some (.iconst (-1), 1), some (.ixor, 1), some (.iand, 1), some (.istore 7, 2), none],
  [some (.iload 4, 2), none, some (.aload_n 0, 1), some (.getfield 256, 3), none, none, some (.getfield 385, 3), none, none, some (.iload_n 2, 1), some (.aaload, 1), some (.iload 6, 2), none, some (.iaload, 1), some (.iadd, 1), some (.istore 8, 2)],
  [none, some (.aload_n 0, 1), some (.getfield 256, 3), none, none, some (.getfield 385, 3), none, none, some (.iload_n 2, 1), some (.aaload, 1), some (.iload 6, 2), none, some (.iaload, 1), some (.sipush 999, 3), none, none],
  [some (.if_icmp .ne 17, 3), none, none, some (.aload_n 0, 1), some (.iload_n 1, 1), some (.iconst 1, 1), some (.iadd, 1), some (.iload 7, 2), none, some (.iload 5, 2), none, some (.invokevirtual 51268, 3), none, none, some (.goto 42, 3), none],
  [none, some (.aload_n 0, 1), some (.iload_n 1, 1), some (.iconst 1, 1), some (.iadd, 1), some (.iload 6, 2), none, some (.iload 7, 2), none, some (.iload 8, 2), none, some (.iconst 3, 1), some (.iadd, 1), some (.iload 8, 2), none, some (.aload_n 0, 1)],
  [some (.getfield 256, 3), none, none, some (.getfield 391, 3), none, none, some (.iload 6, 2), none, some (.iaload, 1), some (.if_icmp .gt 10, 3), none, none, some (.iload 5, 2), none, some (.iconst 1, 1), some (.iadd, 1)],
  [some (.goto 5, 3), none, none, some (.iload 5, 2), none, some (.invokevirtual 51556, 3), none, none, some (.iinc 6 1, 3), none, none, some (.goto (-128), 3), none, none, some (.return_, 1)]])
def mc_X4_init : am_M := (4, false, [
  [some (.aload_n 0, 1), some (.invokespecial 31, 3), none, none, some (.aload_n 0, 1), some (.bipush 7, 2), none, some (.newarray .int, 2), none, some (.putfield 257, 3), none, none, some (.aload_n 0, 1), some (.bipush 7, 2), none, some (.newarray .int, 2)],
  [none, some (.putfield 258, 3), none, none, some (.aload_n 0, 1), some (.aload_n 1, 1), some (.putfield 256, 3), none, none, some (.return_, 1)]])
def mc_X4_keep : am_M := (99, false, [
  [some (.aload_n 0, 1), some (.iload_n 1, 1), some (.putfield 260, 3), none, none, some (.aload_n 0, 1), some (.getfield 257, 3), none, none, some (.iconst 0, 1), some (.aload_n 0, 1), some (.getfield 258, 3), none, none, some (.iconst 0, 1), some (.bipush 7, 2)],
  [none, some (.invokedynamic 0, 3), none, none, some (.return_, 1)]])
def mc_X4_mayBeWon : am_M := (99, false, [
  [some (.iconst 0, 1), some (.istore 4, 2), none, some (.iconst 0, 1), some (.istore 5, 2), none, some (.iload 5, 2), none, some (.bipush 8, 2), none, some (.if_icmp .ge 60, 3), none, none, some (.aload_n 0, 1), some (.getfield 256, 3), none],
  [none, some (.getfield 385, 3), none, none, some (.iload_n 1, 1), some (.aaload, 1), some (.iload 5, 2), none, some (.iaload, 1), some (.istore 6, 2), none, some (.iload_n 2, 1), some (.iload 5, 2), none, some (.invokestatic 9775, 3), none],
  [none, some (.ifCond .eq 31, 3), none, none, some (.iload 6, 2), none, some (.sipush 999, 3), none, none, some (.if_icmp .eq 23, 3), none, none, some (.iload_n 3, 1), some (.iload 6, 2), none, some (.iadd, 1)],
  [some (.aload_n 0, 1), some (.getfield 256, 3), none, none, some (.getfield 391, 3), none, none, some (.iload 5, 2), none, some (.iaload, 1), some (.if_icmp .gt 6, 3), none, none, some (.iinc 4 1, 3), none, none],
  [some (.iinc 5 1, 3), none, none, some (.goto (-61), 3), none, none, some (.iload 4, 2), none, some (.ireturn, 1)]])
def mc_X4_plan : am_M := (99, false, [
  [some (.aload_n 0, 1), some (.iload_n 2, 1), some (.invokestatic 287, 3), none, none, some (.putfield 259, 3), none, none, some (.aload_n 0, 1), some (.iconst (-1), 1), some (.putfield 260, 3), none, none, some (.aload_n 0, 1), some (.iconst 0, 1), some (.iload_n 1, 1)],
  [some (.iload_n 2, 1), some (.iconst 0, 1), some (.iconst 0, 1), some (.invokevirtual 51556, 3), none, none, some (.return_, 1)]])
def mc_X5_init : am_M := (5, false, [
  [some (.aload_n 0, 1), some (.invokespecial 31, 3), none, none, some (.aload_n 0, 1), some (.aload_n 1, 1), some (.putfield 320, 3), none, none, some (.return_, 1)]])
def mc_X5_joined : am_M := (99, false, [
  [some (.iload_n 0, 1), some (.tableswitch 105 (-15) (-9) #[101, 97, 93, 82, 71, 57, 43], 43), none, none, none, none, none, none, none, none, none, none, none, none, none, none],
  [none, none, none, none, none, none, none, none, none, none, none, none, none, none, none, none],
  [none, none, none, none, none, none, none, none, none, none, none, none, some (.iload_n 1, 1), some (.ifCond .ne 7, 3), none, none],
  [some (.iload_n 2, 1), some (.ifCond .eq 7, 3), none, none, some (.iconst 1, 1), some (.goto 4, 3), none, none, some (.iconst 0, 1), some (.ireturn, 1), some (.iload_n 1, 1), some (.ifCond .eq 11, 3), none, none, some (.iload_n 2, 1), some (.ifCond .eq 7, 3)],
  [none, none, some (.iconst 1, 1), some (.goto 4, 3), none, none, some (.iconst 0, 1), some (.ireturn, 1), some (.iload_n 1, 1), some (.iload_n 2, 1), some (.if_icmp .ge 7, 3), none, none, some (.iconst 1, 1), some (.goto 4, 3), none],
  [none, some (.iconst 0, 1), some (.ireturn, 1), some (.iload_n 1, 1), some (.iload_n 2, 1), some (.if_icmp .ne 7, 3), none, none, some (.iconst 1, 1), some (.goto 4, 3), none, none, some (.iconst 0, 1), some (.ireturn, 1), some (.iload_n 1, 1), some (.iload_n 2, 1)],
  [some (.iadd, 1), some (.ireturn, 1), some (.iload_n 1, 1), some (.iload_n 2, 1), some (.isub, 1), some (.ireturn, 1), some (.iload_n 1, 1), some (.iload_n 2, 1), some (.imul, 1), some (.ireturn, 1), some (.iconst 0, 1), some (.ireturn, 1)]])
def mc_X5_valueFor : am_M := (99, false, [
  [some (.iconst 0, 1), some (.istore_n 3, 1), some (.iconst 0, 1), some (.istore 4, 2), none, some (.iload 4, 2), none, some (.aload_n 0, 1), some (.getfield 320, 3), none, none, some (.arraylength, 1), some (.if_icmp .ge 138, 3), none, none, some (.aload_n 0, 1)],
  [some (.getfield 320, 3), none, none, some (.iload 4, 2), none, some (.iaload, 1), some (.istore 5, 2), none, some (.iload 5, 2), none, some (.bipush (-6), 2), none, some (.if_icmp .lt 36, 3), none, none, some (.iload_n 3, 1)],
  [some (.aload_n 2, 1), some (.arraylength, 1), some (.if_icmp .lt 5, 3), none, none, some (.iconst 0, 1), some (.ireturn, 1), some (.aload_n 2, 1), some (.iload_n 3, 1), some (.iinc 3 1, 3), none, none, some (.iload 5, 2), none, some (.ifCond .lt 8, 3), none],
  [none, some (.iload 5, 2), none, some (.goto 9, 3), none, none, some (.aload_n 1, 1), some (.iconst (-1), 1), some (.iload 5, 2), none, some (.isub, 1), some (.iaload, 1), some (.iastore, 1), some (.goto 83, 3), none, none],
  [some (.iload 5, 2), none, some (.bipush (-8), 2), none, some (.if_icmp .lt 48, 3), none, none, some (.iload_n 3, 1), some (.iconst 1, 1), some (.if_icmp .ge 5, 3), none, none, some (.iconst 0, 1), some (.ireturn, 1), some (.aload_n 2, 1), some (.iload_n 3, 1)],
  [some (.iconst 1, 1), some (.isub, 1), some (.iaload, 1), some (.istore 6, 2), none, some (.aload_n 2, 1), some (.iload_n 3, 1), some (.iconst 1, 1), some (.isub, 1), some (.iload 5, 2), none, some (.bipush (-8), 2), none, some (.if_icmp .ne 9, 3), none, none],
  [some (.iload 6, 2), none, some (.ineg, 1), some (.goto 13, 3), none, none, some (.iload 6, 2), none, some (.ifCond .ne 7, 3), none, none, some (.iconst 1, 1), some (.goto 4, 3), none, none, some (.iconst 0, 1)],
  [some (.iastore, 1), some (.goto 31, 3), none, none, some (.iload_n 3, 1), some (.iconst 2, 1), some (.if_icmp .ge 5, 3), none, none, some (.iconst 0, 1), some (.ireturn, 1), some (.iinc 3 (-1), 3), none, none, some (.aload_n 2, 1), some (.iload_n 3, 1)],
  [some (.iconst 1, 1), some (.isub, 1), some (.iload 5, 2), none, some (.aload_n 2, 1), some (.iload_n 3, 1), some (.iconst 1, 1), some (.isub, 1), some (.iaload, 1), some (.aload_n 2, 1), some (.iload_n 3, 1), some (.iaload, 1), some (.invokestatic 53055, 3), none, none, some (.iastore, 1)],
  [some (.iinc 4 1, 3), none, none, some (.goto (-142), 3), none, none, some (.iload_n 3, 1), some (.iconst 1, 1), some (.if_icmp .ne 9, 3), none, none, some (.aload_n 2, 1), some (.iconst 0, 1), some (.iaload, 1), some (.goto 4, 3), none],
  [none, some (.iconst 0, 1), some (.ireturn, 1)]])
def mc_X6_addTurn : am_M := (99, false, [
  [some (.aload_n 0, 1), some (.getfield 386, 3), none, none, some (.aload_n 0, 1), some (.getfield 389, 3), none, none, some (.iload_n 1, 1), some (.iastore, 1), some (.aload_n 0, 1), some (.getfield 387, 3), none, none, some (.aload_n 0, 1), some (.getfield 389, 3)],
  [none, none, some (.iload_n 2, 1), some (.iastore, 1), some (.aload_n 0, 1), some (.getfield 388, 3), none, none, some (.aload_n 0, 1), some (.getfield 389, 3), none, none, some (.iload_n 3, 1), some (.iastore, 1), some (.aload_n 0, 1), some (.dup, 1)],
  [some (.getfield 389, 3), none, none, some (.dup_x1, 1), some (.iconst 1, 1), some (.iadd, 1), some (.putfield 389, 3), none, none, some (.ireturn, 1)]])
def mc_X6_call : am_M := (99, false, [
  [some (.iconst (-1), 1), some (.istore 4, 2), none, some (.bipush 9, 2), none, some (.istore 5, 2), none, some (.iconst 0, 1), some (.istore 6, 2), none, some (.iconst 1, 1), some (.istore 7, 2), none, some (.iload 7, 2), none, some (.sipush 256, 3)],
  [none, none, some (.if_icmp .ge 119, 3), none, none, some (.iload 7, 2), none, some (.invokestatic 287, 3), none, none, some (.istore 8, 2), none, some (.iload 7, 2), none, some (.iload_n 1, 1), some (.iconst (-1), 1)],
  [some (.ixor, 1), some (.iand, 1), some (.ifCond .ne 97, 3), none, none, some (.iload 8, 2), none, some (.iload 5, 2), none, some (.if_icmp .le 6, 3), none, none, some (.goto 87, 3), none, none, some (.aload_n 0, 1)],
  [some (.getfield 390, 3), none, none, some (.iload 7, 2), none, some (.invokestatic 17967, 3), none, none, some (.istore 9, 2), none, some (.aload_n 0, 1), some (.getfield 390, 3), none, none, some (.iload 7, 2), none],
  [some (.iload_n 2, 1), some (.iand, 1), some (.invokestatic 17967, 3), none, none, some (.istore 10, 2), none, some (.iload 9, 2), none, some (.iload_n 3, 1), some (.if_icmp .lt 23, 3), none, none, some (.iload 10, 2), none, some (.iload 9, 2)],
  [none, some (.iload 10, 2), none, some (.isub, 1), some (.invokedynamic 4, 3), none, none, some (.iload_n 3, 1), some (.iconst 3, 1), some (.idiv, 1), some (.if_icmp .lt 7, 3), none, none, some (.iconst 1, 1), some (.goto 4, 3), none],
  [none, some (.iconst 0, 1), some (.istore 11, 2), none, some (.iload 11, 2), none, some (.ifCond .eq 29, 3), none, none, some (.iload 8, 2), none, some (.iload 5, 2), none, some (.if_icmp .lt 10, 3), none, none],
  [some (.iload 9, 2), none, some (.iload 6, 2), none, some (.if_icmp .le 15, 3), none, none, some (.iload 7, 2), none, some (.istore 4, 2), none, some (.iload 8, 2), none, some (.istore 5, 2), none, some (.iload 9, 2)],
  [none, some (.istore 6, 2), none, some (.iinc 7 1, 3), none, none, some (.goto (-121), 3), none, none, some (.iload 4, 2), none, some (.ireturn, 1)]])
def mc_X6_holdingToOne : am_M := (99, false, [
  [some (.iconst 0, 1), some (.istore_n 2, 1), some (.iconst 0, 1), some (.istore_n 3, 1), some (.iload_n 3, 1), some (.bipush 8, 2), none, some (.if_icmp .ge 20, 3), none, none, some (.iload_n 2, 1), some (.aload_n 0, 1), some (.iload_n 3, 1), some (.iload_n 1, 1), some (.invokevirtual 55350, 3), none],
  [none, some (.iload_n 3, 1), some (.ishl, 1), some (.ior, 1), some (.istore_n 2, 1), some (.iinc 3 1, 3), none, none, some (.goto (-20), 3), none, none, some (.iload_n 2, 1), some (.ireturn, 1)]])
def mc_X6_init : am_M := (6, false, [
  [some (.aload_n 0, 1), some (.invokespecial 31, 3), none, none, some (.aload_n 0, 1), some (.bipush 8, 2), none, some (.bipush 8, 2), none, some (.multianewarray 3 2, 4), none, none, none, some (.putfield 384, 3), none, none],
  [some (.aload_n 0, 1), some (.bipush 8, 2), none, some (.bipush 8, 2), none, some (.multianewarray 3 2, 4), none, none, none, some (.putfield 385, 3), none, none, some (.aload_n 0, 1), some (.bipush 30, 2), none, some (.newarray .int, 2)],
  [none, some (.putfield 386, 3), none, none, some (.aload_n 0, 1), some (.bipush 30, 2), none, some (.newarray .int, 2), none, some (.putfield 387, 3), none, none, some (.aload_n 0, 1), some (.bipush 30, 2), none, some (.newarray .int, 2)],
  [none, some (.putfield 388, 3), none, none, some (.aload_n 0, 1), some (.bipush 8, 2), none, some (.newarray .int, 2), none, some (.putfield 390, 3), none, none, some (.aload_n 0, 1), some (.bipush 8, 2), none, some (.newarray .int, 2)],
  [none, some (.putfield 391, 3), none, none, some (.iconst 0, 1), some (.istore_n 1, 1), some (.iload_n 1, 1), some (.bipush 8, 2), none, some (.if_icmp .ge 21, 3), none, none, some (.aload_n 0, 1), some (.getfield 384, 3), none, none],
  [some (.iload_n 1, 1), some (.aaload, 1), some (.sipush 999, 3), none, none, some (.invokestatic 815, 3), none, none, some (.iinc 1 1, 3), none, none, some (.goto (-21), 3), none, none, some (.aload_n 0, 1), some (.invokevirtual 54806, 3)],
  [none, none, some (.return_, 1)]])
def mc_X6_lay : am_M := (99, false, [
  [some (.aload_n 0, 1), some (.getfield 384, 3), none, none, some (.iload_n 1, 1), some (.aaload, 1), some (.iload_n 2, 1), some (.iload_n 3, 1), some (.iastore, 1), some (.aload_n 0, 1), some (.getfield 384, 3), none, none, some (.iload_n 2, 1), some (.aaload, 1), some (.iload_n 1, 1)],
  [some (.iload_n 3, 1), some (.iastore, 1), some (.aload_n 0, 1), some (.invokevirtual 54806, 3), none, none, some (.return_, 1)]])
def mc_X6_measure : am_M := (99, false, [
  [some (.iconst 0, 1), some (.istore_n 1, 1), some (.iload_n 1, 1), some (.bipush 8, 2), none, some (.if_icmp .ge 37, 3), none, none, some (.aload_n 0, 1), some (.getfield 384, 3), none, none, some (.iload_n 1, 1), some (.aaload, 1), some (.iconst 0, 1), some (.aload_n 0, 1)],
  [some (.getfield 385, 3), none, none, some (.iload_n 1, 1), some (.aaload, 1), some (.iconst 0, 1), some (.bipush 8, 2), none, some (.invokedynamic 0, 3), none, none, some (.aload_n 0, 1), some (.getfield 385, 3), none, none, some (.iload_n 1, 1)],
  [some (.aaload, 1), some (.iload_n 1, 1), some (.iconst 0, 1), some (.iastore, 1), some (.iinc 1 1, 3), none, none, some (.goto (-37), 3), none, none, some (.iconst 0, 1), some (.istore_n 1, 1), some (.iload_n 1, 1), some (.bipush 8, 2), none, some (.if_icmp .ge 73, 3)],
  [none, none, some (.iconst 0, 1), some (.istore_n 2, 1), some (.iload_n 2, 1), some (.bipush 8, 2), none, some (.if_icmp .ge 59, 3), none, none, some (.iconst 0, 1), some (.istore_n 3, 1), some (.iload_n 3, 1), some (.bipush 8, 2), none, some (.if_icmp .ge 45, 3)],
  [none, none, some (.aload_n 0, 1), some (.getfield 385, 3), none, none, some (.iload_n 2, 1), some (.aaload, 1), some (.iload_n 3, 1), some (.aload_n 0, 1), some (.getfield 385, 3), none, none, some (.iload_n 2, 1), some (.aaload, 1), some (.iload_n 3, 1)],
  [some (.iaload, 1), some (.aload_n 0, 1), some (.getfield 385, 3), none, none, some (.iload_n 2, 1), some (.aaload, 1), some (.iload_n 1, 1), some (.iaload, 1), some (.aload_n 0, 1), some (.getfield 385, 3), none, none, some (.iload_n 1, 1), some (.aaload, 1), some (.iload_n 3, 1)],
  [some (.iaload, 1), some (.iadd, 1), some (.invokedynamic 4, 3), none, none, some (.iastore, 1), some (.iinc 3 1, 3), none, none, some (.goto (-45), 3), none, none, some (.iinc 2 1, 3), none, none, some (.goto (-59), 3)],
  [none, none, some (.iinc 1 1, 3), none, none, some (.goto (-73), 3), none, none, some (.return_, 1)]])
def mc_X6_sideIfTurned : am_M := (99, false, [
  [some (.aload_n 0, 1), some (.iload_n 1, 1), some (.iload_n 2, 1), some (.invokevirtual 55606, 3), none, none, some (.istore 5, 2), none, some (.iload_n 3, 1), some (.iload_n 2, 1), some (.if_icmp .gt 23, 3), none, none, some (.iload 5, 2), none, some (.iconst (-1), 1)],
  [some (.if_icmp .eq 14, 3), none, none, some (.iload_n 3, 1), some (.aload_n 0, 1), some (.getfield 387, 3), none, none, some (.iload 5, 2), none, some (.iaload, 1), some (.if_icmp .lt 6, 3), none, none, some (.iload 4, 2), none],
  [some (.ireturn, 1), some (.iload 5, 2), none, some (.iconst (-1), 1), some (.if_icmp .ne 7, 3), none, none, some (.iconst 0, 1), some (.goto 10, 3), none, none, some (.aload_n 0, 1), some (.getfield 388, 3), none, none, some (.iload 5, 2)],
  [none, some (.iaload, 1), some (.ireturn, 1)]])
def mc_X6_sideOn : am_M := (99, false, [
  [some (.aload_n 0, 1), some (.iload_n 1, 1), some (.iload_n 2, 1), some (.invokevirtual 55606, 3), none, none, some (.istore_n 3, 1), some (.iload_n 3, 1), some (.iconst (-1), 1), some (.if_icmp .ne 7, 3), none, none, some (.iconst 0, 1), some (.goto 9, 3), none, none],
  [some (.aload_n 0, 1), some (.getfield 388, 3), none, none, some (.iload_n 3, 1), some (.iaload, 1), some (.ireturn, 1)]])
def mc_X6_turnOn : am_M := (99, false, [
  [some (.iconst (-1), 1), some (.istore_n 3, 1), some (.iconst 0, 1), some (.istore 4, 2), none, some (.iload 4, 2), none, some (.aload_n 0, 1), some (.getfield 389, 3), none, none, some (.if_icmp .ge 67, 3), none, none, some (.aload_n 0, 1), some (.getfield 386, 3)],
  [none, none, some (.iload 4, 2), none, some (.iaload, 1), some (.iload_n 1, 1), some (.if_icmp .ne 18, 3), none, none, some (.aload_n 0, 1), some (.getfield 387, 3), none, none, some (.iload 4, 2), none, some (.iaload, 1)],
  [some (.iload_n 2, 1), some (.if_icmp .gt 7, 3), none, none, some (.iconst 1, 1), some (.goto 4, 3), none, none, some (.iconst 0, 1), some (.istore 5, 2), none, some (.iload 5, 2), none, some (.ifCond .eq 27, 3), none, none],
  [some (.iload_n 3, 1), some (.iconst (-1), 1), some (.if_icmp .eq 19, 3), none, none, some (.aload_n 0, 1), some (.getfield 387, 3), none, none, some (.iload 4, 2), none, some (.iaload, 1), some (.aload_n 0, 1), some (.getfield 387, 3), none, none],
  [some (.iload_n 3, 1), some (.iaload, 1), some (.if_icmp .lt 6, 3), none, none, some (.iload 4, 2), none, some (.istore_n 3, 1), some (.iinc 4 1, 3), none, none, some (.goto (-70), 3), none, none, some (.iload_n 3, 1), some (.ireturn, 1)]])
def mc_X6_within : am_M := (99, false, [
  [some (.iconst 0, 1), some (.istore_n 3, 1), some (.iconst 0, 1), some (.istore 4, 2), none, some (.iload 4, 2), none, some (.bipush 8, 2), none, some (.if_icmp .ge 45, 3), none, none, some (.aload_n 0, 1), some (.getfield 385, 3), none, none],
  [some (.iload 4, 2), none, some (.aaload, 1), some (.iload_n 1, 1), some (.iaload, 1), some (.istore 5, 2), none, some (.iload_n 3, 1), some (.iload 5, 2), none, some (.sipush 999, 3), none, none, some (.if_icmp .eq 16, 3), none, none],
  [some (.iload 5, 2), none, some (.iload_n 2, 1), some (.if_icmp .gt 10, 3), none, none, some (.iconst 1, 1), some (.iload 4, 2), none, some (.ishl, 1), some (.goto 4, 3), none, none, some (.iconst 0, 1), some (.ior, 1), some (.istore_n 3, 1)],
  [some (.iinc 4 1, 3), none, none, some (.goto (-46), 3), none, none, some (.iload_n 3, 1), some (.ireturn, 1)]])
def mc_X7_init : am_M := (7, false, [
  [some (.aload_n 0, 1), some (.invokespecial 31, 3), none, none, some (.aload_n 0, 1), some (.bipush 12, 2), none, some (.newarray .int, 2), none, some (.putfield 448, 3), none, none, some (.aload_n 0, 1), some (.bipush 6, 2), none, some (.newarray .int, 2)],
  [none, some (.putfield 450, 3), none, none, some (.aload_n 0, 1), some (.bipush 6, 2), none, some (.newarray .int, 2), none, some (.putfield 451, 3), none, none, some (.aload_n 0, 1), some (.getfield 451, 3), none, none],
  [some (.iconst (-1), 1), some (.invokestatic 815, 3), none, none, some (.return_, 1)]])
def mc_X8_advance : am_M := (99, false, [
  [some (.aload_n 0, 1), some (.getfield 520, 3), none, none, some (.sipush 160, 3), none, none, some (.if_icmp .ge 13, 3), none, none, some (.aload_n 0, 1), some (.dup, 1), some (.getfield 520, 3), none, none, some (.iconst 1, 1)],
  [some (.iadd, 1), some (.putfield 520, 3), none, none, some (.aload_n 0, 1), some (.aload_n 0, 1), some (.getfield 517, 3), none, none, some (.aload_n 0, 1), some (.getfield 520, 3), none, none, some (.iaload, 1), some (.putfield 521, 3), none],
  [none, some (.return_, 1)]])
def mc_X8_append : am_M := (99, false, [
  [some (.iconst 0, 1), some (.istore 4, 2), none, some (.iload 4, 2), none, some (.iload_n 1, 1), some (.if_icmp .ge 44, 3), none, none, some (.aload_n 0, 1), some (.getfield 513, 3), none, none, some (.sipush 160, 3), none, none],
  [some (.if_icmp .ge 34, 3), none, none, some (.aload_n 0, 1), some (.getfield 512, 3), none, none, some (.aload_n 0, 1), some (.dup, 1), some (.getfield 513, 3), none, none, some (.dup_x1, 1), some (.iconst 1, 1), some (.iadd, 1), some (.putfield 513, 3)],
  [none, none, some (.lload_n 2, 1), some (.bipush 8, 2), none, some (.iload 4, 2), none, some (.imul, 1), some (.lshr, 1), some (.l2i, 1), some (.i2b, 1), some (.bastore, 1), some (.iinc 4 1, 3), none, none, some (.goto (-44), 3)],
  [none, none, some (.return_, 1)]])
def mc_X8_expect : am_M := (99, false, [
  [some (.aload_n 0, 1), some (.getfield 521, 3), none, none, some (.iload_n 1, 1), some (.if_icmp .ne 10, 3), none, none, some (.aload_n 0, 1), some (.invokevirtual 56344, 3), none, none, some (.goto 7, 3), none, none, some (.aload_n 0, 1)],
  [some (.invokevirtual 57112, 3), none, none, some (.return_, 1)]])
def mc_X8_fail : am_M := (99, false, [
  [some (.aload_n 0, 1), some (.getfield 522, 3), none, none, some (.iconst (-1), 1), some (.if_icmp .ne 16, 3), none, none, some (.aload_n 0, 1), some (.aload_n 0, 1), some (.getfield 518, 3), none, none, some (.aload_n 0, 1), some (.getfield 520, 3), none],
  [none, some (.iaload, 1), some (.putfield 522, 3), none, none, some (.aload_n 0, 1), some (.iconst 1, 1), some (.putfield 521, 3), none, none, some (.return_, 1)]])
def mc_X8_findNumber : am_M := (99, false, [
  [some (.iconst 0, 1), some (.istore_n 2, 1), some (.aload_n 0, 1), some (.getfield 516, 3), none, none, some (.aload_n 0, 1), some (.getfield 513, 3), none, none, some (.if_icmp .ge 49, 3), none, none, some (.aload_n 0, 1), some (.getfield 512, 3), none],
  [none, some (.aload_n 0, 1), some (.getfield 516, 3), none, none, some (.baload, 1), some (.invokestatic 58655, 3), none, none, some (.ifCond .eq 34, 3), none, none, some (.iload_n 2, 1), some (.bipush 10, 2), none, some (.imul, 1)],
  [some (.aload_n 0, 1), some (.getfield 512, 3), none, none, some (.aload_n 0, 1), some (.getfield 516, 3), none, none, some (.baload, 1), some (.bipush 48, 2), none, some (.isub, 1), some (.iadd, 1), some (.istore_n 2, 1), some (.aload_n 0, 1), some (.dup, 1)],
  [some (.getfield 516, 3), none, none, some (.iconst 1, 1), some (.iadd, 1), some (.putfield 516, 3), none, none, some (.goto (-54), 3), none, none, some (.aload_n 0, 1), some (.getfield 519, 3), none, none, some (.iload_n 1, 1)],
  [some (.iload_n 2, 1), some (.iastore, 1), some (.aload_n 0, 1), some (.getfield 516, 3), none, none, some (.aload_n 0, 1), some (.getfield 518, 3), none, none, some (.iload_n 1, 1), some (.iaload, 1), some (.isub, 1), some (.iconst 4, 1), some (.if_icmp .gt 7, 3), none],
  [none, some (.iconst 2, 1), some (.goto 4, 3), none, none, some (.iconst 1, 1), some (.ireturn, 1)]])
def mc_X8_findToken : am_M := (99, false, [
  [some (.aload_n 0, 1), some (.getfield 516, 3), none, none, some (.aload_n 0, 1), some (.getfield 513, 3), none, none, some (.if_icmp .lt 5, 3), none, none, some (.iconst 0, 1), some (.ireturn, 1), some (.aload_n 0, 1), some (.getfield 512, 3), none],
  [none, some (.aload_n 0, 1), some (.getfield 516, 3), none, none, some (.baload, 1), some (.invokestatic 58911, 3), none, none, some (.ifCond .eq 9, 3), none, none, some (.aload_n 0, 1), some (.iload_n 1, 1), some (.invokevirtual 58152, 3), none],
  [none, some (.ireturn, 1), some (.aload_n 0, 1), some (.getfield 512, 3), none, none, some (.aload_n 0, 1), some (.getfield 516, 3), none, none, some (.baload, 1), some (.invokestatic 58655, 3), none, none, some (.ifCond .eq 9, 3), none],
  [none, some (.aload_n 0, 1), some (.iload_n 1, 1), some (.invokevirtual 57384, 3), none, none, some (.ireturn, 1), some (.aload_n 0, 1), some (.getfield 512, 3), none, none, some (.aload_n 0, 1), some (.dup, 1), some (.getfield 516, 3), none, none],
  [some (.dup_x1, 1), some (.iconst 1, 1), some (.iadd, 1), some (.putfield 516, 3), none, none, some (.baload, 1), some (.istore_n 2, 1), some (.iload_n 2, 1), some (.invokestatic 59167, 3), none, none, some (.ifCond .eq 7, 3), none, none, some (.iload_n 2, 1)],
  [some (.goto 4, 3), none, none, some (.iconst 1, 1), some (.ireturn, 1)]])
def mc_X8_findTokens : am_M := (99, false, [
  [some (.aload_n 0, 1), some (.iconst 0, 1), some (.putfield 516, 3), none, none, some (.iconst 0, 1), some (.istore_n 1, 1), some (.iload_n 1, 1), some (.sipush 160, 3), none, none, some (.if_icmp .gt 54, 3), none, none, some (.aload_n 0, 1), some (.invokevirtual 62232, 3)],
  [none, none, some (.aload_n 0, 1), some (.getfield 518, 3), none, none, some (.iload_n 1, 1), some (.aload_n 0, 1), some (.getfield 516, 3), none, none, some (.iastore, 1), some (.aload_n 0, 1), some (.getfield 517, 3), none, none],
  [some (.iload_n 1, 1), some (.aload_n 0, 1), some (.iload_n 1, 1), some (.invokevirtual 57640, 3), none, none, some (.iastore, 1), some (.aload_n 0, 1), some (.getfield 517, 3), none, none, some (.iload_n 1, 1), some (.iaload, 1), some (.ifCond .eq 13, 3), none, none],
  [some (.aload_n 0, 1), some (.getfield 517, 3), none, none, some (.iload_n 1, 1), some (.iaload, 1), some (.iconst 1, 1), some (.if_icmp .ne 4, 3), none, none, some (.return_, 1), some (.iinc 1 1, 3), none, none, some (.goto (-55), 3), none],
  [none, some (.return_, 1)]])
def mc_X8_findWord : am_M := (99, false, [
  [some (.aload_n 0, 1), some (.getfield 516, 3), none, none, some (.aload_n 0, 1), some (.getfield 513, 3), none, none, some (.if_icmp .ge 31, 3), none, none, some (.aload_n 0, 1), some (.getfield 512, 3), none, none, some (.aload_n 0, 1)],
  [some (.getfield 516, 3), none, none, some (.baload, 1), some (.invokestatic 58911, 3), none, none, some (.ifCond .eq 16, 3), none, none, some (.aload_n 0, 1), some (.dup, 1), some (.getfield 516, 3), none, none, some (.iconst 1, 1)],
  [some (.iadd, 1), some (.putfield 516, 3), none, none, some (.goto (-36), 3), none, none, some (.aload_n 0, 1), some (.getfield 519, 3), none, none, some (.iload_n 1, 1), some (.aload_n 0, 1), some (.aload_n 0, 1), some (.getfield 518, 3), none],
  [none, some (.iload_n 1, 1), some (.iaload, 1), some (.invokevirtual 59944, 3), none, none, some (.iastore, 1), some (.aload_n 0, 1), some (.getfield 519, 3), none, none, some (.iload_n 1, 1), some (.iaload, 1), some (.ifCond .ge 7, 3), none, none],
  [some (.iconst 3, 1), some (.goto 13, 3), none, none, some (.aload_n 0, 1), some (.aload_n 0, 1), some (.getfield 518, 3), none, none, some (.iload_n 1, 1), some (.iaload, 1), some (.invokevirtual 59432, 3), none, none, some (.ireturn, 1)]])
def mc_X8_init : am_M := (8, false, [
  [some (.aload_n 0, 1), some (.invokespecial 31, 3), none, none, some (.aload_n 0, 1), some (.sipush 160, 3), none, none, some (.newarray .byte, 2), none, some (.putfield 512, 3), none, none, some (.aload_n 0, 1), some (.sipush 161, 3), none],
  [none, some (.newarray .int, 2), none, some (.putfield 517, 3), none, none, some (.aload_n 0, 1), some (.sipush 161, 3), none, none, some (.newarray .int, 2), none, some (.putfield 518, 3), none, none, some (.aload_n 0, 1)],
  [some (.sipush 161, 3), none, none, some (.newarray .int, 2), none, some (.putfield 519, 3), none, none, some (.aload_n 0, 1), some (.sipush 160, 3), none, none, some (.newarray .int, 2), none, some (.putfield 523, 3), none],
  [none, some (.return_, 1)]])
def mc_X8_isDigit : am_M := (99, true, [
  [some (.iload_n 0, 1), some (.bipush 48, 2), none, some (.if_icmp .lt 13, 3), none, none, some (.iload_n 0, 1), some (.bipush 57, 2), none, some (.if_icmp .gt 7, 3), none, none, some (.iconst 1, 1), some (.goto 4, 3), none, none],
  [some (.iconst 0, 1), some (.ireturn, 1)]])
def mc_X8_isLetter : am_M := (99, true, [
  [some (.iload_n 0, 1), some (.bipush 97, 2), none, some (.if_icmp .lt 13, 3), none, none, some (.iload_n 0, 1), some (.bipush 122, 2), none, some (.if_icmp .gt 7, 3), none, none, some (.iconst 1, 1), some (.goto 4, 3), none, none],
  [some (.iconst 0, 1), some (.ireturn, 1)]])
def mc_X8_isSign : am_M := (99, true, [
  [some (.iload_n 0, 1), some (.bipush 40, 2), none, some (.if_icmp .eq 45, 3), none, none, some (.iload_n 0, 1), some (.bipush 41, 2), none, some (.if_icmp .eq 39, 3), none, none, some (.iload_n 0, 1), some (.bipush 59, 2), none, some (.if_icmp .eq 33, 3)],
  [none, none, some (.iload_n 0, 1), some (.bipush 43, 2), none, some (.if_icmp .eq 27, 3), none, none, some (.iload_n 0, 1), some (.bipush 45, 2), none, some (.if_icmp .eq 21, 3), none, none, some (.iload_n 0, 1), some (.bipush 42, 2)],
  [none, some (.if_icmp .eq 15, 3), none, none, some (.iload_n 0, 1), some (.bipush 60, 2), none, some (.if_icmp .eq 9, 3), none, none, some (.iload_n 0, 1), some (.bipush 61, 2), none, some (.if_icmp .ne 7, 3), none, none],
  [some (.iconst 1, 1), some (.goto 4, 3), none, none, some (.iconst 0, 1), some (.ireturn, 1)]])
def mc_X8_keyFrom : am_M := (99, false, [
  [some (.aload_n 0, 1), some (.iload_n 1, 1), some (.ldc 6, 2), none, some (.invokevirtual 62520, 3), none, none, some (.ifCond .eq 5, 3), none, none, some (.iconst 4, 1), some (.ireturn, 1), some (.aload_n 0, 1), some (.iload_n 1, 1), some (.ldc 7, 2), none],
  [some (.invokevirtual 62520, 3), none, none, some (.ifCond .eq 5, 3), none, none, some (.iconst 5, 1), some (.ireturn, 1), some (.aload_n 0, 1), some (.iload_n 1, 1), some (.ldc 8, 2), none, some (.invokevirtual 62520, 3), none, none, some (.ifCond .eq 6, 3)],
  [none, none, some (.bipush 6, 2), none, some (.ireturn, 1), some (.aload_n 0, 1), some (.iload_n 1, 1), some (.ldc 9, 2), none, some (.invokevirtual 62520, 3), none, none, some (.ifCond .eq 6, 3), none, none, some (.bipush 7, 2)],
  [none, some (.ireturn, 1), some (.aload_n 0, 1), some (.iload_n 1, 1), some (.ldc 10, 2), none, some (.invokevirtual 62520, 3), none, none, some (.ifCond .eq 6, 3), none, none, some (.bipush 8, 2), none, some (.ireturn, 1), some (.iconst 1, 1)],
  [some (.ireturn, 1)]])
def mc_X8_mayOpen : am_M := (99, true, [
  [some (.iload_n 1, 1), some (.iconst 5, 1), some (.if_icmp .lt 9, 3), none, none, some (.aload_n 0, 1), some (.invokevirtual 57112, 3), none, none, some (.iconst 0, 1), some (.ireturn, 1), some (.aload_n 0, 1), some (.invokevirtual 56344, 3), none, none, some (.iconst 1, 1)],
  [some (.ireturn, 1)]])
def mc_X8_nameFrom : am_M := (99, false, [
  [some (.aload_n 0, 1), some (.iload_n 1, 1), some (.ldc 0, 2), none, some (.invokevirtual 62520, 3), none, none, some (.ifCond .eq 5, 3), none, none, some (.iconst (-1), 1), some (.ireturn, 1), some (.aload_n 0, 1), some (.iload_n 1, 1), some (.ldc 1, 2), none],
  [some (.invokevirtual 62520, 3), none, none, some (.ifCond .eq 6, 3), none, none, some (.bipush (-2), 2), none, some (.ireturn, 1), some (.aload_n 0, 1), some (.iload_n 1, 1), some (.ldc 2, 2), none, some (.invokevirtual 62520, 3), none, none],
  [some (.ifCond .eq 6, 3), none, none, some (.bipush (-3), 2), none, some (.ireturn, 1), some (.aload_n 0, 1), some (.iload_n 1, 1), some (.ldc 3, 2), none, some (.invokevirtual 62520, 3), none, none, some (.ifCond .eq 6, 3), none, none],
  [some (.bipush (-4), 2), none, some (.ireturn, 1), some (.aload_n 0, 1), some (.iload_n 1, 1), some (.ldc 4, 2), none, some (.invokevirtual 62520, 3), none, none, some (.ifCond .eq 6, 3), none, none, some (.bipush (-5), 2), none, some (.ireturn, 1)],
  [some (.aload_n 0, 1), some (.iload_n 1, 1), some (.ldc 5, 2), none, some (.invokevirtual 62520, 3), none, none, some (.ifCond .eq 6, 3), none, none, some (.bipush (-6), 2), none, some (.ireturn, 1), some (.iconst 0, 1), some (.ireturn, 1)]])
def mc_X8_readBoth : am_M := (99, false, [
  [some (.aload_n 0, 1), some (.iload_n 1, 1), some (.invokevirtual 60712, 3), none, none, some (.iconst 0, 1), some (.istore_n 2, 1), some (.iload_n 2, 1), some (.sipush 160, 3), none, none, some (.if_icmp .ge 33, 3), none, none, some (.aload_n 0, 1), some (.getfield 521, 3)],
  [none, none, some (.bipush 7, 2), none, some (.if_icmp .ne 24, 3), none, none, some (.aload_n 0, 1), some (.invokevirtual 56344, 3), none, none, some (.aload_n 0, 1), some (.iload_n 1, 1), some (.invokevirtual 60712, 3), none, none],
  [some (.aload_n 0, 1), some (.bipush (-10), 2), none, some (.invokevirtual 62760, 3), none, none, some (.iinc 2 1, 3), none, none, some (.goto (-34), 3), none, none, some (.return_, 1)]])
def mc_X8_readEither : am_M := (99, false, [
  [some (.aload_n 0, 1), some (.iload_n 1, 1), some (.invokevirtual 60200, 3), none, none, some (.iconst 0, 1), some (.istore_n 2, 1), some (.iload_n 2, 1), some (.sipush 160, 3), none, none, some (.if_icmp .ge 33, 3), none, none, some (.aload_n 0, 1), some (.getfield 521, 3)],
  [none, none, some (.bipush 6, 2), none, some (.if_icmp .ne 24, 3), none, none, some (.aload_n 0, 1), some (.invokevirtual 56344, 3), none, none, some (.aload_n 0, 1), some (.iload_n 1, 1), some (.invokevirtual 60200, 3), none, none],
  [some (.aload_n 0, 1), some (.bipush (-9), 2), none, some (.invokevirtual 62760, 3), none, none, some (.iinc 2 1, 3), none, none, some (.goto (-34), 3), none, none, some (.return_, 1)]])
def mc_X8_readNot : am_M := (99, false, [
  [some (.aload_n 0, 1), some (.getfield 521, 3), none, none, some (.bipush 8, 2), none, some (.if_icmp .ne 25, 3), none, none, some (.aload_n 0, 1), some (.iload_n 1, 1), some (.invokevirtual 59688, 3), none, none, some (.ifCond .eq 16, 3), none],
  [none, some (.aload_n 0, 1), some (.iload_n 1, 1), some (.iconst 1, 1), some (.iadd, 1), some (.invokevirtual 60712, 3), none, none, some (.aload_n 0, 1), some (.bipush (-7), 2), none, some (.invokevirtual 62760, 3), none, none, some (.return_, 1), some (.aload_n 0, 1)],
  [some (.iload_n 1, 1), some (.invokevirtual 61480, 3), none, none, some (.aload_n 0, 1), some (.getfield 521, 3), none, none, some (.bipush 60, 2), none, some (.if_icmp .eq 12, 3), none, none, some (.aload_n 0, 1), some (.getfield 521, 3), none],
  [none, some (.bipush 61, 2), none, some (.if_icmp .ne 34, 3), none, none, some (.aload_n 0, 1), some (.getfield 521, 3), none, none, some (.bipush 60, 2), none, some (.if_icmp .ne 8, 3), none, none, some (.bipush (-11), 2)],
  [none, some (.goto 5, 3), none, none, some (.bipush (-12), 2), none, some (.istore_n 2, 1), some (.aload_n 0, 1), some (.invokevirtual 56344, 3), none, none, some (.aload_n 0, 1), some (.iload_n 1, 1), some (.invokevirtual 61480, 3), none, none],
  [some (.aload_n 0, 1), some (.iload_n 2, 1), some (.invokevirtual 62760, 3), none, none, some (.return_, 1)]])
def mc_X8_readOne : am_M := (99, false, [
  [some (.aload_n 0, 1), some (.getfield 521, 3), none, none, some (.iconst 2, 1), some (.if_icmp .eq 11, 3), none, none, some (.aload_n 0, 1), some (.getfield 521, 3), none, none, some (.iconst 3, 1), some (.if_icmp .ne 23, 3), none, none],
  [some (.aload_n 0, 1), some (.aload_n 0, 1), some (.getfield 519, 3), none, none, some (.aload_n 0, 1), some (.getfield 520, 3), none, none, some (.iaload, 1), some (.invokevirtual 62760, 3), none, none, some (.aload_n 0, 1), some (.invokevirtual 56344, 3), none],
  [none, some (.goto 73, 3), none, none, some (.aload_n 0, 1), some (.getfield 521, 3), none, none, some (.bipush 45, 2), none, some (.if_icmp .ne 27, 3), none, none, some (.aload_n 0, 1), some (.iload_n 1, 1), some (.invokevirtual 59688, 3)],
  [none, none, some (.ifCond .eq 56, 3), none, none, some (.aload_n 0, 1), some (.iload_n 1, 1), some (.iconst 1, 1), some (.iadd, 1), some (.invokevirtual 60968, 3), none, none, some (.aload_n 0, 1), some (.bipush (-8), 2), none, some (.invokevirtual 62760, 3)],
  [none, none, some (.goto 40, 3), none, none, some (.aload_n 0, 1), some (.getfield 521, 3), none, none, some (.bipush 40, 2), none, some (.if_icmp .ne 27, 3), none, none, some (.aload_n 0, 1), some (.iload_n 1, 1)],
  [some (.invokevirtual 59688, 3), none, none, some (.ifCond .eq 23, 3), none, none, some (.aload_n 0, 1), some (.iload_n 1, 1), some (.iconst 1, 1), some (.iadd, 1), some (.invokevirtual 60456, 3), none, none, some (.aload_n 0, 1), some (.bipush 41, 2), none],
  [some (.invokevirtual 56872, 3), none, none, some (.goto 7, 3), none, none, some (.aload_n 0, 1), some (.invokevirtual 57112, 3), none, none, some (.return_, 1)]])
def mc_X8_readPart : am_M := (99, false, [
  [some (.aload_n 0, 1), some (.iconst 0, 1), some (.putfield 524, 3), none, none, some (.aload_n 0, 1), some (.iload_n 1, 1), some (.invokevirtual 56872, 3), none, none, some (.aload_n 0, 1), some (.iconst 0, 1), some (.invokevirtual 60456, 3), none, none, some (.aload_n 0, 1)],
  [some (.bipush 59, 2), none, some (.invokevirtual 56872, 3), none, none, some (.aload_n 0, 1), some (.getfield 522, 3), none, none, some (.iconst (-1), 1), some (.if_icmp .ne 24, 3), none, none, some (.new 5, 3), none, none],
  [some (.dup, 1), some (.aload_n 0, 1), some (.getfield 523, 3), none, none, some (.aload_n 0, 1), some (.getfield 524, 3), none, none, some (.invokestatic 559, 3), none, none, some (.invokespecial 52783, 3), none, none, some (.goto 4, 3)],
  [none, none, some (.aconst_null, 1), some (.areturn, 1)]])
def mc_X8_readSum : am_M := (99, false, [
  [some (.aload_n 0, 1), some (.iload_n 1, 1), some (.invokevirtual 61992, 3), none, none, some (.iconst 0, 1), some (.istore_n 2, 1), some (.iload_n 2, 1), some (.sipush 160, 3), none, none, some (.if_icmp .ge 58, 3), none, none, some (.aload_n 0, 1), some (.getfield 521, 3)],
  [none, none, some (.bipush 43, 2), none, some (.if_icmp .eq 12, 3), none, none, some (.aload_n 0, 1), some (.getfield 521, 3), none, none, some (.bipush 45, 2), none, some (.if_icmp .ne 40, 3), none, none],
  [some (.aload_n 0, 1), some (.getfield 521, 3), none, none, some (.bipush 43, 2), none, some (.if_icmp .ne 8, 3), none, none, some (.bipush (-13), 2), none, some (.goto 5, 3), none, none, some (.bipush (-14), 2), none],
  [some (.istore_n 3, 1), some (.aload_n 0, 1), some (.invokevirtual 56344, 3), none, none, some (.aload_n 0, 1), some (.iload_n 1, 1), some (.invokevirtual 61992, 3), none, none, some (.aload_n 0, 1), some (.iload_n 3, 1), some (.invokevirtual 62760, 3), none, none, some (.iinc 2 1, 3)],
  [none, none, some (.goto (-59), 3), none, none, some (.return_, 1)]])
def mc_X8_readTape : am_M := (99, false, [
  [some (.aload_n 0, 1), some (.invokevirtual 57880, 3), none, none, some (.aload_n 0, 1), some (.iconst 0, 1), some (.putfield 513, 3), none, none, some (.aload_n 0, 1), some (.iconst (-1), 1), some (.putfield 522, 3), none, none, some (.aload_n 0, 1), some (.iconst 0, 1)],
  [some (.putfield 520, 3), none, none, some (.aload_n 0, 1), some (.aload_n 0, 1), some (.getfield 517, 3), none, none, some (.iconst 0, 1), some (.iaload, 1), some (.putfield 521, 3), none, none, some (.aload_n 0, 1), some (.aload_n 0, 1), some (.iconst 4, 1)],
  [some (.invokevirtual 61224, 3), none, none, some (.putfield 514, 3), none, none, some (.aload_n 0, 1), some (.aload_n 0, 1), some (.iconst 5, 1), some (.invokevirtual 61224, 3), none, none, some (.putfield 515, 3), none, none, some (.aload_n 0, 1)],
  [some (.getfield 521, 3), none, none, some (.ifCond .eq 7, 3), none, none, some (.aload_n 0, 1), some (.invokevirtual 57112, 3), none, none, some (.aload_n 0, 1), some (.getfield 522, 3), none, none, some (.ireturn, 1)]])
def mc_X8_readTerm : am_M := (99, false, [
  [some (.aload_n 0, 1), some (.iload_n 1, 1), some (.invokevirtual 60968, 3), none, none, some (.iconst 0, 1), some (.istore_n 2, 1), some (.iload_n 2, 1), some (.sipush 160, 3), none, none, some (.if_icmp .ge 33, 3), none, none, some (.aload_n 0, 1), some (.getfield 521, 3)],
  [none, none, some (.bipush 42, 2), none, some (.if_icmp .ne 24, 3), none, none, some (.aload_n 0, 1), some (.invokevirtual 56344, 3), none, none, some (.aload_n 0, 1), some (.iload_n 1, 1), some (.invokevirtual 60968, 3), none, none],
  [some (.aload_n 0, 1), some (.bipush (-15), 2), none, some (.invokevirtual 62760, 3), none, none, some (.iinc 2 1, 3), none, none, some (.goto (-34), 3), none, none, some (.return_, 1)]])
def mc_X8_skipBlanks : am_M := (99, false, [
  [some (.aload_n 0, 1), some (.getfield 516, 3), none, none, some (.aload_n 0, 1), some (.getfield 513, 3), none, none, some (.if_icmp .ge 44, 3), none, none, some (.aload_n 0, 1), some (.getfield 512, 3), none, none, some (.aload_n 0, 1)],
  [some (.getfield 516, 3), none, none, some (.baload, 1), some (.bipush 32, 2), none, some (.if_icmp .eq 17, 3), none, none, some (.aload_n 0, 1), some (.getfield 512, 3), none, none, some (.aload_n 0, 1), some (.getfield 516, 3), none],
  [none, some (.baload, 1), some (.bipush 10, 2), none, some (.if_icmp .ne 16, 3), none, none, some (.aload_n 0, 1), some (.dup, 1), some (.getfield 516, 3), none, none, some (.iconst 1, 1), some (.iadd, 1), some (.putfield 516, 3), none],
  [none, some (.goto (-49), 3), none, none, some (.return_, 1)]])
def mc_X8_spells : am_M := (99, true, [
  [some (.aload_n 0, 1), some (.getfield 516, 3), none, none, some (.iload_n 1, 1), some (.isub, 1), some (.aload_n 2, 1), some (.invokedynamic 2, 3), none, none, some (.if_icmp .eq 5, 3), none, none, some (.iconst 0, 1), some (.ireturn, 1), some (.iconst 0, 1)],
  [some (.istore_n 3, 1), some (.iload_n 3, 1), some (.aload_n 2, 1), some (.invokedynamic 2, 3), none, none, some (.if_icmp .ge 27, 3), none, none, some (.aload_n 0, 1), some (.getfield 512, 3), none, none, some (.iload_n 1, 1), some (.iload_n 3, 1), some (.iadd, 1)],
  [some (.baload, 1), some (.aload_n 2, 1), some (.iload_n 3, 1), some (.invokedynamic 3, 3), none, none, some (.if_icmp .eq 5, 3), none, none, some (.iconst 0, 1), some (.ireturn, 1), some (.iinc 3 1, 3), none, none, some (.goto (-29), 3), none],
  [none, some (.iconst 1, 1), some (.ireturn, 1)]])
def mc_X8_write : am_M := (99, false, [
  [some (.aload_n 0, 1), some (.getfield 524, 3), none, none, some (.sipush 160, 3), none, none, some (.if_icmp .ge 20, 3), none, none, some (.aload_n 0, 1), some (.getfield 523, 3), none, none, some (.aload_n 0, 1), some (.dup, 1)],
  [some (.getfield 524, 3), none, none, some (.dup_x1, 1), some (.iconst 1, 1), some (.iadd, 1), some (.putfield 524, 3), none, none, some (.iload_n 1, 1), some (.iastore, 1), some (.return_, 1)]])
def mc_X9_add : am_M := (99, false, [
  [some (.aload_n 0, 1), some (.getfield 576, 3), none, none, some (.aload_n 0, 1), some (.getfield 580, 3), none, none, some (.iload_n 1, 1), some (.iastore, 1), some (.aload_n 0, 1), some (.getfield 577, 3), none, none, some (.aload_n 0, 1), some (.getfield 580, 3)],
  [none, none, some (.iload_n 2, 1), some (.iastore, 1), some (.aload_n 0, 1), some (.getfield 578, 3), none, none, some (.aload_n 0, 1), some (.getfield 580, 3), none, none, some (.iload_n 3, 1), some (.iastore, 1), some (.aload_n 0, 1), some (.getfield 579, 3)],
  [none, none, some (.aload_n 0, 1), some (.getfield 580, 3), none, none, some (.iload 4, 2), none, some (.iastore, 1), some (.aload_n 0, 1), some (.dup, 1), some (.getfield 580, 3), none, none, some (.dup_x1, 1), some (.iconst 1, 1)],
  [some (.iadd, 1), some (.putfield 580, 3), none, none, some (.ireturn, 1)]])
def mc_X9_init : am_M := (9, false, [
  [some (.aload_n 0, 1), some (.invokespecial 31, 3), none, none, some (.aload_n 0, 1), some (.bipush 30, 2), none, some (.newarray .int, 2), none, some (.putfield 576, 3), none, none, some (.aload_n 0, 1), some (.bipush 30, 2), none, some (.newarray .int, 2)],
  [none, some (.putfield 577, 3), none, none, some (.aload_n 0, 1), some (.bipush 30, 2), none, some (.newarray .int, 2), none, some (.putfield 578, 3), none, none, some (.aload_n 0, 1), some (.bipush 30, 2), none, some (.newarray .int, 2)],
  [none, some (.putfield 579, 3), none, none, some (.return_, 1)]])
def mc_X9_owedAgain : am_M := (99, false, [
  [some (.lconst 0, 1), some (.lstore 4, 2), none, some (.iconst 0, 1), some (.istore 6, 2), none, some (.iload 6, 2), none, some (.aload_n 0, 1), some (.getfield 580, 3), none, none, some (.if_icmp .ge 84, 3), none, none, some (.aload_n 1, 1)],
  [some (.iload_n 2, 1), some (.aload_n 0, 1), some (.getfield 576, 3), none, none, some (.iload 6, 2), none, some (.iaload, 1), some (.aload_n 0, 1), some (.getfield 579, 3), none, none, some (.iload 6, 2), none, some (.iaload, 1), some (.invokevirtual 47681, 3)],
  [none, none, some (.istore 7, 2), none, some (.iload 7, 2), none, some (.iconst (-1), 1), some (.if_icmp .eq 19, 3), none, none, some (.iload 7, 2), none, some (.aload_n 0, 1), some (.getfield 577, 3), none, none],
  [some (.iload 6, 2), none, some (.iaload, 1), some (.if_icmp .eq 7, 3), none, none, some (.iconst 1, 1), some (.goto 4, 3), none, none, some (.iconst 0, 1), some (.istore 8, 2), none, some (.iload 8, 2), none, some (.ifCond .eq 27, 3)],
  [none, none, some (.iload_n 3, 1), some (.iconst (-1), 1), some (.if_icmp .eq 9, 3), none, none, some (.iload_n 3, 1), some (.iload 7, 2), none, some (.if_icmp .ne 16, 3), none, none, some (.lload 4, 2), none, some (.aload_n 0, 1)],
  [some (.getfield 578, 3), none, none, some (.iload 6, 2), none, some (.iaload, 1), some (.i2l, 1), some (.ladd, 1), some (.lstore 4, 2), none, some (.iinc 6 1, 3), none, none, some (.goto (-87), 3), none, none],
  [some (.lload 4, 2), none, some (.lreturn, 1)]])
abbrev ix_objinit : Nat := 0
abbrev ix_J6_bitCount_0f7a4 : Nat := 1
abbrev ix_J7_copyOf_59c91 : Nat := 2
abbrev ix_J7_fill_53178 : Nat := 3
abbrev ix_J9_min : Nat := 4
abbrev ix_L_law : Nat := 5
abbrev ix_X0_add : Nat := 6
abbrev ix_X0_init : Nat := 7
abbrev ix_X0_isBetter : Nat := 8
abbrev ix_X0_settled : Nat := 9
abbrev ix_X0_takersOf : Nat := 10
abbrev ix_X0_undoneBy : Nat := 11
abbrev ix_X10_become : Nat := 12
abbrev ix_X10_holds : Nat := 13
abbrev ix_X10_init : Nat := 14
abbrev ix_X10_isMissing : Nat := 15
abbrev ix_X10_put : Nat := 16
abbrev ix_X11_act : Nat := 17
abbrev ix_X11_actTold : Nat := 18
abbrev ix_X11_acts : Nat := 19
abbrev ix_X11_against : Nat := 20
abbrev ix_X11_bought : Nat := 21
abbrev ix_X11_bound : Nat := 22
abbrev ix_X11_byRight : Nat := 23
abbrev ix_X11_cell : Nat := 24
abbrev ix_X11_changed : Nat := 25
abbrev ix_X11_clash : Nat := 26
abbrev ix_X11_clause : Nat := 27
abbrev ix_X11_copy : Nat := 28
abbrev ix_X11_council : Nat := 29
abbrev ix_X11_count : Nat := 30
abbrev ix_X11_crossed : Nat := 31
abbrev ix_X11_elector : Nat := 32
abbrev ix_X11_far : Nat := 33
abbrev ix_X11_feed : Nat := 34
abbrev ix_X11_felled : Nat := 35
abbrev ix_X11_goTogether : Nat := 36
abbrev ix_X11_hang : Nat := 37
abbrev ix_X11_has : Nat := 38
abbrev ix_X11_inForce : Nat := 39
abbrev ix_X11_init : Nat := 40
abbrev ix_X11_isAct : Nat := 41
abbrev ix_X11_isClause : Nat := 42
abbrev ix_X11_isDay : Nat := 43
abbrev ix_X11_isLand : Nat := 44
abbrev ix_X11_isOffice : Nat := 45
abbrev ix_X11_isPerson : Nat := 46
abbrev ix_X11_isSheet : Nat := 47
abbrev ix_X11_isSide : Nat := 48
abbrev ix_X11_isUnder : Nat := 49
abbrev ix_X11_isWithin : Nat := 50
abbrev ix_X11_journey : Nat := 51
abbrev ix_X11_known : Nat := 52
abbrev ix_X11_lift : Nat := 53
abbrev ix_X11_office : Nat := 54
abbrev ix_X11_officeTold : Nat := 55
abbrev ix_X11_owed : Nat := 56
abbrev ix_X11_pay : Nat := 57
abbrev ix_X11_person : Nat := 58
abbrev ix_X11_quarrels : Nat := 59
abbrev ix_X11_road : Nat := 60
abbrev ix_X11_rule : Nat := 61
abbrev ix_X11_says : Nat := 62
abbrev ix_X11_seat : Nat := 63
abbrev ix_X11_seats : Nat := 64
abbrev ix_X11_seatsRow : Nat := 65
abbrev ix_X11_setApart : Nat := 66
abbrev ix_X11_settling : Nat := 67
abbrev ix_X11_sheet : Nat := 68
abbrev ix_X11_side : Nat := 69
abbrev ix_X11_sumOver : Nat := 70
abbrev ix_X11_taken : Nat := 71
abbrev ix_X11_text : Nat := 72
abbrev ix_X11_turn : Nat := 73
abbrev ix_X11_worth : Nat := 74
abbrev ix_X12_act : Nat := 75
abbrev ix_X12_actTold : Nat := 76
abbrev ix_X12_acts : Nat := 77
abbrev ix_X12_against : Nat := 78
abbrev ix_X12_ahead : Nat := 79
abbrev ix_X12_ask : Nat := 80
abbrev ix_X12_both : Nat := 81
abbrev ix_X12_bought : Nat := 82
abbrev ix_X12_bound : Nat := 83
abbrev ix_X12_byRight : Nat := 84
abbrev ix_X12_canBuy : Nat := 85
abbrev ix_X12_cell : Nat := 86
abbrev ix_X12_changed : Nat := 87
abbrev ix_X12_clash : Nat := 88
abbrev ix_X12_clause : Nat := 89
abbrev ix_X12_copy : Nat := 90
abbrev ix_X12_council : Nat := 91
abbrev ix_X12_count : Nat := 92
abbrev ix_X12_crossed : Nat := 93
abbrev ix_X12_elector : Nat := 94
abbrev ix_X12_far : Nat := 95
abbrev ix_X12_feed : Nat := 96
abbrev ix_X12_felled : Nat := 97
abbrev ix_X12_findFar : Nat := 98
abbrev ix_X12_firmOf : Nat := 99
abbrev ix_X12_goTogether : Nat := 100
abbrev ix_X12_goodBy : Nat := 101
abbrev ix_X12_goodOf : Nat := 102
abbrev ix_X12_hang : Nat := 103
abbrev ix_X12_hold : Nat := 104
abbrev ix_X12_in : Nat := 105
abbrev ix_X12_inForce : Nat := 106
abbrev ix_X12_init : Nat := 107
abbrev ix_X12_isAct : Nat := 108
abbrev ix_X12_isBetter : Nat := 109
abbrev ix_X12_isClause : Nat := 110
abbrev ix_X12_isDay : Nat := 111
abbrev ix_X12_isDigit : Nat := 112
abbrev ix_X12_isKey : Nat := 113
abbrev ix_X12_isLand : Nat := 114
abbrev ix_X12_isLetter : Nat := 115
abbrev ix_X12_isOffice : Nat := 116
abbrev ix_X12_isOn : Nat := 117
abbrev ix_X12_isPerson : Nat := 118
abbrev ix_X12_isSheet : Nat := 119
abbrev ix_X12_isSide : Nat := 120
abbrev ix_X12_isSign : Nat := 121
abbrev ix_X12_isText : Nat := 122
abbrev ix_X12_isTurn : Nat := 123
abbrev ix_X12_isUnder : Nat := 124
abbrev ix_X12_isWord : Nat := 125
abbrev ix_X12_journey : Nat := 126
abbrev ix_X12_knew : Nat := 127
abbrev ix_X12_known : Nat := 128
abbrev ix_X12_knownIn : Nat := 129
abbrev ix_X12_lastsOf : Nat := 130
abbrev ix_X12_lift : Nat := 131
abbrev ix_X12_namingOf : Nat := 132
abbrev ix_X12_next : Nat := 133
abbrev ix_X12_nextOrder : Nat := 134
abbrev ix_X12_note : Nat := 135
abbrev ix_X12_office : Nat := 136
abbrev ix_X12_officeTold : Nat := 137
abbrev ix_X12_ones : Nat := 138
abbrev ix_X12_owed : Nat := 139
abbrev ix_X12_part : Nat := 140
abbrev ix_X12_pay : Nat := 141
abbrev ix_X12_person : Nat := 142
abbrev ix_X12_priceOf : Nat := 143
abbrev ix_X12_put : Nat := 144
abbrev ix_X12_quarrels : Nat := 145
abbrev ix_X12_rank : Nat := 146
abbrev ix_X12_rankOf : Nat := 147
abbrev ix_X12_rightOf : Nat := 148
abbrev ix_X12_road : Nat := 149
abbrev ix_X12_rule : Nat := 150
abbrev ix_X12_ruleZero : Nat := 151
abbrev ix_X12_savedBy : Nat := 152
abbrev ix_X12_says : Nat := 153
abbrev ix_X12_seat : Nat := 154
abbrev ix_X12_seats : Nat := 155
abbrev ix_X12_seatsOf : Nat := 156
abbrev ix_X12_seatsRow : Nat := 157
abbrev ix_X12_settle : Nat := 158
abbrev ix_X12_settling : Nat := 159
abbrev ix_X12_sheet : Nat := 160
abbrev ix_X12_side : Nat := 161
abbrev ix_X12_sideOf : Nat := 162
abbrev ix_X12_signOf : Nat := 163
abbrev ix_X12_soundBy : Nat := 164
abbrev ix_X12_taken : Nat := 165
abbrev ix_X12_takersOf : Nat := 166
abbrev ix_X12_text : Nat := 167
abbrev ix_X12_turn : Nat := 168
abbrev ix_X12_undoneBy : Nat := 169
abbrev ix_X12_wonBy : Nat := 170
abbrev ix_X12_wordToken : Nat := 171
abbrev ix_X12_work : Nat := 172
abbrev ix_X12_worth : Nat := 173
abbrev ix_X1_addText : Nat := 174
abbrev ix_X1_changedBy : Nat := 175
abbrev ix_X1_firmAmong : Nat := 176
abbrev ix_X1_forceOn : Nat := 177
abbrev ix_X1_goodAmong : Nat := 178
abbrev ix_X1_goodUnder : Nat := 179
abbrev ix_X1_hangingWithin : Nat := 180
abbrev ix_X1_init : Nat := 181
abbrev ix_X1_knewOf : Nat := 182
abbrev ix_X1_knownFrom : Nat := 183
abbrev ix_X1_landOf : Nat := 184
abbrev ix_X1_namingOn : Nat := 185
abbrev ix_X1_rightful : Nat := 186
abbrev ix_X1_tellsApart : Nat := 187
abbrev ix_X1_trueUnder : Nat := 188
abbrev ix_X1_valueIfHeld : Nat := 189
abbrev ix_X1_valueOf : Nat := 190
abbrev ix_X2_add : Nat := 191
abbrev ix_X2_init : Nat := 192
abbrev ix_X2_lastsFor : Nat := 193
abbrev ix_X2_rankOf : Nat := 194
abbrev ix_X2_runsOn : Nat := 195
abbrev ix_X2_tell : Nat := 196
abbrev ix_X3_add : Nat := 197
abbrev ix_X3_cheapest : Nat := 198
abbrev ix_X3_init : Nat := 199
abbrev ix_X4_giveUp : Nat := 200
abbrev ix_X4_goOn : Nat := 201
abbrev ix_X4_init : Nat := 202
abbrev ix_X4_keep : Nat := 203
abbrev ix_X4_mayBeWon : Nat := 204
abbrev ix_X4_plan : Nat := 205
abbrev ix_X5_init : Nat := 206
abbrev ix_X5_joined : Nat := 207
abbrev ix_X5_valueFor : Nat := 208
abbrev ix_X6_addTurn : Nat := 209
abbrev ix_X6_call : Nat := 210
abbrev ix_X6_holdingToOne : Nat := 211
abbrev ix_X6_init : Nat := 212
abbrev ix_X6_lay : Nat := 213
abbrev ix_X6_measure : Nat := 214
abbrev ix_X6_sideIfTurned : Nat := 215
abbrev ix_X6_sideOn : Nat := 216
abbrev ix_X6_turnOn : Nat := 217
abbrev ix_X6_within : Nat := 218
abbrev ix_X7_init : Nat := 219
abbrev ix_X8_advance : Nat := 220
abbrev ix_X8_append : Nat := 221
abbrev ix_X8_expect : Nat := 222
abbrev ix_X8_fail : Nat := 223
abbrev ix_X8_findNumber : Nat := 224
abbrev ix_X8_findToken : Nat := 225
abbrev ix_X8_findTokens : Nat := 226
abbrev ix_X8_findWord : Nat := 227
abbrev ix_X8_init : Nat := 228
abbrev ix_X8_isDigit : Nat := 229
abbrev ix_X8_isLetter : Nat := 230
abbrev ix_X8_isSign : Nat := 231
abbrev ix_X8_keyFrom : Nat := 232
abbrev ix_X8_mayOpen : Nat := 233
abbrev ix_X8_nameFrom : Nat := 234
abbrev ix_X8_readBoth : Nat := 235
abbrev ix_X8_readEither : Nat := 236
abbrev ix_X8_readNot : Nat := 237
abbrev ix_X8_readOne : Nat := 238
abbrev ix_X8_readPart : Nat := 239
abbrev ix_X8_readSum : Nat := 240
abbrev ix_X8_readTape : Nat := 241
abbrev ix_X8_readTerm : Nat := 242
abbrev ix_X8_skipBlanks : Nat := 243
abbrev ix_X8_spells : Nat := 244
abbrev ix_X8_write : Nat := 245
abbrev ix_X9_add : Nat := 246
abbrev ix_X9_init : Nat := 247
abbrev ix_X9_owedAgain : Nat := 248
def am_P (k : Nat) : Option (am_M × Nat) := match k with
  | 0 => some (mc_objinit, 1)
  | 1 => some (mc_J6_bitCount_0f7a4, 1)
  | 2 => some (mc_J7_copyOf_59c91, 3)
  | 3 => some (mc_J7_fill_53178, 4)
  | 4 => some (mc_J9_min, 2)
  | 5 => some (mc_L_law, 4)
  | 6 => some (mc_X0_add, 2)
  | 7 => some (mc_X0_init, 1)
  | 8 => some (mc_X0_isBetter, 6)
  | 9 => some (mc_X0_settled, 6)
  | 10 => some (mc_X0_takersOf, 4)
  | 11 => some (mc_X0_undoneBy, 5)
  | 12 => some (mc_X10_become, 3)
  | 13 => some (mc_X10_holds, 3)
  | 14 => some (mc_X10_init, 1)
  | 15 => some (mc_X10_isMissing, 1)
  | 16 => some (mc_X10_put, 3)
  | 17 => some (mc_X11_act, 6)
  | 18 => some (mc_X11_actTold, 3)
  | 19 => some (mc_X11_acts, 7)
  | 20 => some (mc_X11_against, 3)
  | 21 => some (mc_X11_bought, 3)
  | 22 => some (mc_X11_bound, 4)
  | 23 => some (mc_X11_byRight, 4)
  | 24 => some (mc_X11_cell, 5)
  | 25 => some (mc_X11_changed, 4)
  | 26 => some (mc_X11_clash, 3)
  | 27 => some (mc_X11_clause, 2)
  | 28 => some (mc_X11_copy, 8)
  | 29 => some (mc_X11_council, 5)
  | 30 => some (mc_X11_count, 2)
  | 31 => some (mc_X11_crossed, 3)
  | 32 => some (mc_X11_elector, 3)
  | 33 => some (mc_X11_far, 3)
  | 34 => some (mc_X11_feed, 4)
  | 35 => some (mc_X11_felled, 5)
  | 36 => some (mc_X11_goTogether, 3)
  | 37 => some (mc_X11_hang, 3)
  | 38 => some (mc_X11_has, 2)
  | 39 => some (mc_X11_inForce, 3)
  | 40 => some (mc_X11_init, 2)
  | 41 => some (mc_X11_isAct, 2)
  | 42 => some (mc_X11_isClause, 2)
  | 43 => some (mc_X11_isDay, 1)
  | 44 => some (mc_X11_isLand, 1)
  | 45 => some (mc_X11_isOffice, 1)
  | 46 => some (mc_X11_isPerson, 2)
  | 47 => some (mc_X11_isSheet, 1)
  | 48 => some (mc_X11_isSide, 1)
  | 49 => some (mc_X11_isUnder, 4)
  | 50 => some (mc_X11_isWithin, 3)
  | 51 => some (mc_X11_journey, 4)
  | 52 => some (mc_X11_known, 3)
  | 53 => some (mc_X11_lift, 3)
  | 54 => some (mc_X11_office, 4)
  | 55 => some (mc_X11_officeTold, 3)
  | 56 => some (mc_X11_owed, 3)
  | 57 => some (mc_X11_pay, 5)
  | 58 => some (mc_X11_person, 2)
  | 59 => some (mc_X11_quarrels, 7)
  | 60 => some (mc_X11_road, 5)
  | 61 => some (mc_X11_rule, 4)
  | 62 => some (mc_X11_says, 4)
  | 63 => some (mc_X11_seat, 4)
  | 64 => some (mc_X11_seats, 4)
  | 65 => some (mc_X11_seatsRow, 9)
  | 66 => some (mc_X11_setApart, 3)
  | 67 => some (mc_X11_settling, 5)
  | 68 => some (mc_X11_sheet, 4)
  | 69 => some (mc_X11_side, 3)
  | 70 => some (mc_X11_sumOver, 4)
  | 71 => some (mc_X11_taken, 4)
  | 72 => some (mc_X11_text, 2)
  | 73 => some (mc_X11_turn, 4)
  | 74 => some (mc_X11_worth, 5)
  | 75 => some (mc_X12_act, 6)
  | 76 => some (mc_X12_actTold, 3)
  | 77 => some (mc_X12_acts, 7)
  | 78 => some (mc_X12_against, 4)
  | 79 => some (mc_X12_ahead, 2)
  | 80 => some (mc_X12_ask, 4)
  | 81 => some (mc_X12_both, 4)
  | 82 => some (mc_X12_bought, 4)
  | 83 => some (mc_X12_bound, 4)
  | 84 => some (mc_X12_byRight, 4)
  | 85 => some (mc_X12_canBuy, 4)
  | 86 => some (mc_X12_cell, 4)
  | 87 => some (mc_X12_changed, 9)
  | 88 => some (mc_X12_clash, 4)
  | 89 => some (mc_X12_clause, 2)
  | 90 => some (mc_X12_copy, 7)
  | 91 => some (mc_X12_council, 8)
  | 92 => some (mc_X12_count, 2)
  | 93 => some (mc_X12_crossed, 3)
  | 94 => some (mc_X12_elector, 3)
  | 95 => some (mc_X12_far, 3)
  | 96 => some (mc_X12_feed, 5)
  | 97 => some (mc_X12_felled, 5)
  | 98 => some (mc_X12_findFar, 5)
  | 99 => some (mc_X12_firmOf, 6)
  | 100 => some (mc_X12_goTogether, 4)
  | 101 => some (mc_X12_goodBy, 2)
  | 102 => some (mc_X12_goodOf, 6)
  | 103 => some (mc_X12_hang, 3)
  | 104 => some (mc_X12_hold, 2)
  | 105 => some (mc_X12_in, 4)
  | 106 => some (mc_X12_inForce, 6)
  | 107 => some (mc_X12_init, 2)
  | 108 => some (mc_X12_isAct, 2)
  | 109 => some (mc_X12_isBetter, 4)
  | 110 => some (mc_X12_isClause, 2)
  | 111 => some (mc_X12_isDay, 2)
  | 112 => some (mc_X12_isDigit, 2)
  | 113 => some (mc_X12_isKey, 2)
  | 114 => some (mc_X12_isLand, 2)
  | 115 => some (mc_X12_isLetter, 2)
  | 116 => some (mc_X12_isOffice, 2)
  | 117 => some (mc_X12_isOn, 3)
  | 118 => some (mc_X12_isPerson, 2)
  | 119 => some (mc_X12_isSheet, 2)
  | 120 => some (mc_X12_isSide, 2)
  | 121 => some (mc_X12_isSign, 2)
  | 122 => some (mc_X12_isText, 2)
  | 123 => some (mc_X12_isTurn, 4)
  | 124 => some (mc_X12_isUnder, 3)
  | 125 => some (mc_X12_isWord, 6)
  | 126 => some (mc_X12_journey, 8)
  | 127 => some (mc_X12_knew, 4)
  | 128 => some (mc_X12_known, 3)
  | 129 => some (mc_X12_knownIn, 4)
  | 130 => some (mc_X12_lastsOf, 2)
  | 131 => some (mc_X12_lift, 3)
  | 132 => some (mc_X12_namingOf, 6)
  | 133 => some (mc_X12_next, 2)
  | 134 => some (mc_X12_nextOrder, 6)
  | 135 => some (mc_X12_note, 4)
  | 136 => some (mc_X12_office, 4)
  | 137 => some (mc_X12_officeTold, 3)
  | 138 => some (mc_X12_ones, 4)
  | 139 => some (mc_X12_owed, 8)
  | 140 => some (mc_X12_part, 4)
  | 141 => some (mc_X12_pay, 5)
  | 142 => some (mc_X12_person, 2)
  | 143 => some (mc_X12_priceOf, 4)
  | 144 => some (mc_X12_put, 2)
  | 145 => some (mc_X12_quarrels, 6)
  | 146 => some (mc_X12_rank, 2)
  | 147 => some (mc_X12_rankOf, 2)
  | 148 => some (mc_X12_rightOf, 5)
  | 149 => some (mc_X12_road, 5)
  | 150 => some (mc_X12_rule, 4)
  | 151 => some (mc_X12_ruleZero, 1)
  | 152 => some (mc_X12_savedBy, 4)
  | 153 => some (mc_X12_says, 4)
  | 154 => some (mc_X12_seat, 4)
  | 155 => some (mc_X12_seats, 4)
  | 156 => some (mc_X12_seatsOf, 6)
  | 157 => some (mc_X12_seatsRow, 7)
  | 158 => some (mc_X12_settle, 2)
  | 159 => some (mc_X12_settling, 6)
  | 160 => some (mc_X12_sheet, 5)
  | 161 => some (mc_X12_side, 3)
  | 162 => some (mc_X12_sideOf, 5)
  | 163 => some (mc_X12_signOf, 1)
  | 164 => some (mc_X12_soundBy, 4)
  | 165 => some (mc_X12_taken, 3)
  | 166 => some (mc_X12_takersOf, 6)
  | 167 => some (mc_X12_text, 3)
  | 168 => some (mc_X12_turn, 4)
  | 169 => some (mc_X12_undoneBy, 5)
  | 170 => some (mc_X12_wonBy, 7)
  | 171 => some (mc_X12_wordToken, 1)
  | 172 => some (mc_X12_work, 7)
  | 173 => some (mc_X12_worth, 5)
  | 174 => some (mc_X1_addText, 3)
  | 175 => some (mc_X1_changedBy, 8)
  | 176 => some (mc_X1_firmAmong, 6)
  | 177 => some (mc_X1_forceOn, 6)
  | 178 => some (mc_X1_goodAmong, 6)
  | 179 => some (mc_X1_goodUnder, 2)
  | 180 => some (mc_X1_hangingWithin, 4)
  | 181 => some (mc_X1_init, 4)
  | 182 => some (mc_X1_knewOf, 4)
  | 183 => some (mc_X1_knownFrom, 4)
  | 184 => some (mc_X1_landOf, 2)
  | 185 => some (mc_X1_namingOn, 8)
  | 186 => some (mc_X1_rightful, 5)
  | 187 => some (mc_X1_tellsApart, 7)
  | 188 => some (mc_X1_trueUnder, 5)
  | 189 => some (mc_X1_valueIfHeld, 6)
  | 190 => some (mc_X1_valueOf, 5)
  | 191 => some (mc_X2_add, 6)
  | 192 => some (mc_X2_init, 1)
  | 193 => some (mc_X2_lastsFor, 2)
  | 194 => some (mc_X2_rankOf, 2)
  | 195 => some (mc_X2_runsOn, 3)
  | 196 => some (mc_X2_tell, 3)
  | 197 => some (mc_X3_add, 3)
  | 198 => some (mc_X3_cheapest, 9)
  | 199 => some (mc_X3_init, 1)
  | 200 => some (mc_X4_giveUp, 6)
  | 201 => some (mc_X4_goOn, 9)
  | 202 => some (mc_X4_init, 2)
  | 203 => some (mc_X4_keep, 2)
  | 204 => some (mc_X4_mayBeWon, 7)
  | 205 => some (mc_X4_plan, 3)
  | 206 => some (mc_X5_init, 2)
  | 207 => some (mc_X5_joined, 3)
  | 208 => some (mc_X5_valueFor, 7)
  | 209 => some (mc_X6_addTurn, 4)
  | 210 => some (mc_X6_call, 12)
  | 211 => some (mc_X6_holdingToOne, 4)
  | 212 => some (mc_X6_init, 2)
  | 213 => some (mc_X6_lay, 4)
  | 214 => some (mc_X6_measure, 4)
  | 215 => some (mc_X6_sideIfTurned, 6)
  | 216 => some (mc_X6_sideOn, 4)
  | 217 => some (mc_X6_turnOn, 6)
  | 218 => some (mc_X6_within, 6)
  | 219 => some (mc_X7_init, 1)
  | 220 => some (mc_X8_advance, 1)
  | 221 => some (mc_X8_append, 5)
  | 222 => some (mc_X8_expect, 2)
  | 223 => some (mc_X8_fail, 1)
  | 224 => some (mc_X8_findNumber, 3)
  | 225 => some (mc_X8_findToken, 3)
  | 226 => some (mc_X8_findTokens, 2)
  | 227 => some (mc_X8_findWord, 2)
  | 228 => some (mc_X8_init, 1)
  | 229 => some (mc_X8_isDigit, 1)
  | 230 => some (mc_X8_isLetter, 1)
  | 231 => some (mc_X8_isSign, 1)
  | 232 => some (mc_X8_keyFrom, 2)
  | 233 => some (mc_X8_mayOpen, 2)
  | 234 => some (mc_X8_nameFrom, 2)
  | 235 => some (mc_X8_readBoth, 3)
  | 236 => some (mc_X8_readEither, 3)
  | 237 => some (mc_X8_readNot, 3)
  | 238 => some (mc_X8_readOne, 2)
  | 239 => some (mc_X8_readPart, 2)
  | 240 => some (mc_X8_readSum, 4)
  | 241 => some (mc_X8_readTape, 1)
  | 242 => some (mc_X8_readTerm, 3)
  | 243 => some (mc_X8_skipBlanks, 1)
  | 244 => some (mc_X8_spells, 4)
  | 245 => some (mc_X8_write, 2)
  | 246 => some (mc_X9_add, 5)
  | 247 => some (mc_X9_init, 1)
  | 248 => some (mc_X9_owedAgain, 9)
  | _ => none
end
section
/-! ===== one step, a run, a call ===== -/
def am_pop : Nat → List Value → List Value → Option (List Value × List Value)
  | 0, acc, st => some (acc, st)
  | n + 1, acc, v :: st => am_pop n (v :: acc) st
  | _ + 1, _, [] => none
/-- a step: on in the frame; a call (whom, with what, and where it goes on); the end -/
abbrev am_O : Type := am_Cf ⊕ ((Nat × List Value × am_Cf) ⊕ Option Value)
/-- md: 0 static, 1 virtual, 2 a constructor -/
def am_cl (md : Nat) (z : Nat) (pc : Nat) (L : am_L) (st : List Value) (h : am_H) : Option am_O := match am_pop (z / 16 % 16) [] st with
  | some (as, rest) => if am_w rest ≤ 8 then (match md with
      | 0 => some (.inr (.inl (z / 256, as, (pc + 3, L, rest, h))))
      | 1 => (match as with
        | .ref b :: _ => (match h[b]? with
          | some (.inr (.inr (ci, _))) => if ci = z % 16 then some (.inr (.inl (z / 256, as, (pc + 3, L, rest, h)))) else none
          | _ => none)
        | _ => none)
      | _ => (match as with
        | .ref _ :: _ => some (.inr (.inl (z / 256, as, (pc + 3, L, rest, h))))
        | _ => none)) else none
  | none => none
def am_rt (M : am_M) (i : Instr) (st : List Value) : Option (Option Value) := match i with
  | .ireturn => match st with
    | [.int v] => if M.2.1 = true then (if v = 0 ∨ v = 1 then some (some (.int v)) else none) else some (some (.int v))
    | _ => none
  | .lreturn => match st with
    | [.long v] => some (some (.long v))
    | _ => none
  | .areturn => match st with
    | [.ref v] => some (some (.ref v))
    | [.null] => some (some .null)
    | _ => none
  | .return_ => match st with
    | [] => some none
    | _ => none
  | _ => none
/-- 0 pure, 1 branch, 2 heap, 3 virtual call, 4 static call, 5 a constructor's, 6 return -/
def am_kind (i : Instr) : Nat := match i with
  | .goto _ | .ifCond _ _ | .if_icmp _ _ | .ifnonnull _ | .tableswitch _ _ _ _ => 1
  | .getfield _ | .putfield _ | .iaload | .baload | .aaload | .iastore | .bastore | .aastore | .arraylength | .new _ | .newarray _ | .anewarray _ | .multianewarray _ _ | .getstatic _ | .ldc _ | .ldc_w _ | .ldc2_w _ | .checkcast _ | .invokedynamic _ => 2
  | .invokevirtual _ => 3
  | .invokestatic _ => 4
  | .invokespecial _ => 5
  | .ireturn | .lreturn | .areturn | .return_ => 6
  | _ => 0
def am_cz (i : Instr) : Nat := match i with
  | .invokevirtual z => z
  | .invokestatic z => z
  | .invokespecial z => z
  | _ => 0
def am_onx (ro : Nat → Option (List Int32)) (M : am_M) (pc : Nat) (L : am_L) (st : List Value) (h : am_H) : Option am_O := match am_fi M pc with
  | none => none
  | some (i, n) => match am_kind i with
    | 0 => (match am_pure i L st with
      | some (L', st') => some (.inl (pc + n, L', st', h))
      | none => none)
    | 1 => (match am_br i pc st with
      | some (pc', st') => some (.inl (pc', L, st', h))
      | none => none)
    | 2 => (match am_heap ro M.1 i st h with
      | some (st', h') => some (.inl (pc + n, L, st', h'))
      | none => none)
    | 3 => am_cl 1 (am_cz i) pc L st h
    | 4 => am_cl 0 (am_cz i) pc L st h
    | 5 => am_cl 2 (am_cz i) pc L st h
    | _ => (match am_rt M i st with
      | some v => some (.inr (.inr v))
      | none => none)
def am_one (ro : Nat → Option (List Int32)) (M : am_M) (cf : am_Cf) : Option am_O := match cf with
  | (pc, L, st, h) => am_onx ro M pc L st h
abbrev am_An : Type := Option Value × am_H
def am_ev (ro : Nat → Option (List Int32)) (call : Nat → List Value → am_H → Option am_An) (M : am_M) : Nat → am_Cf → Option am_An
  | 0, _ => none
  | n + 1, cf => match am_one ro M cf with
    | some (.inl cf') => am_ev ro call M n cf'
    | some (.inr (.inl (k, as, cf'))) => (match call k as cf'.2.2.2 with
      | some (v, h) => am_ev ro call M n (cf'.1, cf'.2.1, v.toList ++ cf'.2.2.1, h)
      | none => none)
    | some (.inr (.inr v)) => some (v, cf.2.2.2)
    | none => none
def am_args : List Value → am_L
  | [] => []
  | .long x :: r => some (.long x) :: none :: am_args r
  | .double x :: r => some (.double x) :: none :: am_args r
  | v :: r => some v :: am_args r
def am_entry (as : List Value) (nL : Nat) : am_L := am_args as ++ List.replicate (nL - (am_args as).length) none
def am_run (ro : Nat → Option (List Int32)) : Nat → Nat → Nat → List Value → am_H → Option am_An
  | 0, _, _, _, _ => none
  | d + 1, n, k, as, h => match am_P k with
    | some (M, nL) => if (am_args as).length ≤ nL then am_ev ro (am_run ro d n) M n (0, am_entry as nL, [], h) else none
    | none => none
theorem am_ev_mono {ro : Nat → Option (List Int32)} {c1 c2 : Nat → List Value → am_H → Option am_An} {M : am_M} (hc : ∀ k as h r, c1 k as h = some r → c2 k as h = some r) : ∀ (n : Nat) (n' : Nat) (cf : am_Cf) (r : am_An), n ≤ n' → am_ev ro c1 M n cf = some r → am_ev ro c2 M n' cf = some r := by
  intro n
  induction n with
  | zero => intro n' cf r _ h; simp [am_ev] at h
  | succ n ih =>
    intro n' cf r hn h
    obtain ⟨m, rfl⟩ : ∃ m, n' = m + 1 := ⟨n' - 1, by omega⟩
    have hm : n ≤ m := by omega
    unfold am_ev at h ⊢
    cases ho : am_one ro M cf with
    | none => rw [ho] at h; simp at h
    | some o =>
      rw [ho] at h
      rcases o with cf' | ⟨k, as, cf'⟩ | v
      · exact ih m cf' r hm h
      · dsimp only at h ⊢
        cases hq : c1 k as cf'.2.2.2 with
        | none => rw [hq] at h; simp at h
        | some q =>
          obtain ⟨v, h1⟩ := q
          rw [hq] at h
          rw [hc _ _ _ _ hq]
          exact ih m _ r hm h
      · exact h
theorem am_run_mono {ro : Nat → Option (List Int32)} : ∀ (d d' n n' k : Nat) (as : List Value) (h : am_H) (r : am_An), d ≤ d' → n ≤ n' → am_run ro d n k as h = some r → am_run ro d' n' k as h = some r := by
  intro d
  induction d with
  | zero => intro d' n n' k as h r _ _ h1; simp [am_run] at h1
  | succ d ih =>
    intro d' n n' k as h r hd hn h1
    obtain ⟨e, rfl⟩ : ∃ e, d' = e + 1 := ⟨d' - 1, by omega⟩
    unfold am_run at h1 ⊢
    cases hP : am_P k with
    | none => rw [hP] at h1; simp at h1
    | some q =>
      obtain ⟨M, nL⟩ := q
      rw [hP] at h1
      dsimp only at h1 ⊢
      split at h1
      · next hle => rw [if_pos hle]; exact am_ev_mono (fun k as h r hr => ih e n n' k as h r (by omega) hn hr) n n' _ r hn h1
      · cases h1
/-- method k, called with as on the heap h, at a depth of d at most, ends with r -/
def am_Rt (ro : Nat → Option (List Int32)) (d k : Nat) (as : List Value) (h : am_H) (r : am_An) : Prop := ∃ n, am_run ro d n k as h = some r
/-- from the frame cf of a method M, whose callees have a depth of d at most, it ends with r -/
def am_Ev (ro : Nat → Option (List Int32)) (d : Nat) (M : am_M) (cf : am_Cf) (r : am_An) : Prop := ∃ n, am_ev ro (am_run ro d n) M n cf = some r
theorem am_Rt.mono {ro : Nat → Option (List Int32)} {d d' k : Nat} {as : List Value} {h : am_H} {r : am_An} (H : am_Rt ro d k as h r) (hd : d ≤ d') : am_Rt ro d' k as h r := by
  obtain ⟨n, hn⟩ := H
  exact ⟨n, am_run_mono d d' n n k as h r hd (Nat.le_refl _) hn⟩
theorem am_Ev.step {ro : Nat → Option (List Int32)} {d : Nat} {M : am_M} {cf cf' : am_Cf} {r : am_An} (h : am_one ro M cf = some (.inl cf')) (H : am_Ev ro d M cf' r) : am_Ev ro d M cf r := by
  obtain ⟨n, hn⟩ := H
  refine ⟨n + 1, ?_⟩
  unfold am_ev
  rw [h]
  exact am_ev_mono (fun k as h r hr => am_run_mono d d n (n + 1) k as h r (Nat.le_refl _) (Nat.le_succ _) hr) n n cf' r (Nat.le_refl _) hn
theorem am_Ev.ret {ro : Nat → Option (List Int32)} {d : Nat} {M : am_M} {pc : Nat} {L : am_L} {st : List Value} {h0 : am_H} {v : Option Value} (h : am_one ro M (pc, L, st, h0) = some (.inr (.inr v))) : am_Ev ro d M (pc, L, st, h0) (v, h0) := by
  refine ⟨1, ?_⟩
  unfold am_ev
  rw [h]
theorem am_Ev.call {ro : Nat → Option (List Int32)} {d k pc : Nat} {M : am_M} {cf : am_Cf} {L : am_L} {st as : List Value} {v : Option Value} {h0 h1 : am_H} {r : am_An} (h : am_one ro M cf = some (.inr (.inl (k, as, (pc, L, st, h0))))) (hc : am_Rt ro d k as h0 (v, h1)) (H : am_Ev ro d M (pc, L, v.toList ++ st, h1) r) : am_Ev ro d M cf r := by
  obtain ⟨n, hn⟩ := H
  obtain ⟨n2, hn2⟩ := hc
  refine ⟨(n + n2) + 1, ?_⟩
  unfold am_ev
  rw [h]
  dsimp only
  rw [am_run_mono d d n2 (n + n2 + 1) k as _ _ (Nat.le_refl _) (by omega) hn2]
  exact am_ev_mono (fun k as h r hr => am_run_mono d d n (n + n2 + 1) k as h r (Nat.le_refl _) (by omega) hr) n (n + n2) _ r (by omega) hn
theorem am_Ev.callv {ro : Nat → Option (List Int32)} {d k pc : Nat} {M : am_M} {cf : am_Cf} {L : am_L} {st as : List Value} {v : Value} {h0 h1 : am_H} {r : am_An} (h : am_one ro M cf = some (.inr (.inl (k, as, (pc, L, st, h0))))) (hc : am_Rt ro d k as h0 (some v, h1)) (H : am_Ev ro d M (pc, L, v :: st, h1) r) : am_Ev ro d M cf r := am_Ev.call h hc H
theorem am_Ev.calln {ro : Nat → Option (List Int32)} {d k pc : Nat} {M : am_M} {cf : am_Cf} {L : am_L} {st as : List Value} {h0 h1 : am_H} {r : am_An} (h : am_one ro M cf = some (.inr (.inl (k, as, (pc, L, st, h0))))) (hc : am_Rt ro d k as h0 (none, h1)) (H : am_Ev ro d M (pc, L, st, h1) r) : am_Ev ro d M cf r := am_Ev.call h hc H
theorem am_Ev.retz {ro : Nat → Option (List Int32)} {d pc : Nat} {M : am_M} {L : am_L} {v : Int32} {h : am_H} (hi : am_fi M pc = some (.ireturn, 1)) (hz : v = 0 ∨ v = 1) : am_Ev ro d M (pc, L, [.int v], h) (some (.int v), h) := by
  refine am_Ev.ret ?_
  show am_onx ro M pc L [.int v] h = _
  unfold am_onx
  rw [hi]
  simp only [am_kind, am_rt]
  rw [if_pos hz]
  split <;> simp_all
theorem am_Rt.of {ro : Nat → Option (List Int32)} {d k nL : Nat} {M : am_M} {as : List Value} {h : am_H} {r : am_An} (hP : am_P k = some (M, nL)) (hle : (am_args as).length ≤ nL) (H : am_Ev ro d M (0, am_entry as nL, [], h) r) : am_Rt ro (d + 1) k as h r := by
  obtain ⟨n, hn⟩ := H
  refine ⟨n, ?_⟩
  unfold am_run
  rw [hP]
  dsimp only
  rw [if_pos hle]
  exact hn
/-- n steps within the frame, no call -/
def am_go (ro : Nat → Option (List Int32)) (M : am_M) : Nat → am_Cf → Option am_Cf
  | 0, cf => some cf
  | n + 1, cf => match am_one ro M cf with
    | some (.inl cf') => am_go ro M n cf'
    | _ => none
theorem am_Ev.go {ro : Nat → Option (List Int32)} {d : Nat} {M : am_M} {r : am_An} : ∀ (n : Nat) {cf cf' : am_Cf}, am_go ro M n cf = some cf' → am_Ev ro d M cf' r → am_Ev ro d M cf r := by
  intro n
  induction n with
  | zero =>
    intro cf cf' h H
    cases h
    exact H
  | succ n ih =>
    intro cf cf' h H
    unfold am_go at h
    split at h
    · next cf1 h1 => exact am_Ev.step h1 (ih h H)
    · cases h
end
section
/-! ===== rules for walking the abstract machine ===== -/
section AmRules
variable {ro : Nat → Option (List Int32)} {d : Nat} {M : am_M} {cf : am_Cf} {L : am_L} {st : List Value} {h : am_H} {r : am_An} {x y : Int32} {a b : Nat}
theorem am_Ev.eq (h1 : am_one ro M cf = some (.inl (am_cc .eq x y a b, L, st, h))) (kt : x = y → am_Ev ro d M (a, L, st, h) r) (kf : ¬ x = y → am_Ev ro d M (b, L, st, h) r) : am_Ev ro d M cf r := by
  by_cases c : x = y
  · exact am_Ev.step (by rw [h1]; simp only [am_cc]; rw [if_pos c]) (kt c)
  · exact am_Ev.step (by rw [h1]; simp only [am_cc]; rw [if_neg c]) (kf c)
theorem am_Ev.ne (h1 : am_one ro M cf = some (.inl (am_cc .ne x y a b, L, st, h))) (kt : ¬ x = y → am_Ev ro d M (a, L, st, h) r) (kf : x = y → am_Ev ro d M (b, L, st, h) r) : am_Ev ro d M cf r := by
  by_cases c : x = y
  · exact am_Ev.step (by rw [h1]; simp only [am_cc]; rw [if_neg (fun q => q c)]) (kf c)
  · exact am_Ev.step (by rw [h1]; simp only [am_cc]; rw [if_pos c]) (kt c)
theorem am_Ev.lt (h1 : am_one ro M cf = some (.inl (am_cc .lt x y a b, L, st, h))) (kt : x < y → am_Ev ro d M (a, L, st, h) r) (kf : ¬ x < y → am_Ev ro d M (b, L, st, h) r) : am_Ev ro d M cf r := by
  by_cases c : x < y
  · exact am_Ev.step (by rw [h1]; simp only [am_cc]; rw [if_pos c]) (kt c)
  · exact am_Ev.step (by rw [h1]; simp only [am_cc]; rw [if_neg c]) (kf c)
theorem am_Ev.ge (h1 : am_one ro M cf = some (.inl (am_cc .ge x y a b, L, st, h))) (kt : y ≤ x → am_Ev ro d M (a, L, st, h) r) (kf : ¬ y ≤ x → am_Ev ro d M (b, L, st, h) r) : am_Ev ro d M cf r := by
  by_cases c : y ≤ x
  · exact am_Ev.step (by rw [h1]; simp only [am_cc]; rw [if_pos c]) (kt c)
  · exact am_Ev.step (by rw [h1]; simp only [am_cc]; rw [if_neg c]) (kf c)
theorem am_Ev.gt (h1 : am_one ro M cf = some (.inl (am_cc .gt x y a b, L, st, h))) (kt : y < x → am_Ev ro d M (a, L, st, h) r) (kf : ¬ y < x → am_Ev ro d M (b, L, st, h) r) : am_Ev ro d M cf r := by
  by_cases c : y < x
  · exact am_Ev.step (by rw [h1]; simp only [am_cc]; rw [if_pos c]) (kt c)
  · exact am_Ev.step (by rw [h1]; simp only [am_cc]; rw [if_neg c]) (kf c)
theorem am_Ev.le (h1 : am_one ro M cf = some (.inl (am_cc .le x y a b, L, st, h))) (kt : x ≤ y → am_Ev ro d M (a, L, st, h) r) (kf : ¬ x ≤ y → am_Ev ro d M (b, L, st, h) r) : am_Ev ro d M cf r := by
  by_cases c : x ≤ y
  · exact am_Ev.step (by rw [h1]; simp only [am_cc]; rw [if_pos c]) (kt c)
  · exact am_Ev.step (by rw [h1]; simp only [am_cc]; rw [if_neg c]) (kf c)
end AmRules
end
section
/-! ===== the abstract machine is the machine: locals, what is pure ===== -/
/-- a value of the abstract machine as the machine has it -/
def am_v (ad : Nat → Nat) (v : Value) : Value := match v with
  | .ref k => .ref (ad k)
  | w => w
theorem am_v_cat (ad : Nat → Nat) (v : Value) : (am_v ad v).category = v.category := by cases v <;> rfl
def am_lh (ls : Array Slot) (nL : Nat) (ad : Nat → Nat) (L : am_L) : Prop := ls.size = nL ∧ L.length = nL ∧ lv_wf ls ∧ ∀ (i : Nat) (v : Value), L[i]? = some (some v) → ls[i]? = some (.val (am_v ad v))
def am_as (ad : Nat → Nat) (L : am_L) : List (Nat × Value) := (List.range L.length).filterMap (fun i => (am_ld L i).map (fun v => (i, am_v ad v)))
theorem am_ld_iff {L : am_L} {i : Nat} {v : Value} : am_ld L i = some v ↔ L[i]? = some (some v) := by
  unfold am_ld
  constructor
  · intro h
    split at h
    · next w hw => rw [hw]; cases h; rfl
    · cases h
  · intro h
    rw [h]
theorem am_as_mem {ad : Nat → Nat} {L : am_L} {j : Nat} {w : Value} : (j, w) ∈ am_as ad L ↔ ∃ v, L[j]? = some (some v) ∧ w = am_v ad v := by
  unfold am_as
  rw [List.mem_filterMap]
  constructor
  · rintro ⟨i, hi, h⟩
    cases hl : am_ld L i with
    | none => rw [hl] at h; cases h
    | some v =>
      rw [hl] at h
      simp only [Option.map_some, Option.some.injEq, Prod.mk.injEq] at h
      obtain ⟨rfl, rfl⟩ := h
      exact ⟨v, am_ld_iff.mp hl, rfl⟩
  · rintro ⟨v, hv, rfl⟩
    refine ⟨j, List.mem_range.mpr ?_, ?_⟩
    · exact (List.getElem?_eq_some_iff.mp hv).1
    · rw [am_ld_iff.mpr hv]; rfl
theorem am_lh.has {ls : Array Slot} {nL : Nat} {ad : Nat → Nat} {L : am_L} (h : am_lh ls nL ad L) : lv_has ls nL (am_as ad L) := by
  refine ⟨h.1, h.2.2.1, fun q hq => ?_⟩
  obtain ⟨v, hv, e⟩ := am_as_mem.mp (show (q.1, q.2) ∈ am_as ad L from hq)
  rw [h.2.2.2 _ _ hv, e]
theorem am_lh.ld {ls : Array Slot} {nL : Nat} {ad : Nat → Nat} {L : am_L} (h : am_lh ls nL ad L) {i : Nat} {v : Value} (hv : am_ld L i = some v) : ls[i]? = some (.val (am_v ad v)) := h.2.2.2 _ _ (am_ld_iff.mp hv)
theorem am_clr_len (L : am_L) (i : Nat) : (am_clr L i).length = L.length := by
  unfold am_clr
  split
  · rfl
  · split <;> simp
theorem am_clr_get {L : am_L} {i j : Nat} {v : Value} (h : (am_clr L i)[j]? = some (some v)) : L[j]? = some (some v) ∧ ¬ (j + 1 = i ∧ v.category = 2) := by
  unfold am_clr at h
  split at h
  · exact ⟨h, fun q => by omega⟩
  · next k =>
    split at h
    · next x hx =>
      rw [List.getElem?_set] at h
      split at h
      · next e => subst e; split at h <;> simp at h
      · next e => exact ⟨h, fun q => e (by omega)⟩
    · next x hx =>
      rw [List.getElem?_set] at h
      split at h
      · next e => subst e; split at h <;> simp at h
      · next e => exact ⟨h, fun q => e (by omega)⟩
    · next h1 h2 =>
      refine ⟨h, fun q => ?_⟩
      have e : j = k := by omega
      subst e
      cases v with
      | long x => exact h1 x h
      | double x => exact h2 x h
      | _ => simp [Value.category] at q
theorem am_lh.st1 {ls' : Array Slot} {nL : Nat} {ad : Nat → Nat} {L L' : am_L} {i : Nat} {v : Value} (hn : L.length = nL) (hs : am_st1 L i v = some L') (h : lv_has ls' nL ((i, am_v ad v) :: (am_as ad L).filter (fun q => !(q.1 == i) && !(q.1 + 1 == i && q.2.category == 2)))) : am_lh ls' nL ad L' := by
  unfold am_st1 at hs
  split at hs
  · next hi =>
    cases hs
    refine ⟨h.1, by rw [List.length_set, am_clr_len]; exact hn, h.2.1, fun j w hw => ?_⟩
    rw [List.getElem?_set] at hw
    split at hw
    · next e =>
      subst e
      split at hw
      · cases hw
        exact h.2.2 (i, am_v ad v) List.mem_cons_self
      · cases hw
    · next e =>
      obtain ⟨h1, h2⟩ := am_clr_get hw
      refine h.2.2 (j, am_v ad w) (List.mem_cons_of_mem _ (List.mem_filter.mpr ⟨am_as_mem.mpr ⟨w, h1, rfl⟩, ?_⟩))
      simp only [am_v_cat, Bool.and_eq_true, Bool.not_eq_true', beq_eq_false_iff_ne, ne_eq, Bool.and_eq_false_iff]
      refine ⟨fun q => e q.symm, ?_⟩
      by_cases e2 : j + 1 = i
      · exact Or.inr (fun q => h2 ⟨e2, q⟩)
      · exact Or.inl e2
  · cases hs
theorem am_lh.st2 {ls' : Array Slot} {nL : Nat} {ad : Nat → Nat} {L L' : am_L} {i : Nat} {v : Value} (hn : L.length = nL) (hs : am_st2 L i v = some L') (h : lv_has ls' nL ((i, am_v ad v) :: (am_as ad L).filter (fun q => !(q.1 == i) && (!(q.1 == i + 1) && !(q.1 + 1 == i && q.2.category == 2))))) : am_lh ls' nL ad L' := by
  unfold am_st2 at hs
  split at hs
  · next hi =>
    cases hs
    refine ⟨h.1, by rw [List.length_set, List.length_set, am_clr_len]; exact hn, h.2.1, fun j w hw => ?_⟩
    rw [List.getElem?_set] at hw
    split at hw
    · split at hw <;> simp at hw
    · next e1 =>
      rw [List.getElem?_set] at hw
      split at hw
      · next e =>
        subst e
        split at hw
        · cases hw
          exact h.2.2 (i, am_v ad v) List.mem_cons_self
        · cases hw
      · next e =>
        obtain ⟨h1, h2⟩ := am_clr_get hw
        refine h.2.2 (j, am_v ad w) (List.mem_cons_of_mem _ (List.mem_filter.mpr ⟨am_as_mem.mpr ⟨w, h1, rfl⟩, ?_⟩))
        simp only [am_v_cat, Bool.and_eq_true, Bool.not_eq_true', beq_eq_false_iff_ne, ne_eq, Bool.and_eq_false_iff]
        refine ⟨fun q => e q.symm, fun q => e1 q.symm, ?_⟩
        by_cases e2 : j + 1 = i
        · exact Or.inr (fun q => h2 ⟨e2, q⟩)
        · exact Or.inl e2
  · cases hs
end
section
/-! ===== what is pure: a step of the abstract machine is one of the machine ===== -/
def am_ln (i : Instr) : Nat := match i with
  | .bipush _ | .iload _ | .lload _ | .aload _ | .istore _ | .lstore _ | .astore _ | .ldc _ | .newarray _ => 2
  | .sipush _ | .iinc _ _ | .goto _ | .ifCond _ _ | .if_icmp _ _ | .ifnonnull _ | .getfield _ | .putfield _ | .getstatic _ | .invokevirtual _ | .invokestatic _ | .invokespecial _ | .new _ | .anewarray _ | .checkcast _ | .ldc_w _ | .ldc2_w _ => 3
  | .multianewarray _ _ => 4
  | .invokedynamic _ => 3
  | _ => 1
def am_isw (i : Instr) : Bool := match i with
  | .tableswitch _ _ _ _ => true
  | _ => false
theorem am_b_inv {f : Int32 → Int32 → Int32} {L L' : am_L} {st st' : List Value} (h : am_b f L st = some (L', st')) : ∃ x y r, st = .int y :: .int x :: r ∧ L' = L ∧ st' = .int (f x y) :: r := by
  unfold am_b at h
  split at h
  · next y x r => cases h; exact ⟨x, y, r, rfl, rfl, rfl⟩
  · cases h
theorem am_u_inv {f : Int32 → Int32} {L L' : am_L} {st st' : List Value} (h : am_u f L st = some (L', st')) : ∃ x r, st = .int x :: r ∧ L' = L ∧ st' = .int (f x) :: r := by
  unfold am_u at h
  split at h
  · next x r => cases h; exact ⟨x, r, rfl, rfl, rfl⟩
  · cases h
theorem am_bl_inv {f : Int64 → Int64 → Int64} {L L' : am_L} {st st' : List Value} (h : am_bl f L st = some (L', st')) : ∃ x y r, st = .long y :: .long x :: r ∧ L' = L ∧ st' = .long (f x y) :: r := by
  unfold am_bl at h
  split at h
  · next y x r => cases h; exact ⟨x, y, r, rfl, rfl, rfl⟩
  · cases h
theorem am_sh_inv {f : Int64 → Int32 → Int64} {L L' : am_L} {st st' : List Value} (h : am_sh f L st = some (L', st')) : ∃ x y r, st = .int y :: .long x :: r ∧ L' = L ∧ st' = .long (f x y) :: r := by
  unfold am_sh at h
  split at h
  · next y x r => cases h; exact ⟨x, y, r, rfl, rfl, rfl⟩
  · cases h
theorem am_dv_inv {f : Int32 → Int32 → Int32} {L L' : am_L} {st st' : List Value} (h : am_dv f L st = some (L', st')) : ∃ x y r, ¬ y = 0 ∧ st = .int y :: .int x :: r ∧ L' = L ∧ st' = .int (f x y) :: r := by
  unfold am_dv at h
  split at h
  · next y x r =>
    split at h
    · cases h
    · next hy => cases h; exact ⟨x, y, r, hy, rfl, rfl, rfl⟩
  · cases h
theorem am_li_inv {L L' : am_L} {st st' : List Value} {i : Nat} (h : am_li L st i = some (L', st')) : ∃ x, am_ld L i = some (.int x) ∧ L' = L ∧ st' = .int x :: st := by
  unfold am_li at h
  split at h
  · next x hx => cases h; exact ⟨x, hx, rfl, rfl⟩
  · cases h
theorem am_ll_inv {L L' : am_L} {st st' : List Value} {i : Nat} (h : am_ll L st i = some (L', st')) : ∃ x, am_ld L i = some (.long x) ∧ L' = L ∧ st' = .long x :: st := by
  unfold am_ll at h
  split at h
  · next x hx => cases h; exact ⟨x, hx, rfl, rfl⟩
  · cases h
theorem am_la_inv {L L' : am_L} {st st' : List Value} {i : Nat} (h : am_la L st i = some (L', st')) : (∃ x, am_ld L i = some (.ref x) ∧ L' = L ∧ st' = .ref x :: st) ∨ (am_ld L i = some .null ∧ L' = L ∧ st' = .null :: st) := by
  unfold am_la at h
  split at h
  · next x hx => cases h; exact Or.inl ⟨x, hx, rfl, rfl⟩
  · next hx => cases h; exact Or.inr ⟨hx, rfl, rfl⟩
  · cases h
theorem am_si_inv {L L' : am_L} {st st' : List Value} {i : Nat} (h : am_si L st i = some (L', st')) : ∃ x, st = .int x :: st' ∧ am_st1 L i (.int x) = some L' := by
  unfold am_si at h
  split at h
  · next x r =>
    split at h
    · next L2 h2 => cases h; exact ⟨x, rfl, h2⟩
    · cases h
  · cases h
theorem am_sl_inv {L L' : am_L} {st st' : List Value} {i : Nat} (h : am_sl L st i = some (L', st')) : ∃ x, st = .long x :: st' ∧ am_st2 L i (.long x) = some L' := by
  unfold am_sl at h
  split at h
  · next x r =>
    split at h
    · next L2 h2 => cases h; exact ⟨x, rfl, h2⟩
    · cases h
  · cases h
theorem am_sa_inv {L L' : am_L} {st st' : List Value} {i : Nat} (h : am_sa L st i = some (L', st')) : ∃ x, st = .ref x :: st' ∧ am_st1 L i (.ref x) = some L' := by
  unfold am_sa at h
  split at h
  · next x r =>
    split at h
    · next L2 h2 => cases h; exact ⟨x, rfl, h2⟩
    · cases h
  · cases h
theorem am_st1_lt {L L' : am_L} {i : Nat} {v : Value} (h : am_st1 L i v = some L') : i < L.length := by
  unfold am_st1 at h
  split at h
  · assumption
  · cases h
theorem am_st2_lt {L L' : am_L} {i : Nat} {v : Value} (h : am_st2 L i v = some L') : i + 1 < L.length := by
  unfold am_st2 at h
  split at h
  · assumption
  · cases h
section AmPure
variable {p : Program} {l : Launch} {e : Env} {R : Room} {s : State} {m : MethodId} {args : Array Value} {below : List Frame} {meth : Method} {c : Code} {H : Heap} {locs : List Loc} {cells slots : Nat} {Q : State → Prop} {cc : ByteArray} {pc nL : Nat} {ls : Array Slot} {ad : Nat → Nat}
set_option maxHeartbeats 4000000 in
theorem am_s_pure (hx : p.tables.exec = Jvm.exec) (hb : c.code = cc) {i : Instr} {n : Nat} {L L' : am_L} {st st' : List Value} (hd : decode cc pc = .ok (i, n)) (hn : n = am_ln i) (hp : am_pure i L st = some (L', st')) (hl : am_lh ls nL ad L)
    (kk : ∀ ls' : Array Slot, am_lh ls' nL ad L' → W p l e R s m args below meth c H locs cells slots Q (F0 m (pc + n) ls' (st'.map (am_v ad)))) : W p l e R s m args below meth c H locs cells slots Q (F0 m pc ls (st.map (am_v ad))) := by
  subst hn
  unfold am_pure at hp
  split at hp
  · cases hp; exact lv_iconst hx hb hd rfl (kk ls hl)
  · cases hp; exact lv_bipush hx hb hd rfl (kk ls hl)
  · cases hp; exact lv_sipush hx hb hd rfl (kk ls hl)
  · cases hp; exact lv_lconst hx hb hd rfl (kk ls hl)
  · cases hp; exact lv_null hx hb hd (kk ls hl)
  · obtain ⟨x, h1, rfl, rfl⟩ := am_li_inv hp; exact lv_iload hx hb hd (hl.ld h1) (kk ls hl)
  · obtain ⟨x, h1, rfl, rfl⟩ := am_li_inv hp; exact lv_iload_n hx hb hd rfl (hl.ld h1) (kk ls hl)
  · obtain ⟨x, h1, rfl, rfl⟩ := am_ll_inv hp; exact lv_lload hx hb hd (hl.ld h1) (kk ls hl)
  · obtain ⟨x, h1, rfl, rfl⟩ := am_ll_inv hp; exact lv_lload_n hx hb hd rfl (hl.ld h1) (kk ls hl)
  · rcases am_la_inv hp with ⟨x, h1, rfl, rfl⟩ | ⟨h1, rfl, rfl⟩
    · exact lv_aload hx hb hd (hl.ld h1) (kk ls hl)
    · exact lv_aloadN hx hb hd (hl.ld h1) (kk ls hl)
  · rcases am_la_inv hp with ⟨x, h1, rfl, rfl⟩ | ⟨h1, rfl, rfl⟩
    · exact lv_aload_n hx hb hd rfl (hl.ld h1) (kk ls hl)
    · exact lv_aload_nN hx hb hd rfl (hl.ld h1) (kk ls hl)
  · obtain ⟨x, rfl, h1⟩ := am_si_inv hp; exact lv_istore hx hb hd hl.has (by have := am_st1_lt h1; have := hl.2.1; omega) rfl (fun ls' h => kk ls' (am_lh.st1 hl.2.1 h1 h))
  · obtain ⟨x, rfl, h1⟩ := am_si_inv hp; exact lv_istore_n hx hb hd rfl hl.has (by have := am_st1_lt h1; have := hl.2.1; omega) rfl (fun ls' h => kk ls' (am_lh.st1 hl.2.1 h1 h))
  · obtain ⟨x, rfl, h1⟩ := am_sl_inv hp; exact lv_lstore hx hb hd hl.has (by have := am_st2_lt h1; have := hl.2.1; omega) rfl (fun ls' h => kk ls' (am_lh.st2 hl.2.1 h1 h))
  · obtain ⟨x, rfl, h1⟩ := am_sl_inv hp; exact lv_lstore_n hx hb hd rfl hl.has (by have := am_st2_lt h1; have := hl.2.1; omega) rfl (fun ls' h => kk ls' (am_lh.st2 hl.2.1 h1 h))
  · obtain ⟨x, rfl, h1⟩ := am_sa_inv hp; exact lv_astore hx hb hd hl.has (by have := am_st1_lt h1; have := hl.2.1; omega) rfl (fun ls' h => kk ls' (am_lh.st1 hl.2.1 h1 h))
  · obtain ⟨x, rfl, h1⟩ := am_sa_inv hp; exact lv_astore_n hx hb hd rfl hl.has (by have := am_st1_lt h1; have := hl.2.1; omega) rfl (fun ls' h => kk ls' (am_lh.st1 hl.2.1 h1 h))
  · split at hp
    · next x hx1 =>
      split at hp
      · next L2 h1 =>
        cases hp
        obtain ⟨k, hk⟩ := List.getElem?_of_mem (am_as_mem.mpr ⟨_, am_ld_iff.mp hx1, rfl⟩ : (_, am_v ad (.int x)) ∈ am_as ad L)
        exact lv_iinc hx hb hd hl.has hk rfl (by have := am_st1_lt h1; have := hl.2.1; omega) rfl (fun ls' h => kk ls' (am_lh.st1 hl.2.1 h1 h))
      · cases hp
    · cases hp
  · obtain ⟨x, y, r, rfl, rfl, rfl⟩ := am_b_inv hp; exact lv_iadd hx hb hd (kk ls hl)
  · obtain ⟨x, y, r, rfl, rfl, rfl⟩ := am_b_inv hp; exact lv_isub hx hb hd (kk ls hl)
  · obtain ⟨x, y, r, rfl, rfl, rfl⟩ := am_b_inv hp; exact lv_imul hx hb hd (kk ls hl)
  · obtain ⟨x, y, r, rfl, rfl, rfl⟩ := am_b_inv hp; exact lv_iand hx hb hd (kk ls hl)
  · obtain ⟨x, y, r, rfl, rfl, rfl⟩ := am_b_inv hp; exact lv_ior hx hb hd (kk ls hl)
  · obtain ⟨x, y, r, rfl, rfl, rfl⟩ := am_b_inv hp; exact lv_ixor hx hb hd (kk ls hl)
  · obtain ⟨x, y, r, rfl, rfl, rfl⟩ := am_b_inv hp; exact lv_ishl hx hb hd (kk ls hl)
  · obtain ⟨x, y, r, rfl, rfl, rfl⟩ := am_b_inv hp; exact lv_ishr hx hb hd (kk ls hl)
  · obtain ⟨x, y, r, rfl, rfl, rfl⟩ := am_b_inv hp; exact lv_iushr hx hb hd rfl (kk ls hl)
  · obtain ⟨x, y, r, hy, rfl, rfl, rfl⟩ := am_dv_inv hp; exact lv_idiv hx hb hd hy (kk ls hl)
  · obtain ⟨x, y, r, hy, rfl, rfl, rfl⟩ := am_dv_inv hp; exact lv_irem hx hb hd hy (kk ls hl)
  · obtain ⟨x, r, rfl, rfl, rfl⟩ := am_u_inv hp; exact lv_ineg hx hb hd (kk ls hl)
  · obtain ⟨x, r, rfl, rfl, rfl⟩ := am_u_inv hp; exact lv_i2b hx hb hd rfl (kk ls hl)
  · obtain ⟨x, r, rfl, rfl, rfl⟩ := am_u_inv hp; exact lv_i2s hx hb hd rfl (kk ls hl)
  · obtain ⟨x, y, r, rfl, rfl, rfl⟩ := am_bl_inv hp; exact lv_ladd hx hb hd (kk ls hl)
  · obtain ⟨x, y, r, rfl, rfl, rfl⟩ := am_bl_inv hp; exact lv_land hx hb hd (kk ls hl)
  · obtain ⟨x, y, r, rfl, rfl, rfl⟩ := am_bl_inv hp; exact lv_lor hx hb hd (kk ls hl)
  · obtain ⟨x, y, r, rfl, rfl, rfl⟩ := am_sh_inv hp; exact lv_lshl hx hb hd rfl (kk ls hl)
  · obtain ⟨x, y, r, rfl, rfl, rfl⟩ := am_sh_inv hp; exact lv_lshr hx hb hd rfl (kk ls hl)
  · split at hp
    · cases hp; exact W.lcmp hx hb hd (kk ls hl)
    · cases hp
  · split at hp
    · cases hp; exact lv_i2l hx hb hd rfl (kk ls hl)
    · cases hp
  · split at hp
    · cases hp; exact lv_l2i hx hb hd rfl (kk ls hl)
    · cases hp
  · split at hp
    · split at hp
      · next h1 => cases hp; exact lv_dup hx hb hd (by rw [am_v_cat]; exact h1) (kk ls hl)
      · cases hp
    · cases hp
  · split at hp
    · split at hp
      · next h1 => cases hp; exact lv_pop hx hb hd (by rw [am_v_cat]; exact h1) (kk ls hl)
      · cases hp
    · cases hp
  · split at hp
    · split at hp
      · next h1 => cases hp; exact lv_dup_x1 hx hb hd (by rw [am_v_cat]; exact h1.1) (by rw [am_v_cat]; exact h1.2) (kk ls hl)
      · cases hp
    · cases hp
  · split at hp
    · split at hp
      · next h1 => cases hp; exact lv_dup2_11 hx hb hd (by rw [am_v_cat]; exact h1.1) (by rw [am_v_cat]; exact h1.2) (kk ls hl)
      · cases hp
    · cases hp
  · cases hp
theorem am_tg_ok {off : Int} (h : am_ok pc off = true) : (pc : Int) + off = ((am_tg pc off : Nat) : Int) := by
  unfold am_ok at h
  unfold am_tg
  have := of_decide_eq_true h
  omega
set_option maxHeartbeats 4000000 in
theorem am_s_br (hx : p.tables.exec = Jvm.exec) (hb : c.code = cc) {i : Instr} {n pc' : Nat} {st st' : List Value} (hd : decode cc pc = .ok (i, n)) (hn : am_isw i = true ∨ n = am_ln i) (hp : am_br i pc st = some (pc', st'))
    (kk : W p l e R s m args below meth c H locs cells slots Q (F0 m pc' ls (st'.map (am_v ad)))) : W p l e R s m args below meth c H locs cells slots Q (F0 m pc ls (st.map (am_v ad))) := by
  unfold am_br at hp
  split at hp
  · split at hp
    · next ho =>
      cases hp
      rcases hn with hn | rfl
      · cases hn
      · exact lv_goto hx hb hd (am_tg_ok ho) kk
    · cases hp
  · next cnd off =>
    rcases hn with hn | rfl
    · cases hn
    · split at hp
      · split at hp
        · next ho =>
          cases hp
          cases cnd
          · refine lv_if_eq hx hb hd (am_tg_ok ho) (fun q => ?_) (fun q => ?_)
            · simp only [am_cc, if_pos q] at kk; exact kk
            · simp only [am_cc, if_neg q] at kk; exact kk
          · refine lv_if_ne hx hb hd (am_tg_ok ho) (fun q => ?_) (fun q => ?_)
            · simp only [am_cc, if_pos q] at kk; exact kk
            · simp only [am_cc, if_neg (fun z : ¬ _ => z q)] at kk; exact kk
          · refine lv_if_lt hx hb hd (am_tg_ok ho) (fun q => ?_) (fun q => ?_)
            · simp only [am_cc, if_pos q] at kk; exact kk
            · simp only [am_cc, if_neg q] at kk; exact kk
          · refine lv_if_ge hx hb hd (am_tg_ok ho) (fun q => ?_) (fun q => ?_)
            · simp only [am_cc, if_pos q] at kk; exact kk
            · simp only [am_cc, if_neg q] at kk; exact kk
          · refine lv_if_gt hx hb hd (am_tg_ok ho) (fun q => ?_) (fun q => ?_)
            · simp only [am_cc, if_pos q] at kk; exact kk
            · simp only [am_cc, if_neg q] at kk; exact kk
          · refine lv_if_le hx hb hd (am_tg_ok ho) (fun q => ?_) (fun q => ?_)
            · simp only [am_cc, if_pos q] at kk; exact kk
            · simp only [am_cc, if_neg q] at kk; exact kk
        · cases hp
      · cases hp
  · next cnd off =>
    rcases hn with hn | rfl
    · cases hn
    · split at hp
      · split at hp
        · next ho =>
          cases hp
          cases cnd
          · refine lv_icmp_eq hx hb hd (am_tg_ok ho) (fun q => ?_) (fun q => ?_)
            · simp only [am_cc, if_pos q] at kk; exact kk
            · simp only [am_cc, if_neg q] at kk; exact kk
          · refine lv_icmp_ne hx hb hd (am_tg_ok ho) (fun q => ?_) (fun q => ?_)
            · simp only [am_cc, if_pos q] at kk; exact kk
            · simp only [am_cc, if_neg (fun z : ¬ _ => z q)] at kk; exact kk
          · refine lv_icmp_lt hx hb hd (am_tg_ok ho) (fun q => ?_) (fun q => ?_)
            · simp only [am_cc, if_pos q] at kk; exact kk
            · simp only [am_cc, if_neg q] at kk; exact kk
          · refine lv_icmp_ge hx hb hd (am_tg_ok ho) (fun q => ?_) (fun q => ?_)
            · simp only [am_cc, if_pos q] at kk; exact kk
            · simp only [am_cc, if_neg q] at kk; exact kk
          · refine lv_icmp_gt hx hb hd (am_tg_ok ho) (fun q => ?_) (fun q => ?_)
            · simp only [am_cc, if_pos q] at kk; exact kk
            · simp only [am_cc, if_neg q] at kk; exact kk
          · refine lv_icmp_le hx hb hd (am_tg_ok ho) (fun q => ?_) (fun q => ?_)
            · simp only [am_cc, if_pos q] at kk; exact kk
            · simp only [am_cc, if_neg q] at kk; exact kk
        · cases hp
      · cases hp
  · rcases hn with hn | rfl
    · cases hn
    · split at hp
      · split at hp
        · next ho => cases hp; exact lv_ifnonnull hx hb hd (am_tg_ok ho) kk
        · cases hp
      · cases hp; exact lv_ifnonnullN hx hb hd kk
      · cases hp
  · split at hp
    · split at hp
      · next t ht =>
        cases hp
        unfold am_sw at ht
        split at ht
        · next hr =>
          split at ht
          · next ho => cases ht; exact lv_tableOut hx hb hd hr (am_tg_ok ho) kk
          · cases ht
        · next hr =>
          split at ht
          · next off hof =>
            split at ht
            · next ho => cases ht; exact lv_tableIn hx hb hd (fun q => hr (Or.inl q)) (fun q => hr (Or.inr q)) hof (am_tg_ok ho) kk
            · cases ht
          · cases ht
      · cases hp
    · cases hp
  · cases hp
end AmPure
end
section
/-! ===== the heap of the abstract machine and the machine's ===== -/
def am_ca (D : va_G) (kA : Nat → ClassId) (ad : Nat → Nat) (a : Nat) (c : am_C) (H : Heap) : Prop := match c with
  | .inl (t, xs) => H[a]? = some (arrV (kA t) xs.length (fun j => .int (xs.getD j 0)))
  | .inr (.inl (t, xs)) => H[a]? = some (arrV (kA t) xs.length (fun j => va_rf ((xs.getD j none).map ad)))
  | .inr (.inr (ci, fs)) => ∃ r : vw_C, vwCl[ci]? = some r ∧ fs.length = r.2.2 ∧ t_OB a (D.1 ci) r.2.2 (D.2 ci) H (vp_V (fs.map (am_v ad)))
def am_RH (D : va_G) (kA : Nat → ClassId) (ad : Nat → Nat) (sz0 : Nat) (H00 : Heap) (h : am_H) (H : Heap) : Prop :=
  H.size = sz0 + h.length ∧ (∀ q : Nat, q < sz0 → H[q]? = H00[q]?) ∧ ∀ (k : Nat) (c : am_C), h[k]? = some c → am_ca D kA ad (sz0 + k) c H
theorem am_ca.kept {D : va_G} {kA : Nat → ClassId} {ad : Nat → Nat} {a : Nat} {c : am_C} {H H1 : Heap} (h : am_ca D kA ad a c H) (e : H1[a]? = H[a]?) : am_ca D kA ad a c H1 := by
  rcases c with ⟨t, xs⟩ | ⟨t, xs⟩ | ⟨ci, fs⟩
  · exact e.trans h
  · exact e.trans h
  · obtain ⟨r, h1, h2, h3⟩ := h
    exact ⟨r, h1, h2, h3.kept e⟩
theorem am_RH.set {D : va_G} {kA : Nat → ClassId} {ad : Nat → Nat} {sz0 : Nat} {H00 H H1 : Heap} {h : am_H} {k : Nat} {c : am_C} (R : am_RH D kA ad sz0 H00 h H) (z : H1.size = H.size) (o : ∀ q, q ≠ sz0 + k → H1[q]? = H[q]?) (hc : am_ca D kA ad (sz0 + k) c H1) : am_RH D kA ad sz0 H00 (h.set k c) H1 := by
  refine ⟨by rw [z, R.1, List.length_set], fun q hq => (o q (by omega)).trans (R.2.1 q hq), fun j c' hj => ?_⟩
  rw [List.getElem?_set] at hj
  split at hj
  · next e =>
    subst e
    split at hj
    · cases hj; exact hc
    · cases hj
  · next e => exact (R.2.2 j c' hj).kept (o _ (by omega))
theorem am_RH.push {D : va_G} {kA : Nat → ClassId} {ad : Nat → Nat} {sz0 : Nat} {H00 H H1 : Heap} {h : am_H} {c : am_C} (R : am_RH D kA ad sz0 H00 h H) (z : H1.size = H.size + 1) (o : ∀ q, q < H.size → H1[q]? = H[q]?) (hc : am_ca D kA ad H.size c H1) : am_RH D kA ad sz0 H00 (h ++ [c]) H1 := by
  have hs := R.1
  refine ⟨by rw [z, hs, List.length_append]; rfl, fun q hq => (o q (by omega)).trans (R.2.1 q hq), fun j c' hj => ?_⟩
  by_cases hl : j < h.length
  · rw [List.getElem?_append_left hl] at hj
    exact (R.2.2 j c' hj).kept (o _ (by omega))
  · rw [List.getElem?_append_right (by omega)] at hj
    have hz : j - h.length < 1 := (List.getElem?_eq_some_iff.mp hj).1
    rw [show j - h.length = 0 by omega] at hj
    cases hj
    rw [show sz0 + j = H.size by omega]
    exact hc
theorem am_at_some {xs : List Int32} {i v : Int32} (h : am_at xs i = some v) : vp_in i xs.length ∧ xs.getD i.toNatClampNeg 0 = v := by
  unfold am_at at h
  split at h
  · cases h
  · next hi =>
    obtain ⟨h1, h2⟩ := List.getElem?_eq_some_iff.mp h
    refine ⟨fun q => ?_, ?_⟩
    · rcases q with q | q
      · exact hi q
      · omega
    · rw [List.getD_eq_getElem?_getD, h]; rfl
theorem am_atr_some {xs : List (Option Nat)} {i : Int32} {v : Option Nat} (h : am_atr xs i = some v) : vp_in i xs.length ∧ xs.getD i.toNatClampNeg none = v := by
  unfold am_atr at h
  split at h
  · cases h
  · next hi =>
    obtain ⟨h1, h2⟩ := List.getElem?_eq_some_iff.mp h
    refine ⟨fun q => ?_, ?_⟩
    · rcases q with q | q
      · exact hi q
      · omega
    · rw [List.getD_eq_getElem?_getD, h]; rfl
theorem am_up_some {xs ys : List Int32} {i v : Int32} (h : am_up xs i v = some ys) : vp_in i xs.length ∧ ys = xs.set i.toNatClampNeg v := by
  unfold am_up at h
  split at h
  · cases h
  · next hi =>
    split at h
    · next hl => cases h; exact ⟨fun q => q.elim (fun q => hi q) (fun q => by omega), rfl⟩
    · cases h
theorem am_upr_some {xs ys : List (Option Nat)} {i : Int32} {v : Option Nat} (h : am_upr xs i v = some ys) : vp_in i xs.length ∧ ys = xs.set i.toNatClampNeg v := by
  unfold am_upr at h
  split at h
  · cases h
  · next hi =>
    split at h
    · next hl => cases h; exact ⟨fun q => q.elim (fun q => hi q) (fun q => by omega), rfl⟩
    · cases h
theorem am_arr_set {cA : ClassId} {xs : List Int32} {k : Nat} {x : Int32} (hk : k < xs.length) : (arrV cA xs.length (fun j => .int (xs.getD j 0))).setSlot k (.int x) = arrV cA (xs.set k x).length (fun j => .int ((xs.set k x).getD j 0)) := by
  rw [arrV_store, List.length_set]
  congr 1
  funext j
  simp only [updV, List.getD_eq_getElem?_getD, List.getElem?_set]
  by_cases e : j = k
  · subst e; simp [hk]
  · rw [if_neg e, if_neg (fun q => e q.symm)]
theorem am_arr_setr {cA : ClassId} {ad : Nat → Nat} {xs : List (Option Nat)} {k : Nat} {x : Option Nat} (hk : k < xs.length) : (arrV cA xs.length (fun j => va_rf ((xs.getD j none).map ad))).setSlot k (va_rf (x.map ad)) = arrV cA (xs.set k x).length (fun j => va_rf (((xs.set k x).getD j none).map ad)) := by
  rw [arrV_store, List.length_set]
  congr 1
  funext j
  simp only [updV, List.getD_eq_getElem?_getD, List.getElem?_set]
  by_cases e : j = k
  · subst e; simp [hk]
  · rw [if_neg e, if_neg (fun q => e q.symm)]
def am_tys (kA : Nat → ClassId) : List (ClassId × FieldType) := [(kA 0, .int), (kA 1, .byte), (kA 2, .boolean), (kA 3, .array .int), (kA 4, .object RX5), (kA 5, .object RX10)]
theorem vp_in_lt {i : Int32} {n : Nat} (h : vp_in i n) : i.toNatClampNeg < n := Nat.not_le.mp fun q => h (Or.inr q)
end
section
/-! ===== heap steps of the abstract machine are the machine's ===== -/
section AmHeap
variable {p : Program} {l : Launch} {e : Env} {R : Room} {s : State} {m : MethodId} {args : Array Value} {below : List Frame} {meth : Method} {c : Code} {H : Heap} {locs : List Loc} {cells slots : Nat} {Q : State → Prop} {cc : ByteArray} {pc nL : Nat} {ls : Array Slot} {ad : Nat → Nat} {D : va_G} {kA : Nat → ClassId} {sz0 : Nat} {H00 : Heap} {h h' : am_H} {st st' : List Value}
theorem am_hlt {k : Nat} {x : am_C} (hh : h[k]? = some x) : k < h.length := (List.getElem?_eq_some_iff.mp hh).1
/-- getfield -/
theorem am_s_getf (hx : p.tables.exec = Jvm.exec) (hb : c.code = cc) {own : String} {index z : Nat} {Ts : List Cond} (hts : ∀ w ∈ Ts, w.before args s = true) (had : ∀ k, k < am_RO → ad k = sz0 + k) (hlen : h.length ≤ am_RO) (hown : s.vm.findClass own = some m.cls) (hK : va_K D vwCl (am_tys kA) s) (hR : am_RH D kA ad sz0 H00 h H) {C : String} {T : u_T} {N : Nat} (hc : vwCl[z / 64]? = some (C, T, N)) (hin : ∀ w ∈ u_ws C T N, w ∈ Ts) (hk : z % 64 < N) (hlink : Cond.fieldLink own index (T (z % 64)).1 (T (z % 64)).2.1 (T (z % 64)).2.2.1 ∈ Ts) (hd : decode cc pc = .ok (.getfield index, 3)) (hp : am_getf z st h = some (st', h'))
    (kk : h' = h → W p l e R s m args below meth c H locs cells slots Q (F0 m (pc + 3) ls (st'.map (am_v ad)))) : W p l e R s m args below meth c H locs cells slots Q (F0 m pc ls (st.map (am_v ad))) := by
  unfold am_getf at hp
  split at hp
  · next a r =>
    split at hp
    · next ci fs hh =>
      split at hp
      · next hci =>
        split at hp
        · next v hv =>
          cases hp
          subst hci
          obtain ⟨r0, h1, h2, cell, q1, q2, q3, q4⟩ := hR.2.2 a _ hh
          have hr : r0 = (C, T, N) := Option.some.inj (h1.symm.trans hc)
          subst hr
          obtain ⟨hS, hfc, kC, hkC, hkind⟩ := hK.1 _ _ hc
          obtain ⟨cf, kf, fi, f, hi, hsl⟩ := hS _ hk
          have ha : ad a = sz0 + a := had a (by have := am_hlt hh; omega)
          refine W.getf hx hb hown (hts _ hlink) hi (u_facts hfc hkC (u_lays hts hin hk) hi).1 (a := ad a) (by rw [ha]; exact q1) (by rw [q3]; exact fun h => by cases h) (v := am_v ad v) ?_ rfl rfl hd (kk rfl)
          rw [hsl, q4 _ hk]
          simp [vp_V, hv]
        · cases hp
      · cases hp
    · cases hp
  · cases hp
theorem am_ft_ok {ty : FieldType} {v : Value} (h : am_ft ty v = true) : narrow ty (am_v ad v) = am_v ad v ∧ fits ty (am_v ad v) = true := by
  unfold am_ft at h
  split at h
  · split at h
    · exact ⟨rfl, rfl⟩
    · cases h
  · cases ty <;> first | exact ⟨rfl, rfl⟩ | (simp [FieldType.isReference] at h)
  · cases ty <;> first | exact ⟨rfl, rfl⟩ | (simp [FieldType.isReference] at h)
  · cases h
/-- putfield -/
theorem am_s_putf (hx : p.tables.exec = Jvm.exec) (hb : c.code = cc) {own : String} {index z cn : Nat} {Ts : List Cond} (hts : ∀ w ∈ Ts, w.before args s = true) (had : ∀ k, k < am_RO → ad k = sz0 + k) (hlen : h.length ≤ am_RO) (hown : s.vm.findClass own = some m.cls) (hK : va_K D vwCl (am_tys kA) s) (hR : am_RH D kA ad sz0 H00 h H) {C : String} {T : u_T} {N : Nat} (hc : vwCl[z / 64]? = some (C, T, N)) (hin : ∀ w ∈ u_ws C T N, w ∈ Ts) (hk : z % 64 < N) (hlink : Cond.fieldLink own index (T (z % 64)).1 (T (z % 64)).2.1 (T (z % 64)).2.2.1 ∈ Ts)
    (hty : ∀ k, k < N → parseFieldDescriptor (T k).2.2.1 = some (am_fty (z / 64) k)) (hnm : ∀ a, a < N → ∀ b, b < N → a ≠ b → (T a).2.1 ≠ (T b).2.1) (hcn : cn = z / 64 → meth.name = "<init>" ∧ (T (z % 64)).1 = own) (hlocs : ∀ q ∈ locs, sz0 ≤ q.base) (hd : decode cc pc = .ok (.putfield index, 3)) (hp : am_putf cn z st h = some (st', h'))
    (kk : ∀ (H1 : Heap) (locs1 : List Loc), am_RH D kA ad sz0 H00 h' H1 → (∀ q ∈ locs1, sz0 ≤ q.base) → W p l e R s m args below meth c H1 locs1 cells slots Q (F0 m (pc + 3) ls (st'.map (am_v ad)))) : W p l e R s m args below meth c H locs cells slots Q (F0 m pc ls (st.map (am_v ad))) := by
  unfold am_putf at hp
  split at hp
  · next v a r =>
    split at hp
    · next ci fs hh =>
      split at hp
      · next hci =>
        obtain ⟨hci, -, hfl, hft, hfi⟩ := hci
        cases hp
        subst hci
        have hap := va_apart (own := own) hts hin _ hty hnm hK hc
        obtain ⟨r0, h1, h2, cell, q1, q2, q3, q4⟩ := hR.2.2 a _ hh
        have hr : r0 = (C, T, N) := Option.some.inj (h1.symm.trans hc)
        subst hr
        obtain ⟨hS, hfc, kC, hkC, hkind⟩ := hK.1 _ _ hc
        obtain ⟨cf, kf, fi, f, hi, hsl⟩ := hS _ hk
        have ha : ad a = sz0 + a := had a (by have := am_hlt hh; omega)
        have hlay := hts _ (hin _ (u_in_lay hk))
        have hst := (u_facts hfc hkC (u_lays hts hin hk) hi).1
        obtain ⟨hn, hfit⟩ := am_ft_ok (ad := ad) hft
        have hfin : am_fin (z / 64) (z % 64) = (T (z % 64)).2.2.2 := by unfold am_fin; rw [hc]
        have fin : ∀ H' : Heap, H'[ad a]? = some (cell.setSlot f.slot (am_v ad v)) → H'.size = H.size → (∀ q, q ≠ ad a → H'[q]? = H[q]?) → am_RH D kA ad sz0 H00 (h.set a (.inr (.inr (z / 64, fs.set (z % 64) v)))) H' := fun H' e1 e2 e3 => by
          rw [ha] at e1 e3
          refine hR.set e2 e3 ⟨_, hc, by rw [List.length_set]; exact h2, ?_⟩
          rw [List.map_set]
          rw [hsl] at e1
          exact t_OB.to (V := updV (vp_V (fs.map (am_v ad))) (z % 64) (am_v ad v)) ⟨_, e1, q2, q3, t_set q4 hap hk (am_v ad v)⟩ (fun j _ => vp_updV_set (by rw [List.length_map]; exact hfl) (am_v ad v) j)
        have hl2 : ∀ q ∈ locs ++ [(⟨ad a, f.slot⟩ : Loc)], sz0 ≤ q.base := fun q hq => by
          rcases List.mem_append.mp hq with hq | hq
          · exact hlocs q hq
          · rw [List.mem_singleton.mp hq]; show sz0 ≤ ad a; omega
        by_cases hF : (T (z % 64)).2.2.2 = true
        · obtain ⟨hin2, hdecl⟩ := hcn (hfi (hfin.trans hF))
          unfold u_lay at hlay
          rw [if_pos hF] at hlay
          have hcf : m.cls = cf := by
            obtain ⟨_, _, c', _, _, _, -, -, hf', -, -, -, hown2, -⟩ := Cond.laysFinal_spec hlay
            have e1 : c' = cf := by have := hi.symm.trans hf'; simp at this; exact this.1.symm
            rw [hdecl] at hown2
            rw [← e1]; exact Option.some.inj (hown.symm.trans hown2)
          have h6 := u_fits hfc hkC hkind (Or.inr hlay) hi (hty _ hk) hn hfit
          exact W.putFinK hx hb hown (hts _ hlink) hi hst hcf hin2 (by rw [q2]; exact h6) (a := ad a) (by rw [ha]; exact q1) q3 (by rw [hsl]; exact k2_hasslot (q4 _ hk)) rfl rfl hd fun H' e1 e2 e3 => kk H' _ (fin H' e1 e2 e3) hl2
        · unfold u_lay at hlay
          rw [if_neg hF] at hlay
          have h6 := u_store hfc hkC hkind hlay hi (hty _ hk) hn hfit
          exact W.putK hx hb (f := f) ⟨hown, hts _ hlink, ⟨_, _, _, hi⟩, hst⟩ (by rw [q2]; exact h6) (a := ad a) (by rw [ha]; exact q1) q3 (by rw [hsl]; exact k2_hasslot (q4 _ hk)) rfl rfl hd fun H' e1 e2 e3 => kk H' _ (fin H' e1 e2 e3) hl2
      · cases hp
    · cases hp
  · cases hp
end AmHeap
end
section
/-! ===== arrays: steps of the abstract machine are the machine's ===== -/
/-- what was there before: int arrays by their numbers; the script (number 15) with its length -/
def am_ROk (ro : Nat → Option (List Int32)) (ad : Nat → Nat) (sz0 : Nat) (H00 : Heap) (U : State) : Prop :=
  ∀ (a : Nat) (xs : List Int32), am_RO ≤ a → ro a = some xs → ad a < sz0 ∧ ∃ cell : Cell, H00[ad a]? = some cell ∧ U.isArrayOf cell .int ∧ cell.vm ≠ .unknown ∧ (∀ j : Nat, j < xs.length → cell.slots[j]? = some (.int (xs.getD j 0))) ∧ (a = am_RO + 15 → cell.slots.size = xs.length)
section AmArr
variable {p : Program} {l : Launch} {e : Env} {R : Room} {s : State} {m : MethodId} {args : Array Value} {below : List Frame} {meth : Method} {c : Code} {H : Heap} {locs : List Loc} {cells slots : Nat} {Q : State → Prop} {cc : ByteArray} {pc nL : Nat} {ls : Array Slot} {ad : Nat → Nat} {D : va_G} {kA : Nat → ClassId} {sz0 : Nat} {H00 : Heap} {h h' : am_H} {st st' : List Value} {ro : Nat → Option (List Int32)}
theorem am_s_ial (hx : p.tables.exec = Jvm.exec) (hb : c.code = cc) (had : ∀ k, k < am_RO → ad k = sz0 + k) (hK : va_K D vwCl (am_tys kA) s) (hro : am_ROk ro ad sz0 H00 s) (hR : am_RH D kA ad sz0 H00 h H) (hd : decode cc pc = .ok (.iaload, 1)) (hp : am_ial ro st h = some (st', h'))
    (kk : h' = h → W p l e R s m args below meth c H locs cells slots Q (F0 m (pc + 1) ls (st'.map (am_v ad)))) : W p l e R s m args below meth c H locs cells slots Q (F0 m pc ls (st.map (am_v ad))) := by
  unfold am_ial at hp
  split at hp
  · next i a r =>
    split at hp
    · next hlt =>
      split at hp
      · next xs hh =>
        split at hp
        · next v hv =>
          cases hp
          obtain ⟨hin, hg⟩ := am_at_some hv
          have hc : H[sz0 + a]? = some (arrV (kA 0) xs.length (fun j => .int (xs.getD j 0))) := hR.2.2 a _ hh
          rw [← had a hlt] at hc
          exact W.iald (v := .int v) hx hb hc ((hK.2 0 _ rfl).1 _ _) (fun q => by cases q) (by rw [arrV_size]; exact hin) (by rw [arrV_read _ _ (vp_in_lt hin), hg]) rfl rfl hd (kk rfl)
        · cases hp
      · cases hp
    · next hge =>
      split at hp
      · next xs hxs =>
        split at hp
        · next v hv =>
          cases hp
          obtain ⟨hin, hg⟩ := am_at_some hv
          obtain ⟨h1, cell, h2, h3, h4, h5, -⟩ := hro a xs (Nat.le_of_not_lt hge) hxs
          have h6 := h5 _ (vp_in_lt hin)
          rw [hg] at h6
          refine W.iald (v := .int v) (a := ad a) hx hb (by rw [hR.2.1 _ h1]; exact h2) h3 h4 (fun q => ?_) h6 rfl rfl hd (kk rfl)
          rcases q with q | q
          · exact hin (Or.inl q)
          · have := (Array.getElem?_eq_some_iff.mp h6).1
            omega
        · cases hp
      · cases hp
  · cases hp
theorem am_s_bal (hx : p.tables.exec = Jvm.exec) (hb : c.code = cc) (had : ∀ k, k < am_RO → ad k = sz0 + k) (hlen : h.length ≤ am_RO) (hK : va_K D vwCl (am_tys kA) s) (hR : am_RH D kA ad sz0 H00 h H) (hd : decode cc pc = .ok (.baload, 1)) (hp : am_bal st h = some (st', h'))
    (kk : h' = h → W p l e R s m args below meth c H locs cells slots Q (F0 m (pc + 1) ls (st'.map (am_v ad)))) : W p l e R s m args below meth c H locs cells slots Q (F0 m pc ls (st.map (am_v ad))) := by
  unfold am_bal at hp
  split at hp
  · next i a r =>
    split at hp
    · next t xs hh =>
      split at hp
      · next ht =>
        split at hp
        · next v hv =>
          cases hp
          obtain ⟨hin, hg⟩ := am_at_some hv
          have hc : H[sz0 + a]? = some (arrV (kA t) xs.length (fun j => .int (xs.getD j 0))) := hR.2.2 a _ hh
          rw [← had a (by have := am_hlt hh; omega)] at hc
          rcases ht with rfl | rfl
          · exact W.bald (v := .int v) hx hb hc ((hK.2 1 _ rfl).1 _ _) (fun q => by cases q) (by rw [arrV_size]; exact hin) (by rw [arrV_read _ _ (vp_in_lt hin), hg]) rfl rfl hd (kk rfl)
          · exact W.zald (v := .int v) hx hb hc ((hK.2 2 _ rfl).1 _ _) (fun q => by cases q) (by rw [arrV_size]; exact hin) (by rw [arrV_read _ _ (vp_in_lt hin), hg]) rfl rfl hd (kk rfl)
        · cases hp
      · cases hp
    · cases hp
  · cases hp
theorem am_rf_v (ad : Nat → Nat) (v : Option Nat) : va_rf (v.map ad) = am_v ad (va_rf v) := by cases v <;> rfl
/-- arrays of references are of one of three types -/
def am_hok (h : am_H) : Prop := ∀ (k t : Nat) (xs : List (Option Nat)), h[k]? = some (.inr (.inl (t, xs))) → t = 3 ∨ t = 4 ∨ t = 5
theorem am_s_aal (hx : p.tables.exec = Jvm.exec) (hb : c.code = cc) (had : ∀ k, k < am_RO → ad k = sz0 + k) (hlen : h.length ≤ am_RO) (hok : am_hok h) (hK : va_K D vwCl (am_tys kA) s) (hR : am_RH D kA ad sz0 H00 h H) (hd : decode cc pc = .ok (.aaload, 1)) (hp : am_aal st h = some (st', h'))
    (kk : h' = h → W p l e R s m args below meth c H locs cells slots Q (F0 m (pc + 1) ls (st'.map (am_v ad)))) : W p l e R s m args below meth c H locs cells slots Q (F0 m pc ls (st.map (am_v ad))) := by
  unfold am_aal at hp
  split at hp
  · next i a r =>
    split at hp
    · next t xs hh =>
      split at hp
      · next v hv =>
        cases hp
        obtain ⟨hin, hg⟩ := am_atr_some hv
        have hc : H[sz0 + a]? = some (arrV (kA t) xs.length (fun j => va_rf ((xs.getD j none).map ad))) := hR.2.2 a _ hh
        rw [← had a (by have := am_hlt hh; omega)] at hc
        have hv2 : (arrV (kA t) xs.length (fun j => va_rf ((xs.getD j none).map ad))).slots[i.toNatClampNeg]? = some (am_v ad (va_rf v)) := by rw [arrV_read _ _ (vp_in_lt hin), hg, am_rf_v]
        rcases hok _ _ _ hh with rfl | rfl | rfl
        · exact W.aald (ty := .array .int) hx hb hc ((hK.2 3 _ rfl).1 _ _) rfl (fun q => by cases q) (by rw [arrV_size]; exact hin) hv2 rfl rfl hd (kk rfl)
        · exact W.aald (ty := .object RX5) hx hb hc ((hK.2 4 _ rfl).1 _ _) rfl (fun q => by cases q) (by rw [arrV_size]; exact hin) hv2 rfl rfl hd (kk rfl)
        · exact W.aald (ty := .object RX10) hx hb hc ((hK.2 5 _ rfl).1 _ _) rfl (fun q => by cases q) (by rw [arrV_size]; exact hin) hv2 rfl rfl hd (kk rfl)
      · cases hp
    · cases hp
  · cases hp
theorem am_lb {q : Loc} {a j : Nat} (hl : ∀ q ∈ locs, sz0 ≤ q.base) (ha : sz0 ≤ a) (hq : q ∈ locs ++ [(⟨a, j⟩ : Loc)]) : sz0 ≤ q.base := by
  rcases List.mem_append.mp hq with hq | hq
  · exact hl q hq
  · rw [List.mem_singleton.mp hq]; exact ha
theorem am_s_ias (hx : p.tables.exec = Jvm.exec) (hb : c.code = cc) (had : ∀ k, k < am_RO → ad k = sz0 + k) (hlen : h.length ≤ am_RO) (hK : va_K D vwCl (am_tys kA) s) (hR : am_RH D kA ad sz0 H00 h H) (hl : ∀ q ∈ locs, sz0 ≤ q.base) (hd : decode cc pc = .ok (.iastore, 1)) (hp : am_ias st h = some (st', h'))
    (kk : ∀ (H1 : Heap) (locs1 : List Loc), am_RH D kA ad sz0 H00 h' H1 → (∀ q ∈ locs1, sz0 ≤ q.base) → W p l e R s m args below meth c H1 locs1 cells slots Q (F0 m (pc + 1) ls (st'.map (am_v ad)))) : W p l e R s m args below meth c H locs cells slots Q (F0 m pc ls (st.map (am_v ad))) := by
  unfold am_ias at hp
  split at hp
  · next x i a r =>
    split at hp
    · next xs hh =>
      split at hp
      · next ys hy =>
        cases hp
        obtain ⟨hin, rfl⟩ := am_up_some hy
        have hc : H[sz0 + a]? = some (arrV (kA 0) xs.length (fun j => .int (xs.getD j 0))) := hR.2.2 a _ hh
        have ha := had a (by have := am_hlt hh; omega)
        refine W.iast (a := ad a) hx hb (by rw [ha]; exact hc) ((hK.2 0 _ rfl).1 _ _) (fun q => by cases q) (by rw [arrV_size]; exact hin) rfl rfl hd fun H1 e1 z1 o1 => ?_
        rw [ha] at e1 o1
        refine kk H1 _ (hR.set z1 o1 ?_) (fun q hq => am_lb hl (by rw [ha]; omega) hq)
        show H1[sz0 + a]? = some _
        rw [e1, am_arr_set (vp_in_lt hin)]
      · cases hp
    · cases hp
  · cases hp
theorem am_s_bas (hx : p.tables.exec = Jvm.exec) (hb : c.code = cc) (had : ∀ k, k < am_RO → ad k = sz0 + k) (hlen : h.length ≤ am_RO) (hK : va_K D vwCl (am_tys kA) s) (hR : am_RH D kA ad sz0 H00 h H) (hl : ∀ q ∈ locs, sz0 ≤ q.base) (hd : decode cc pc = .ok (.bastore, 1)) (hp : am_bas st h = some (st', h'))
    (kk : ∀ (H1 : Heap) (locs1 : List Loc), am_RH D kA ad sz0 H00 h' H1 → (∀ q ∈ locs1, sz0 ≤ q.base) → W p l e R s m args below meth c H1 locs1 cells slots Q (F0 m (pc + 1) ls (st'.map (am_v ad)))) : W p l e R s m args below meth c H locs cells slots Q (F0 m pc ls (st.map (am_v ad))) := by
  unfold am_bas at hp
  split at hp
  · next x i a r =>
    split at hp
    · next t xs hh =>
      split at hp
      · next ht =>
        split at hp
        · next ys hy =>
          cases hp
          obtain ⟨hin, rfl⟩ := am_up_some hy
          have hc : H[sz0 + a]? = some (arrV (kA t) xs.length (fun j => .int (xs.getD j 0))) := hR.2.2 a _ hh
          have ha := had a (by have := am_hlt hh; omega)
          rcases ht with rfl | rfl
          · refine W.bast (a := ad a) hx hb (by rw [ha]; exact hc) ((hK.2 1 _ rfl).1 _ _) (fun q => by cases q) (by rw [arrV_size]; exact hin) rfl rfl hd fun H1 e1 z1 o1 => ?_
            rw [ha] at e1 o1
            refine kk H1 _ (hR.set z1 o1 ?_) (fun q hq => am_lb hl (by rw [ha]; omega) hq)
            show H1[sz0 + a]? = some _
            rw [e1, narrow_byte, am_arr_set (vp_in_lt hin)]
            rfl
          · refine W.zast (a := ad a) hx hb (by rw [ha]; exact hc) ((hK.2 2 _ rfl).1 _ _) (fun q => by cases q) (by rw [arrV_size]; exact hin) rfl rfl hd fun H1 e1 z1 o1 => ?_
            rw [ha] at e1 o1
            refine kk H1 _ (hR.set z1 o1 ?_) (fun q hq => am_lb hl (by rw [ha]; omega) hq)
            show H1[sz0 + a]? = some _
            rw [e1, show narrow .boolean (.int x) = .int (x &&& 1) from rfl, am_arr_set (vp_in_lt hin)]
            rfl
        · cases hp
      · cases hp
    · cases hp
  · cases hp
theorem am_s_len (hx : p.tables.exec = Jvm.exec) (hb : c.code = cc) (had : ∀ k, k < am_RO → ad k = sz0 + k) (hok : am_hok h) (hty : ∀ (k t : Nat) (xs : List Int32), h[k]? = some (.inl (t, xs)) → t = 0 ∨ t = 1 ∨ t = 2) (hK : va_K D vwCl (am_tys kA) s) (hro : am_ROk ro ad sz0 H00 s) (hR : am_RH D kA ad sz0 H00 h H) (hd : decode cc pc = .ok (.arraylength, 1)) (hp : am_len ro st h = some (st', h'))
    (kk : h' = h → W p l e R s m args below meth c H locs cells slots Q (F0 m (pc + 1) ls (st'.map (am_v ad)))) : W p l e R s m args below meth c H locs cells slots Q (F0 m pc ls (st.map (am_v ad))) := by
  unfold am_len at hp
  split at hp
  · next a r =>
    split at hp
    · next hlt =>
      split at hp
      · next t xs hh =>
        cases hp
        have hc : H[sz0 + a]? = some (arrV (kA t) xs.length (fun j => .int (xs.getD j 0))) := hR.2.2 a _ hh
        rw [← had a hlt] at hc
        rcases hty _ _ _ hh with rfl | rfl | rfl
        · exact W.alen hx hb hc ((hK.2 0 _ rfl).1 _ _) (by rw [arrV_size]) rfl rfl hd (kk rfl)
        · exact W.alen hx hb hc ((hK.2 1 _ rfl).1 _ _) (by rw [arrV_size]) rfl rfl hd (kk rfl)
        · exact W.alen hx hb hc ((hK.2 2 _ rfl).1 _ _) (by rw [arrV_size]) rfl rfl hd (kk rfl)
      · next t xs hh =>
        cases hp
        have hc : H[sz0 + a]? = some (arrV (kA t) xs.length (fun j => va_rf ((xs.getD j none).map ad))) := hR.2.2 a _ hh
        rw [← had a hlt] at hc
        rcases hok _ _ _ hh with rfl | rfl | rfl
        · exact W.alen hx hb hc ((hK.2 3 _ rfl).1 _ _) (by rw [arrV_size]) rfl rfl hd (kk rfl)
        · exact W.alen hx hb hc ((hK.2 4 _ rfl).1 _ _) (by rw [arrV_size]) rfl rfl hd (kk rfl)
        · exact W.alen hx hb hc ((hK.2 5 _ rfl).1 _ _) (by rw [arrV_size]) rfl rfl hd (kk rfl)
      · cases hp
    · next hge =>
      split at hp
      · next he =>
        split at hp
        · next xs hxs =>
          cases hp
          obtain ⟨h1, cell, h2, h3, h4, h5, h6⟩ := hro a xs (Nat.le_of_not_lt hge) hxs
          exact W.alen (a := ad a) hx hb (by rw [hR.2.1 _ h1]; exact h2) h3 (by rw [h6 he]) rfl rfl hd (kk rfl)
        · cases hp
      · cases hp
  · cases hp
end AmArr
end
section
/-! ===== what makes cells, and the rest of the heap's steps ===== -/
section AmAlloc
variable {p : Program} {l : Launch} {e : Env} {R : Room} {s : State} {m : MethodId} {args : Array Value} {below : List Frame} {meth : Method} {c : Code} {H : Heap} {locs : List Loc} {cells slots : Nat} {Q : State → Prop} {cc : ByteArray} {pc nL : Nat} {ls : Array Slot} {ad : Nat → Nat} {D : va_G} {kA : Nat → ClassId} {sz0 : Nat} {H00 : Heap} {h h' : am_H} {st st' : List Value} {ro : Nat → Option (List Int32)}
theorem am_s_aas (hx : p.tables.exec = Jvm.exec) (hb : c.code = cc) (had : ∀ k, k < am_RO → ad k = sz0 + k) (hlen : h.length ≤ am_RO) (hK : va_K D vwCl (am_tys kA) s) (hR : am_RH D kA ad sz0 H00 h H) (hl : ∀ q ∈ locs, sz0 ≤ q.base) (hd : decode cc pc = .ok (.aastore, 1)) (hp : am_aas st h = some (st', h'))
    (kk : ∀ (H1 : Heap) (locs1 : List Loc), am_RH D kA ad sz0 H00 h' H1 → (∀ q ∈ locs1, sz0 ≤ q.base) → W p l e R s m args below meth c H1 locs1 cells slots Q (F0 m (pc + 1) ls (st'.map (am_v ad)))) : W p l e R s m args below meth c H locs cells slots Q (F0 m pc ls (st.map (am_v ad))) := by
  unfold am_aas at hp
  split at hp
  · next v i a r =>
    split at hp
    · next t xs hh =>
      split at hp
      · next ci fs hv =>
        split at hp
        · next hty =>
          split at hp
          · next ys hy =>
            cases hp
            obtain ⟨hin, rfl⟩ := am_upr_some hy
            have hc : H[sz0 + a]? = some (arrV (kA t) xs.length (fun j => va_rf ((xs.getD j none).map ad))) := hR.2.2 a _ hh
            have ha := had a (by have := am_hlt hh; omega)
            have hva := had v (by have := am_hlt hv; omega)
            rw [← ha] at hc
            obtain ⟨r0, h1, h2, cellV, g1, g2, g3, -⟩ := hR.2.2 v _ hv
            rw [← hva] at g1
            have hcls := (hK.1 ci r0 h1).2
            have fin : ∀ H1 : Heap, H1[ad a]? = some ((arrV (kA t) xs.length (fun j => va_rf ((xs.getD j none).map ad))).setSlot i.toNatClampNeg (.ref (ad v))) → H1.size = H.size → (∀ q, q ≠ ad a → H1[q]? = H[q]?) → am_RH D kA ad sz0 H00 (h.set a (.inr (.inl (t, xs.set i.toNatClampNeg (some v))))) H1 := fun H1 e1 z1 o1 => by
              rw [ha] at e1 o1
              refine hR.set z1 o1 ?_
              show H1[sz0 + a]? = some _
              rw [e1]
              exact congrArg some (am_arr_setr (x := some v) (vp_in_lt hin))
            rcases hty with ⟨rfl, rfl⟩ | ⟨rfl, rfl⟩
            · obtain ⟨kA1, comp, k1, k2, k3, -⟩ := (hK.2 4 _ rfl).2
              have e0 : r0 = (RX5, TX5, _) := Option.some.inj (h1.symm.trans rfl)
              have hcomp : comp = D.1 5 := Option.some.inj (k3.symm.trans (by have := hcls.1; rw [e0] at this; exact this))
              subst hcomp
              obtain ⟨kC, hkC, -⟩ := hcls.2
              exact W.aast hx hb hc (fun q h => by cases h) (fun h => by cases h) k1 k2 rfl hkC ⟨fun q => hin (Or.inl q), by rw [arrV_size]; exact vp_in_lt hin⟩ g1 (fun q h => by rw [g3] at h; cases h) (by rw [g2]; exact hkC) (by rw [g2]; exact va_assign hcls) rfl rfl hd fun H1 e1 z1 o1 => kk H1 _ (fin H1 e1 z1 o1) (fun q hq => am_lb hl (by rw [ha]; omega) hq)
            · obtain ⟨kA1, comp, k1, k2, k3, -⟩ := (hK.2 5 _ rfl).2
              have e0 : r0 = (RX10, TX10, _) := Option.some.inj (h1.symm.trans rfl)
              have hcomp : comp = D.1 10 := Option.some.inj (k3.symm.trans (by have := hcls.1; rw [e0] at this; exact this))
              subst hcomp
              obtain ⟨kC, hkC, -⟩ := hcls.2
              exact W.aast hx hb hc (fun q h => by cases h) (fun h => by cases h) k1 k2 rfl hkC ⟨fun q => hin (Or.inl q), by rw [arrV_size]; exact vp_in_lt hin⟩ g1 (fun q h => by rw [g3] at h; cases h) (by rw [g2]; exact hkC) (by rw [g2]; exact va_assign hcls) rfl rfl hd fun H1 e1 z1 o1 => kk H1 _ (fin H1 e1 z1 o1) (fun q hq => am_lb hl (by rw [ha]; omega) hq)
          · cases hp
        · cases hp
      · cases hp
    · cases hp
  · cases hp
/-- how many places a cell has -/
def am_csz (c : am_C) : Nat := match c with
  | .inl (_, xs) => xs.length
  | .inr (.inl (_, xs)) => xs.length
  | .inr (.inr (_, fs)) => fs.length
def am_sl0 (h : am_H) : Nat := (h.map am_csz).sum
theorem am_sl0_app (h g : am_H) : am_sl0 (h ++ g) = am_sl0 h + am_sl0 g := by
  unfold am_sl0
  rw [List.map_append, List.sum_append]
/-- new -/
theorem am_s_new (hx : p.tables.exec = Jvm.exec) (hb : c.code = cc) {own : String} {index z : Nat} {Ts : List Cond} (hts : ∀ w ∈ Ts, w.before args s = true) (had : ∀ k, k < am_RO → ad k = sz0 + k) (hlen : h.length < am_RO) (hown : s.vm.findClass own = some m.cls) (hK : va_K D vwCl (am_tys kA) s) (hR : am_RH D kA ad sz0 H00 h H) {C : String} {T : u_T} {N : Nat} (hc : vwCl[z]? = some (C, T, N)) (hin : ∀ w ∈ u_ws C T N, w ∈ Ts)
    (hcl : Cond.classLink own index C ∈ Ts) (hinst : Cond.instantiable C N ∈ Ts) (hini : Cond.initialized C ∈ Ts) (hty : ∀ k, k < N → parseFieldDescriptor (T k).2.2.1 = some (am_fty z k)) (hdf : ∀ k, k < N → defaultValue (am_fty z k) = am_dfv (am_fty z k)) (hcells : cells + 1 ≤ R.cells) (hslots : slots + N ≤ R.slots) (hd : decode cc pc = .ok (.new index, 3)) (hp : am_new z st h = some (st', h'))
    (kk : ∀ (H1 : Heap), am_RH D kA ad sz0 H00 h' H1 → W p l e R s m args below meth c H1 locs (cells + 1) (slots + N) Q (F0 m (pc + 3) ls (st'.map (am_v ad)))) : W p l e R s m args below meth c H locs cells slots Q (F0 m pc ls (st.map (am_v ad))) := by
  unfold am_new at hp
  cases hp
  have hN : am_nf z = N := by unfold am_nf; rw [hc]
  have hKn := hK.1 z _ hc
  refine W.newcK hx hb hown (hts _ hcl) (hts _ hinst) (hts _ hini) rfl hd hcells hslots hKn.2.1 rfl fun H1 kC hkC e1 z1 o1 => ?_
  have ha : ad h.length = H.size := by rw [had _ hlen, hR.1]
  have e2 : F0 m (pc + 3) ls ((.ref h.length :: st).map (am_v ad)) = F0 m (pc + 3) ls (.ref H.size :: st.map (am_v ad)) := by
    show F0 m (pc + 3) ls (.ref (ad h.length) :: _) = _
    rw [ha]
  refine W.eq e2.symm (kk H1 (hR.push z1 o1 ?_))
  refine ⟨_, hc, by rw [hN, List.length_map, List.length_range], ?_⟩
  refine (u_born (am_fty z) hts hin hKn hkC e1 hty).to (fun j hj => ?_)
  rw [hdf j hj, hN]
  have hv : am_v ad (am_dfv (am_fty z j)) = am_dfv (am_fty z j) := by
    unfold am_dfv
    split <;> rfl
  simp [vp_V, List.getElem?_map, List.getElem?_range hj, hv]
theorem am_nt_df {t : ArrayType} {k : Nat} (h : am_nt t = some k) : k < 3 ∧ defaultValue (newarray.typeOf t) = .int 0 ∧ componentBytes (newarray.typeOf t) ≤ 4 ∧ (am_tys kA)[k]? = some (kA k, newarray.typeOf t) := by
  cases t <;> cases h <;> exact ⟨by decide, rfl, by decide, rfl⟩
/-- newarray -/
theorem am_s_newa (hx : p.tables.exec = Jvm.exec) (hb : c.code = cc) {t : ArrayType} {Ts : List Cond} (hts : ∀ w ∈ Ts, w.before args s = true) (had : ∀ k, k < am_RO → ad k = sz0 + k) (hlen : h.length < am_RO) (hK : va_K D vwCl (am_tys kA) s) (hR : am_RH D kA ad sz0 H00 h H) (harr : Cond.arrayClass (newarray.typeOf t) ∈ Ts)
    (hcells : cells + 1 ≤ R.cells) (hslots : slots + (am_sl0 h' - am_sl0 h) ≤ R.slots) (hd : decode cc pc = .ok (.newarray t, 2)) (hp : am_newa t st h = some (st', h'))
    (kk : ∀ (H1 : Heap), am_RH D kA ad sz0 H00 h' H1 → W p l e R s m args below meth c H1 locs (cells + 1) (slots + (am_sl0 h' - am_sl0 h)) Q (F0 m (pc + 2) ls (st'.map (am_v ad)))) : W p l e R s m args below meth c H locs cells slots Q (F0 m pc ls (st.map (am_v ad))) := by
  unfold am_newa at hp
  split at hp
  · next n r =>
    split at hp
    · next k hk =>
      split at hp
      · cases hp
      · next hn =>
        cases hp
        obtain ⟨hk3, hdf, hcb, hty⟩ := am_nt_df (kA := kA) hk
        have hS : am_sl0 (h ++ [.inl (k, List.replicate n.toNatClampNeg 0)]) - am_sl0 h = n.toNatClampNeg := by
          rw [am_sl0_app]
          simp [am_sl0, am_csz]
        rw [hS] at kk hslots
        have hn0 : ¬ n < 0 := fun q => hn (Or.inl q)
        have hnl : n.toNatClampNeg ≤ 65536 := by
          rcases Nat.lt_or_ge 65536 n.toNatClampNeg with q | q
          · exact absurd (Or.inr q) hn
          · exact q
        have hbytes : n.toNatClampNeg * componentBytes (newarray.typeOf t) ≤ 536870912 := Nat.le_trans (Nat.mul_le_mul hnl hcb) (by decide)
        refine va_newaK hx hb (hts _ harr) rfl hd rfl hn0 rfl hbytes hcells hslots rfl fun H1 cA e1 z1 o1 hAr hNm => ?_
        have hcA : cA = kA k := by
          have h1 := (hK.2 k _ hty).2
          have h2 : s.vm.findClass ("[" ++ (newarray.typeOf t).toString) = some (kA k) := by
            cases t <;> exact h1
          exact Option.some.inj (hNm.symm.trans h2)
        subst hcA
        have ha : ad h.length = H.size := by rw [had _ hlen, hR.1]
        have e2 : F0 m (pc + 2) ls ((.ref h.length :: r).map (am_v ad)) = F0 m (pc + 2) ls (.ref H.size :: r.map (am_v ad)) := by
          show F0 m (pc + 2) ls (.ref (ad h.length) :: _) = _
          rw [ha]
        refine W.eq e2.symm (kk H1 (hR.push z1 o1 ?_))
        show H1[H.size]? = some _
        rw [e1, hdf, List.length_replicate]
        congr 2
        funext j
        simp only [List.getD_eq_getElem?_getD, List.getElem?_replicate]
        split <;> rfl
    · cases hp
  · cases hp
/-- anewarray: Formula[], Sheet[] -/
theorem am_s_anew (hx : p.tables.exec = Jvm.exec) (hb : c.code = cc) {own C : String} {index z : Nat} {Ts : List Cond} (hts : ∀ w ∈ Ts, w.before args s = true) (had : ∀ k, k < am_RO → ad k = sz0 + k) (hlen : h.length < am_RO) (hown : s.vm.findClass own = some m.cls) (hK : va_K D vwCl (am_tys kA) s) (hR : am_RH D kA ad sz0 H00 h H) (hty : (am_tys kA)[z]? = some (kA z, .object C)) (hcl : Cond.classLink own index C ∈ Ts) (hao : va_AO C s)
    (hcells : cells + 1 ≤ R.cells) (hslots : slots + (am_sl0 h' - am_sl0 h) ≤ R.slots) (hd : decode cc pc = .ok (.anewarray index, 3)) (hp : am_anew z st h = some (st', h'))
    (kk : ∀ (H1 : Heap), am_RH D kA ad sz0 H00 h' H1 → W p l e R s m args below meth c H1 locs (cells + 1) (slots + (am_sl0 h' - am_sl0 h)) Q (F0 m (pc + 3) ls (st'.map (am_v ad)))) : W p l e R s m args below meth c H locs cells slots Q (F0 m pc ls (st.map (am_v ad))) := by
  unfold am_anew at hp
  split at hp
  · next n r =>
    split at hp
    · cases hp
    · next hn =>
      cases hp
      have hS : am_sl0 (h ++ [.inr (.inl (z, List.replicate n.toNatClampNeg none))]) - am_sl0 h = n.toNatClampNeg := by
        rw [am_sl0_app]
        simp [am_sl0, am_csz]
      rw [hS] at kk hslots
      have hn0 : ¬ n < 0 := fun q => hn (Or.inl (Or.inl q))
      have hnl : n.toNatClampNeg ≤ 65536 := by
        rcases Nat.lt_or_ge 65536 n.toNatClampNeg with q | q
        · exact absurd (Or.inl (Or.inr q)) hn
        · exact q
      refine W.anew hx hb hown (hts _ hcl) (va_AO.use hao) rfl hd rfl hn0 (by omega) hcells hslots fun cA kA1 comp f1 f2 f3 f4 => ?_
      generalize hH1 : H.push ({ cls := cA, slots := Array.replicate n.toNatClampNeg .null, vm := .none } : Cell) = H1
      have z1 : H1.size = H.size + 1 := by rw [← hH1, Array.size_push]
      have e1 : H1[H.size]? = some (arrV cA n.toNatClampNeg (fun _ => .null)) := by rw [← hH1, Array.getElem?_push_size, ← arrV_new]
      have o1 : ∀ q : Nat, q < H.size → H1[q]? = H[q]? := fun q hq => by rw [← hH1, Array.getElem?_push, if_neg (Nat.ne_of_lt hq)]
      have hcA : cA = kA z := by
        obtain ⟨-, -, -, -, -, h4⟩ := (hK.2 z _ hty).2
        exact Option.some.inj (f1.symm.trans h4)
      subst hcA
      have ha : ad h.length = H.size := by rw [had _ hlen, hR.1]
      have e2 : F0 m (pc + 3) ls ((.ref h.length :: r).map (am_v ad)) = F0 m (pc + 3) ls (.ref H.size :: r.map (am_v ad)) := by
        show F0 m (pc + 3) ls (.ref (ad h.length) :: _) = _
        rw [ha]
      refine W.eq e2.symm (kk H1 (hR.push z1 o1 ?_))
      show H1[H.size]? = some _
      rw [e1, List.length_replicate]
      congr 2
      funext j
      simp only [List.getD_eq_getElem?_getD, List.getElem?_replicate]
      split <;> rfl
  · cases hp
end AmAlloc
end
section
/-! ===== statics, constants, casts, arraycopy, clone ===== -/
theorem am_cpy_get {xs ys : List Int32} {i j n : Nat} (h1 : i + n ≤ xs.length) (h2 : j + n ≤ ys.length) (k : Nat) : (am_cpy xs ys i j n).getD k 0 = va_cpy (fun q => xs.getD q 0) (fun q => ys.getD q 0) i j n k := by
  unfold am_cpy va_cpy
  simp only [List.getD_eq_getElem?_getD]
  by_cases hk : k < j
  · rw [List.append_assoc, List.getElem?_append_left (by simp; omega), List.getElem?_take_of_lt hk, if_neg (by omega)]
  · by_cases hk2 : k < j + n
    · rw [List.append_assoc, List.getElem?_append_right (by simp; omega), List.getElem?_append_left (by simp; omega), List.getElem?_take_of_lt (by simp; omega), List.getElem?_drop, if_pos (by omega)]
      simp only [List.length_take]
      rw [show min j ys.length = j by omega]
    · rw [List.getElem?_append_right (by simp; omega), List.getElem?_drop, if_neg (by omega)]
      simp only [List.length_append, List.length_take, List.length_drop]
      rw [show j + n + (k - (min j ys.length + min n (xs.length - i))) = k by omega]
theorem am_cpy_len {xs ys : List Int32} {i j n : Nat} (h1 : i + n ≤ xs.length) (h2 : j + n ≤ ys.length) : (am_cpy xs ys i j n).length = ys.length := by
  unfold am_cpy
  simp only [List.length_append, List.length_take, List.length_drop]
  omega
section AmHeap3
variable {p : Program} {l : Launch} {e : Env} {R : Room} {s : State} {m : MethodId} {args : Array Value} {below : List Frame} {meth : Method} {c : Code} {H : Heap} {locs : List Loc} {cells slots : Nat} {Q : State → Prop} {cc : ByteArray} {pc nL : Nat} {ls : Array Slot} {ad : Nat → Nat} {D : va_G} {kA : Nat → ClassId} {sz0 : Nat} {H00 : Heap} {h h' : am_H} {st st' : List Value} {ro : Nat → Option (List Int32)}
theorem am_toInt {z : Int32} (hz : ¬ z < 0) : z.toInt = (z.toNatClampNeg : Int) := by
  have hz0 : (0 : Int) ≤ z.toInt := by
    have := Int32.not_lt.mp hz
    simpa using Int32.le_iff_toInt_le.mp this
  show z.toInt = ((z.toInt.toNat : Nat) : Int)
  omega
/-- System.arraycopy -/
theorem am_s_acp (hx : p.tables.exec = Jvm.exec) (hb : c.code = cc) (hml : c.maxLocals = ls.size) {own : String} {index : Nat} {Ts : List Cond} (hts : ∀ w ∈ Ts, w.before args s = true) (hown : s.vm.findClass own = some m.cls) (hlink : Cond.methodLink own index arraycopyName ∈ Ts) (hnat : Cond.native arraycopyName ∈ Ts) (hstat : Cond.static arraycopyName ∈ Ts) (hini : Cond.initialized "java/lang/System" ∈ Ts)
    (had : ∀ k, k < am_RO → ad k = sz0 + k) (hlen : h.length ≤ am_RO) (hK : va_K D vwCl (am_tys kA) s) (hR : am_RH D kA ad sz0 H00 h H) (hl : ∀ q ∈ locs, sz0 ≤ q.base) (hframes : 1 ≤ R.frames) (hlocals : 26 ≤ R.locals) (hd : decode cc pc = .ok (.invokestatic index, 3)) (hp : am_acp st h = some (st', h'))
    (kk : ∀ (H1 : Heap) (locs1 : List Loc), am_RH D kA ad sz0 H00 h' H1 → (∀ q ∈ locs1, sz0 ≤ q.base) → W p l e R s m args below meth c H1 locs1 cells slots Q (F0 m (pc + 3) ls (st'.map (am_v ad)))) : W p l e R s m args below meth c H locs cells slots Q (F0 m pc ls (st.map (am_v ad))) := by
  unfold am_acp at hp
  split at hp
  · next n j b i a r =>
    split at hp
    · next xs hh =>
      split at hp
      · next ys hy =>
        split at hp
        · cases hp
        · next hn =>
          cases hp
          have h3 : ¬ n < 0 := fun q => hn (Or.inl q)
          have h1 : ¬ i < 0 := fun q => hn (Or.inr (Or.inl q))
          have h2 : ¬ j < 0 := fun q => hn (Or.inr (Or.inr (Or.inl q)))
          have h4 : i.toNatClampNeg + n.toNatClampNeg ≤ xs.length := Nat.le_of_not_lt fun q => hn (Or.inr (Or.inr (Or.inr (Or.inl q))))
          have h5 : j.toNatClampNeg + n.toNatClampNeg ≤ ys.length := Nat.le_of_not_lt fun q => hn (Or.inr (Or.inr (Or.inr (Or.inr (Or.inl q)))))
          have hw : am_w st' ≤ 8 := Nat.le_of_not_lt fun q => hn (Or.inr (Or.inr (Or.inr (Or.inr (Or.inr q)))))
          have ha := had a (by have := am_hlt hh; omega)
          have hbb := had b (by have := am_hlt hy; omega)
          have hc0 : H[ad a]? = some (arrV (kA 0) xs.length (fun j => .int (xs.getD j 0))) := by rw [ha]; exact hR.2.2 a _ hh
          have hc1 : H[ad b]? = some (arrV (kA 0) ys.length (fun j => .int (ys.getD j 0))) := by rw [hbb]; exact hR.2.2 b _ hy
          obtain ⟨-, k0, hk0, cm0, hkk0⟩ := (hK.2 0 _ rfl).1 xs.length (fun j => .int (xs.getD j 0))
          intro T hT X
          obtain ⟨vm', X', step⟩ := X.arraycopy hx hown (hts _ hlink) (hts _ hnat) (hts _ hstat) (hts _ hini) (src := ad a) (dst := ad b) (cs := arrV (kA 0) xs.length (fun j => .int (xs.getD j 0))) (cd := arrV (kA 0) ys.length (fun j => .int (ys.getD j 0))) (srcPos := i) (destPos := j) (n := n) (by rw [hT]; exact hc0) (by rw [hT]; exact hc1)
            (fun _ h => by cases h) (fun _ h => by cases h) (fun h => by cases h) (fun h => by cases h) hk0 hk0 hkk0 hkk0 (by rfl) h1 h2 h3
            (by rw [am_toInt h1, am_toInt h3, arrV_size]; omega)
            (by rw [am_toInt h2, am_toInt h3, arrV_size]; omega)
            (fun vm₁ _ q hq => by
              have e : (arrV (kA 0) xs.length (fun j => .int (xs.getD j 0))).slots.getD (i.toNatClampNeg + q) .null = .int (xs.getD (i.toNatClampNeg + q) 0) := by
                rw [Array.getD_eq_getD_getElem?, arrV_read _ _ (by omega)]
                rfl
              refine ⟨?_, ?_⟩
              · rw [e]; rfl
              · rw [e]; exact trivial)
            (g := F0 m pc ls ((.int n :: .int j :: .ref b :: .int i :: .ref a :: st').map (am_v ad))) rfl (by rw [hml]) (rest := st'.map (am_v ad)) rfl (by rw [hb]; exact hd) hframes (by
              have e2 : ((st'.map (am_v ad)).map fun v => v.category).sum = am_w st' := by
                unfold am_w
                rw [List.map_map]
                congr 1
                apply List.map_congr_left
                intro v _
                exact am_v_cat ad v
              have e3 : nativeFrameWords "java/lang/System" "arraycopy" 5 = 7 := by decide +kernel
              rw [e2, e3]
              show 2 * 0 + _ + _ ≤ _
              omega)
          have e1 : copied (arrV (kA 0) xs.length (fun j => .int (xs.getD j 0))) (arrV (kA 0) ys.length (fun j => .int (ys.getD j 0))) i j n = arrV (kA 0) (am_cpy xs ys i.toNatClampNeg j.toNatClampNeg n.toNatClampNeg).length (fun q => .int ((am_cpy xs ys i.toNatClampNeg j.toNatClampNeg n.toNatClampNeg).getD q 0)) := by
            rw [am_cpy_len h4 h5]
            refine (va_copied (fun z => .int z) (kA 0) (kA 0) (fun q => xs.getD q 0) (fun q => ys.getD q 0) h4).trans ?_
            congr 1
            funext q
            rw [am_cpy_get h4 h5]
          rw [e1] at X' step
          have hbl : ad b < T.heap.size := by rw [hT]; exact (Array.getElem?_eq_some_iff.mp hc1).1
          obtain ⟨t, a1, b1⟩ := kk _ _ (hR.set (k := b) (c := .inl (0, am_cpy xs ys i.toNatClampNeg j.toNatClampNeg n.toNatClampNeg)) (H1 := ((T.setVm vm').setCell (ad b) (arrV (kA 0) (am_cpy xs ys i.toNatClampNeg j.toNatClampNeg n.toNatClampNeg).length (fun q => .int ((am_cpy xs ys i.toNatClampNeg j.toNatClampNeg n.toNatClampNeg).getD q 0)))).heap)
              (by rw [size_setCell]; show T.heap.size = _; rw [hT]) (fun q hq => by rw [← hbb] at hq; rw [heapAt_setCell_ne _ (Ne.symm hq)]; show T.heap[q]? = _; rw [hT])
              (by rw [← hbb]; exact heapAt_setCell_self _ hbl)) (fun q hq => by
              rcases List.mem_append.mp hq with hq | hq
              · exact hl q hq
              · obtain ⟨z, -, hz⟩ := List.mem_map.mp hq
                rw [← hz]
                show sz0 ≤ ad b
                omega) _ rfl X'
          exact ⟨t, step t a1, b1⟩
      · cases hp
    · cases hp
  · cases hp
/-- clone of an int array -/
theorem am_s_cln (hx : p.tables.exec = Jvm.exec) (hb : c.code = cc) (hml : c.maxLocals = ls.size) {own : String} {index : Nat} {Ts : List Cond} (hts : ∀ w ∈ Ts, w.before args s = true) (hown : s.vm.findClass own = some m.cls)
    (hlink : Cond.methodLink own index ⟨"[I", "clone", "()Ljava/lang/Object;"⟩ ∈ Ts) (hsame : Cond.sameMethod "[I" "java/lang/Object" "clone" "()Ljava/lang/Object;" ∈ Ts) (hnat : Cond.native ⟨"java/lang/Object", "clone", "()Ljava/lang/Object;"⟩ ∈ Ts) (hinst : Cond.instanceMethod ⟨"java/lang/Object", "clone", "()Ljava/lang/Object;"⟩ ∈ Ts) (hsel : Cond.selects "[I" ⟨"[I", "clone", "()Ljava/lang/Object;"⟩ ⟨"java/lang/Object", "clone", "()Ljava/lang/Object;"⟩ ∈ Ts) (hcl : Cond.castable "[I" "java/lang/Cloneable" ∈ Ts)
    (had : ∀ k, k < am_RO → ad k = sz0 + k) (hlen : h.length < am_RO) (hK : va_K D vwCl (am_tys kA) s) (hR : am_RH D kA ad sz0 H00 h H) (hframes : 1 ≤ R.frames) (hlocals : 22 ≤ R.locals) (hcells : cells + 1 ≤ R.cells) (hslots : slots + (am_sl0 h' - am_sl0 h) ≤ R.slots) (hd : decode cc pc = .ok (.invokevirtual index, 3)) (hp : am_cln st h = some (st', h'))
    (kk : ∀ (H1 : Heap), am_RH D kA ad sz0 H00 h' H1 → W p l e R s m args below meth c H1 locs (cells + 1) (slots + (am_sl0 h' - am_sl0 h)) Q (F0 m (pc + 3) ls (st'.map (am_v ad)))) : W p l e R s m args below meth c H locs cells slots Q (F0 m pc ls (st.map (am_v ad))) := by
  unfold am_cln at hp
  split at hp
  · next a r =>
    split at hp
    · next xs hh =>
      split at hp
      · cases hp
      next hnw =>
      cases hp
      have hw : am_w r ≤ 8 := Nat.le_of_not_lt hnw
      have hS : am_sl0 (h ++ [.inl (0, xs)]) - am_sl0 h = xs.length := by
        rw [am_sl0_app]
        simp [am_sl0, am_csz]
      rw [hS] at kk hslots
      have ha := had a (by have := am_hlt hh; omega)
      have hc0 : H[ad a]? = some (arrV (kA 0) xs.length (fun j => .int (xs.getD j 0))) := by rw [ha]; exact hR.2.2 a _ hh
      have hnm : s.vm.findClass "[I" = some (kA 0) := (hK.2 0 _ rfl).2
      obtain ⟨c0, t0', f1, f2, f3⟩ := Cond.castable_spec (hts _ hcl)
      cases hnm.symm.trans f1
      intro T hT X
      obtain ⟨-, kA1, hkA, comp, hkind⟩ := State.isArrayOf_alike X.warmed.alike ((hK.2 0 _ rfl).1 0 (fun _ => .null))
      obtain ⟨-, kS, hkS, compS, hkindS⟩ := (hK.2 0 _ rfl).1 0 (fun _ => .null)
      obtain ⟨vm', X', stp⟩ := X.cloneArray hx hown (hts _ hlink) (hts _ hsame) (hts _ hnat) (hts _ hinst) (hts _ hsel) (a := ad a) (cell := arrV (kA 0) xs.length (fun j => .int (xs.getD j 0))) (by rw [hT]; exact hc0) (fun k h => by cases h) (fun h => by cases h) hnm f2 f3
        (fun i v hv => by
          have hk' : T.vm.classes[kA 0]? = some kA1 := hkA
          have hv2 : ∃ x, v = .int x := by
            by_cases hi : i < xs.length
            · rw [arrV_read _ _ hi] at hv
              cases hv
              exact ⟨_, rfl⟩
            · rw [Array.getElem?_eq_none (by rw [arrV_size]; omega)] at hv
              cases hv
          obtain ⟨x, rfl⟩ := hv2
          show T.fitsSlot (kA 0) .none i (.int x) = true
          simp [State.fitsSlot, State.slotType?, hk', hkind, fits])
        (g := F0 m pc ls ((.ref a :: r).map (am_v ad))) rfl (by rw [hml]) rfl (by rw [hb]; exact hd) hframes (by
          have e2 : ((r.map (am_v ad)).map fun v => v.category).sum = am_w r := by
            unfold am_w
            rw [List.map_map]
            congr 1
            apply List.map_congr_left
            intro v _
            exact am_v_cat ad v
          show 2 * 0 + ((r.map (am_v ad)).map fun v => v.category).sum + 14 ≤ _
          rw [e2]
          omega) hcells (by rw [arrV_size]; exact hslots) (hloader := Vm.clonesLoader_of_array hkS hkindS)
      rw [arrV_size] at X'
      have ha2 : ad h.length = T.heap.size := by rw [had _ hlen, hT, hR.1]
      obtain ⟨t, b1, b2⟩ := kk ((T.setVm vm').pushCell (arrV (kA 0) xs.length (fun j => .int (xs.getD j 0)))).heap (hR.push (by show (T.heap.push _).size = _; rw [Array.size_push, hT]) (fun q hq => by show (T.heap.push _)[q]? = _; rw [hT, Array.getElem?_push, if_neg (Nat.ne_of_lt hq)]) (by
        show (T.heap.push _)[H.size]? = some _
        rw [hT, Array.getElem?_push_size])) _ rfl X'
      refine ⟨t, stp t ?_, b2⟩
      have e2 : F0 m (pc + 3) ls ((.ref h.length :: r).map (am_v ad)) = F0 m (pc + 3) ls (.ref T.heap.size :: r.map (am_v ad)) := by
        show F0 m (pc + 3) ls (.ref (ad h.length) :: _) = _
        rw [ha2]
      rw [e2] at b1
      exact b1
    · cases hp
  · cases hp
/-- checkcast to int[] -/
theorem am_s_cst (hx : p.tables.exec = Jvm.exec) (hb : c.code = cc) {own : String} {index z : Nat} {Ts : List Cond} (hts : ∀ w ∈ Ts, w.before args s = true) (hown : s.vm.findClass own = some m.cls) (hlink : Cond.classLink own index "[I" ∈ Ts) (had : ∀ k, k < am_RO → ad k = sz0 + k) (hlen : h.length ≤ am_RO) (hK : va_K D vwCl (am_tys kA) s) (hR : am_RH D kA ad sz0 H00 h H) (hd : decode cc pc = .ok (.checkcast index, 3)) (hp : am_heap ro nL (.checkcast z) st h = some (st', h'))
    (kk : h' = h → W p l e R s m args below meth c H locs cells slots Q (F0 m (pc + 3) ls (st'.map (am_v ad)))) : W p l e R s m args below meth c H locs cells slots Q (F0 m pc ls (st.map (am_v ad))) := by
  simp only [am_heap] at hp
  split at hp
  · next a r =>
    split at hp
    · next xs hh =>
      cases hp
      have ha := had a (by have := am_hlt hh; omega)
      have hc0 : H[ad a]? = some (arrV (kA 0) xs.length (fun j => .int (xs.getD j 0))) := by rw [ha]; exact hR.2.2 a _ hh
      have hnm : s.vm.findClass "[I" = some (kA 0) := (hK.2 0 _ rfl).2
      intro T hT X
      obtain ⟨vm', X', stp⟩ := X.checkcastYes hx hown (hts _ hlink) (by rw [hT]; exact hc0) rfl hnm (va_asg _ _) (g := F0 m pc ls ((.ref a :: r).map (am_v ad))) rfl rfl (by rw [hb]; exact hd)
      obtain ⟨t, a1, b1⟩ := kk rfl (T.setVm vm') hT X'
      exact ⟨t, stp t a1, b1⟩
    · cases hp
  · cases hp
end AmHeap3
end
section
/-! ===== new int[n][k] ===== -/
/-- int[][] is an array over int[] -/
def am_MA (kA : Nat → ClassId) (U : State) : Prop := ∃ k : Class, U.vm.classes[kA 3]? = some k ∧ k.kind = .array (kA 0) (.array .int)
theorem am_MA.moved {kA : Nat → ClassId} {u U : State} (hvm : u.vm.Alike U.vm) (h : am_MA kA u) : am_MA kA U := by
  obtain ⟨k, h1, h2⟩ := h
  obtain ⟨k', hk', he⟩ := hvm.2.2 _ _ h1
  exact ⟨k', hk', by rw [he]; exact h2⟩
/-- the outer array when i rows stand -/
def mw_out (c : ClassId) (N h0 i : Nat) : Cell := arrV c N (fun j => if j < i then .ref (h0 + 1 + j) else .null)
def mw_in (c : ClassId) (M : Nat) : Cell := arrV c M (fun _ => .int 0)
def mw_fill (s : State) (c d : ClassId) (N M : Nat) : Nat → State
  | 0 => s.pushCell (mw_out c N s.heap.size 0)
  | i + 1 => ((mw_fill s c d N M i).pushCell (mw_in d M)).setCell s.heap.size (mw_out c N s.heap.size (i + 1))
theorem mw_out_set (c : ClassId) (N h0 i : Nat) : (mw_out c N h0 i).setSlot i (.ref (h0 + 1 + i)) = mw_out c N h0 (i + 1) := by
  unfold mw_out
  rw [arrV_store]
  congr 1
  funext j
  simp only [updV]
  by_cases e : j = i
  · subst e; rw [if_pos rfl, if_pos (by omega)]
  · rw [if_neg e]
    by_cases h : j < i
    · rw [if_pos h, if_pos (by omega)]
    · rw [if_neg h, if_neg (by omega)]
theorem mw_facts (s : State) (c d : ClassId) (N M : Nat) : ∀ i, (mw_fill s c d N M i).heap.size = s.heap.size + 1 + i ∧ (mw_fill s c d N M i).heap[s.heap.size]? = some (mw_out c N s.heap.size i) ∧ (mw_fill s c d N M i).vm = s.vm ∧ (mw_fill s c d N M i).slotsUsed = s.slotsUsed + N + i * M ∧ (∀ a : Nat, a < s.heap.size → (mw_fill s c d N M i).heap[a]? = s.heap[a]?) ∧ (∀ j : Nat, j < i → (mw_fill s c d N M i).heap[s.heap.size + 1 + j]? = some (mw_in d M)) := by
  intro i
  induction i with
  | zero => exact ⟨by simp [mw_fill], by simp [mw_fill], rfl, by simp [mw_fill, mw_out, arrV_size], fun a ha => State.heap_pushCell_of_lt _ _ ha, fun j hj => absurd hj (Nat.not_lt_zero _)⟩
  | succ i ih =>
    obtain ⟨h1, h2, h3, h4, h5, h6⟩ := ih
    have hlt : s.heap.size < (mw_fill s c d N M i).heap.size := by omega
    have hb : ((mw_fill s c d N M i).pushCell (mw_in d M)).heap[s.heap.size]? = some (mw_out c N s.heap.size i) := by rw [State.heap_pushCell_of_lt (h := hlt)]; exact h2
    refine ⟨?_, State.heap_setCell_self hb, by simp [mw_fill, h3], ?_, ?_, ?_⟩
    · simp [mw_fill, State.setCell, h1]; omega
    · have hz : (mw_in d M).slots.size = M := arrV_size _ _ _
      simp [mw_fill, h4, hz, Nat.succ_mul]; omega
    · intro a ha
      show (((mw_fill s c d N M i).pushCell (mw_in d M)).setCell s.heap.size _).heap[a]? = _
      have hq : a < (mw_fill s c d N M i).heap.size := by omega
      rw [State.heap_setCell_other (Nat.ne_of_gt ha), State.heap_pushCell_of_lt (h := hq)]
      exact h5 a ha
    · intro j hj
      show (((mw_fill s c d N M i).pushCell (mw_in d M)).setCell s.heap.size _).heap[s.heap.size + 1 + j]? = _
      rw [State.heap_setCell_other (show s.heap.size ≠ s.heap.size + 1 + j by omega)]
      rcases Nat.lt_or_ge j i with hj2 | hj2
      · have hq : s.heap.size + 1 + j < (mw_fill s c d N M i).heap.size := by omega
        rw [State.heap_pushCell_of_lt (h := hq)]
        exact h6 j hj2
      · rw [show s.heap.size + 1 + j = (mw_fill s c d N M i).heap.size by omega]
        exact State.heap_pushCell_size _ _
theorem mw_top (s : State) (f : JFrame) (c d : ClassId) (N M : Nat) : ∀ i, mw_fill (s.setTop f) c d N M i = (mw_fill s c d N M i).setTop f := by
  intro i
  induction i with
  | zero => rfl
  | succ i ih => simp only [mw_fill, ih, State.heap_setTop, State.pushCell_setTop, State.setCell_setTop]
section
variable {E : CtlPost} {e : Env} {d : Bool} {acts : List Action} {s : State}
theorem mw_newArray {c comp : ClassId} {k : Class} {type : FieldType} {len : Nat} {init : Value} (hk : s.vm.classes[c]? = some k) (hkind : k.kind = .array comp type) (hlimit : ¬ len > e.platform.arrayLengthLimit) (hheap : ¬ len * componentBytes type > e.platform.maxHeapBytes) (hfit : fits type init = true) (hdef : init.isDefault = true) {Q : Addr → Pre}
    (h1 : s.heap.size < e.platform.maxCells) (h2 : s.slotsUsed + len ≤ e.platform.maxSlots) (hq : Q s.heap.size d acts (s.pushCell (arrV c len (fun _ => init)))) : wp (Jvm.newArray c len init) Q E e d acts s := by
  rw [← arrV_new] at hq
  have hfits : ∀ i v, (Array.replicate len init)[i]? = some v → s.fitsSlot c .none i v = true := by
    intro i v hv
    simp only [Array.getElem?_replicate] at hv
    split at hv
    · cases hv; simp [State.fitsSlot, State.slotType?, hk, hkind, hfit]
    · cases hv
  have hda : allocActs (Array.replicate len init) s.heap.size acts = acts := by
    have hall : ((Array.replicate len init).all (·.isDefault)) = true := by
      rw [Array.all_replicate]; split <;> simp [hdef]
    unfold allocActs; rw [if_pos hall]
  simp only [Jvm.newArray, Jvm.arrayFits, wp_bind', W.ask, W.ite, hlimit, if_false, wp_pure', W.theClass, hk, hkind, hheap, W.alloc, W.stop, Option.some.injEq, exists_eq_left', Array.size_replicate, hda]
  rw [if_neg (by omega)]
  exact ⟨h1, h2, hfits, hq⟩
theorem mw_make {c comp cc : ClassId} {k kc : Class} {n m : Int32} (hk : s.vm.classes[c]? = some k) (hkind : k.kind = .array comp (.array .int)) (hkc : s.vm.classes[comp]? = some kc) (hkindc : kc.kind = .array cc .int) (hn : ¬ n < 0) (hm : ¬ m < 0) (hln : n.toNatClampNeg ≤ 256) (hlm : m.toNatClampNeg ≤ 256) (hal : 256 ≤ e.platform.arrayLengthLimit) (hmh : 1024 ≤ e.platform.maxHeapBytes)
    (hc : s.heap.size + 1 + n.toNatClampNeg ≤ e.platform.maxCells) (hs : s.slotsUsed + n.toNatClampNeg + n.toNatClampNeg * m.toNatClampNeg ≤ e.platform.maxSlots) {Q : Addr → Pre} (hq : ∀ d' acts', Q s.heap.size d' acts' (mw_fill s c comp n.toNatClampNeg m.toNatClampNeg n.toNatClampNeg)) : wp (multianewarray.make c [n, m]) Q E e d acts s := by
  have hfind : ([m].find? (· < 0)) = none := by simp [hm]
  have b1 : ∀ z : Nat, z ≤ 256 → ¬ z * componentBytes (.array .int) > e.platform.maxHeapBytes := fun z hz => by
    show ¬ z * 4 > _
    omega
  have b2 : ∀ z : Nat, z ≤ 256 → ¬ z * componentBytes .int > e.platform.maxHeapBytes := fun z hz => by
    show ¬ z * 4 > _
    omega
  rw [multianewarray.make]
  simp only [wp_bind', W.ite, hn, if_false, wp_pure', W.theClass, hk, hkind, Option.some.injEq, exists_eq_left']
  refine mw_newArray hk hkind (by omega) (b1 _ hln) rfl rfl (by omega) (by have := Nat.zero_le (n.toNatClampNeg * m.toNatClampNeg); omega) ?_
  simp only [hfind]
  rw [ite_self, wp_bind', Std.Legacy.Range.forIn_eq_forIn_range']
  have hsz : ([:n.toNatClampNeg] : Std.Legacy.Range).size = n.toNatClampNeg := by simp [Std.Legacy.Range.size]
  rw [hsz]
  show wp (forIn (List.range' 0 n.toNatClampNeg 1) PUnit.unit _) _ E e d acts _
  refine wp_forIn_inv (fun rest s' => ∃ i, i ≤ n.toNatClampNeg ∧ rest = List.range' i (n.toNatClampNeg - i) ∧ s' = mw_fill s c comp n.toNatClampNeg m.toNatClampNeg i) _ _ ⟨0, Nat.zero_le _, rfl, rfl⟩ ?_ ?_
  · rintro x rest s' d' acts' Q' ⟨i, hi, hl, rfl⟩ hnext
    have hlt : i < n.toNatClampNeg := by
      rcases Nat.lt_or_ge i n.toNatClampNeg with h | h
      · exact h
      · rw [show n.toNatClampNeg - i = 0 by omega] at hl; simp at hl
    rw [show n.toNatClampNeg - i = (n.toNatClampNeg - (i + 1)) + 1 by omega, List.range'_succ] at hl
    obtain ⟨rfl, hrest⟩ := List.cons.inj hl
    obtain ⟨f1, f2, f3, f4, -, -⟩ := mw_facts s c comp n.toNatClampNeg m.toNatClampNeg x
    have hmul : x * m.toNatClampNeg + m.toNatClampNeg ≤ n.toNatClampNeg * m.toNatClampNeg := by
      have := Nat.mul_le_mul_right m.toNatClampNeg (show x + 1 ≤ n.toNatClampNeg from hlt)
      rw [Nat.succ_mul] at this; exact this
    simp only [wp_bind']
    rw [multianewarray.make]
    simp only [wp_bind', W.ite, hm, if_false, wp_pure', W.theClass, f3, hkc, hkindc, Option.some.injEq, exists_eq_left']
    refine mw_newArray (by rw [f3]; exact hkc) hkindc (by omega) (b2 _ hlm) rfl rfl (by rw [f1]; omega) (by rw [f4]; omega) ?_
    have hlt0 : s.heap.size < (mw_fill s c comp n.toNatClampNeg m.toNatClampNeg x).heap.size := by rw [f1]; omega
    simp only [wp_bind', W.writeLoc, wp_pure']
    refine ⟨mw_out c n.toNatClampNeg s.heap.size x, by rw [State.heap_pushCell_of_lt (h := hlt0)]; exact f2, (fun q => nomatch q), by rw [show (mw_out c n.toNatClampNeg s.heap.size x).slots.size = n.toNatClampNeg from arrV_size _ _ _]; exact hlt, ?_, hnext _ _ _ ⟨x + 1, hlt, hrest, ?_⟩⟩
    · show State.fitsSlot _ c .none x _ = true
      simp [State.fitsSlot, State.slotType?, f3, hk, hkind, fits]
    · rw [f1, mw_out_set]; rfl
  · rintro s' d' acts' ⟨i, hi, hl, rfl⟩
    have hiN : i = n.toNatClampNeg := by
      rcases Nat.lt_or_ge i n.toNatClampNeg with h | h
      · rw [show n.toNatClampNeg - i = (n.toNatClampNeg - (i + 1)) + 1 by omega, List.range'_succ] at hl; cases hl
      · omega
    subst hiN
    simp only [wp_pure']
    exact hq _ _
end
section AmMulti
variable {p : Program} {l : Launch} {e : Env} {R : Room} {s : State} {m : MethodId} {args : Array Value} {below : List Frame} {meth : Method} {c : Code} {H : Heap} {locs : List Loc} {cells slots : Nat} {Q : State → Prop} {cc : ByteArray} {pc nL : Nat} {ls : Array Slot} {ad : Nat → Nat} {D : va_G} {kA : Nat → ClassId} {sz0 : Nat} {H00 : Heap} {h h' : am_H} {st st' : List Value} {T : State}
theorem mw_filled (X : Stand p l e R s m args below meth c T locs cells slots) (cA comp : ClassId) (N M : Nat) : ∀ i, Stand p l e R s m args below meth c (mw_fill T cA comp N M i) (locs ++ (List.range i).map fun j => ⟨T.heap.size, j⟩) (cells + 1 + i) (slots + N + i * M) := by
  intro i
  induction i with
  | zero =>
    have h := X.pushed (mw_out cA N T.heap.size 0)
    rw [show (mw_out cA N T.heap.size 0).slots.size = N from arrV_size _ _ _] at h
    simpa [mw_fill] using h
  | succ i ih =>
    obtain ⟨f1, f2, f3, f4, -, -⟩ := mw_facts T cA comp N M i
    have hlt0 : T.heap.size < (mw_fill T cA comp N M i).heap.size := by rw [f1]; omega
    have hcell : ((mw_fill T cA comp N M i).pushCell (mw_in comp M)).heap[T.heap.size]? = some (mw_out cA N T.heap.size i) := by rw [State.heap_pushCell_of_lt (h := hlt0)]; exact f2
    have h := (ih.pushed (mw_in comp M)).stored hcell i (.ref (T.heap.size + 1 + i))
    rw [mw_out_set, show (mw_in comp M).slots.size = M from arrV_size _ _ _] at h
    have e2 : (locs ++ (List.range (i + 1)).map fun j => (⟨T.heap.size, j⟩ : Loc)) = (locs ++ (List.range i).map fun j => (⟨T.heap.size, j⟩ : Loc)) ++ [⟨T.heap.size, i⟩] := by simp [List.range_succ, List.append_assoc]
    have e3 : slots + N + (i + 1) * M = slots + N + i * M + M := by rw [Nat.succ_mul]; omega
    rw [e2, e3]
    exact h
theorem am_s_mna (hx : p.tables.exec = Jvm.exec) (hb : c.code = cc) {own : String} {index : Nat} {Ts : List Cond} (hts : ∀ w ∈ Ts, w.before args s = true) (hown : s.vm.findClass own = some m.cls) (hclink : Cond.classLink own index "[[I" ∈ Ts) (had : ∀ k, k < am_RO → ad k = sz0 + k) (hlen : h'.length < am_RO) (hK : va_K D vwCl (am_tys kA) s) (hMA : am_MA kA s) (hR : am_RH D kA ad sz0 H00 h H) (hl : ∀ q ∈ locs, sz0 ≤ q.base)
    (hcells : cells + (h'.length - h.length) ≤ R.cells) (hslots : slots + (am_sl0 h' - am_sl0 h) ≤ R.slots) (hd : decode cc pc = .ok (.multianewarray index 2, 4)) (hp : am_mna st h = some (st', h'))
    (kk : ∀ (H1 : Heap) (locs1 : List Loc), am_RH D kA ad sz0 H00 h' H1 → (∀ q ∈ locs1, sz0 ≤ q.base) → W p l e R s m args below meth c H1 locs1 (cells + (h'.length - h.length)) (slots + (am_sl0 h' - am_sl0 h)) Q (F0 m (pc + 4) ls (st'.map (am_v ad)))) : W p l e R s m args below meth c H locs cells slots Q (F0 m pc ls (st.map (am_v ad))) := by
  unfold am_mna at hp
  split at hp
  · next k n r =>
    split at hp
    · cases hp
    · next hn =>
      have hn0 : ¬ n < 0 := fun q => hn (Or.inl q)
      have hk0 : ¬ k < 0 := fun q => hn (Or.inr (Or.inl q))
      have hnl : n.toNatClampNeg ≤ 256 := Nat.le_of_not_lt fun q => hn (Or.inr (Or.inr (Or.inl q)))
      have hkl : k.toNatClampNeg ≤ 256 := Nat.le_of_not_lt fun q => hn (Or.inr (Or.inr (Or.inr q)))
      have hp1 := Option.some.inj hp
      have hst : st' = .ref h.length :: r := (congrArg Prod.fst hp1).symm
      have hh1 : h' = (h ++ [.inr (.inl (3, (List.range n.toNatClampNeg).map (fun j => some (h.length + 1 + j))))]) ++ List.replicate n.toNatClampNeg (.inl (0, List.replicate k.toNatClampNeg 0)) := (congrArg Prod.snd hp1).symm
      have hL : h'.length - h.length = 1 + n.toNatClampNeg := by
        rw [hh1]
        simp only [List.length_append, List.length_cons, List.length_nil, List.length_replicate]
        omega
      have hS : am_sl0 h' - am_sl0 h = n.toNatClampNeg + n.toNatClampNeg * k.toNatClampNeg := by
        rw [hh1, am_sl0_app, am_sl0_app]
        have e1 : am_sl0 [.inr (.inl (3, (List.range n.toNatClampNeg).map (fun j => some (h.length + 1 + j))))] = n.toNatClampNeg := by simp [am_sl0, am_csz]
        have e2 : am_sl0 (List.replicate n.toNatClampNeg (.inl (0, List.replicate k.toNatClampNeg 0))) = n.toNatClampNeg * k.toNatClampNeg := by simp [am_sl0, am_csz]
        rw [e1, e2]
        omega
      rw [hL] at hcells kk
      rw [hS] at hslots kk
      intro T hT X
      obtain ⟨kA3, hkA, hkindA⟩ := hMA
      obtain ⟨-, kC, hkC, ccl, hkindC⟩ := (hK.2 0 _ rfl).1 0 (fun _ => .null)
      have hnameA : s.vm.findClass "[[I" = some (kA 3) := (hK.2 3 _ rfl).2
      have hpl : e.platform.magicAccessors = ({} : Platform).magicAccessors := by rw [X.admits.platform]
      obtain ⟨c0, hfc0, hcl⟩ := Cond.classLink_spec hown (hts _ hclink) e.platform hpl
      cases hnameA.symm.trans hfc0
      obtain ⟨hg₁, hwarm₁, hready₁⟩ := State.classEntry (e := e) X.warmed hcl
      generalize T.vm.noted m.cls index (.cls (kA 3)) = vm₁ at hg₁ hwarm₁ hready₁
      have hal : s.vm.Alike vm₁ := hwarm₁.alike
      obtain ⟨kA₁, hkA₁, heA⟩ := hal.2.2 _ _ hkA
      obtain ⟨kC₁, hkC₁, heC⟩ := hal.2.2 _ _ hkC
      have hkindA₁ : kA₁.kind = .array (kA 0) (.array .int) := by rw [heA]; exact hkindA
      have hkindC₁ : kC₁.kind = .array ccl .int := by rw [heC]; exact hkindC
      have X₁ := X.noted hwarm₁
      obtain ⟨hr1, hr2⟩ := X.roomAbove hcells hslots
      have XF := mw_filled X₁ (kA 3) (kA 0) n.toNatClampNeg k.toNatClampNeg n.toNatClampNeg
      obtain ⟨f1, f2, f3, f4, f5, f6⟩ := mw_facts (T.setVm vm₁) (kA 3) (kA 0) n.toNatClampNeg k.toNatClampNeg n.toNatClampNeg
      have hTs : (T.setVm vm₁).heap.size = T.heap.size := rfl
      have hTh : (T.setVm vm₁).heap = T.heap := rfl
      have hHs : T.heap.size = sz0 + h.length := by rw [hT, hR.1]
      have adl : ∀ j, j ≤ n.toNatClampNeg → ad (h.length + j) = T.heap.size + j := fun j hj => by
        rw [had _ (by rw [hh1] at hlen; simp only [List.length_append, List.length_cons, List.length_nil, List.length_replicate] at hlen; omega), hHs]
        omega
      have hRH : am_RH D kA ad sz0 H00 h' (mw_fill (T.setVm vm₁) (kA 3) (kA 0) n.toNatClampNeg k.toNatClampNeg n.toNatClampNeg).heap := by
        refine ⟨?_, ?_, ?_⟩
        · rw [f1, hTs, hHs, hh1]
          simp only [List.length_append, List.length_cons, List.length_nil, List.length_replicate]
          omega
        · intro q hq
          rw [f5 q (by rw [hTs]; omega), hTh, hT]
          exact hR.2.1 q hq
        · intro j cj hj
          rw [hh1] at hj
          by_cases h1 : j < h.length
          · rw [List.append_assoc, List.getElem?_append_left h1] at hj
            refine (hR.2.2 j cj hj).kept ?_
            rw [f5 _ (by rw [hTs]; omega), hTh, hT]
          · by_cases h2 : j = h.length
            · subst h2
              rw [List.append_assoc, List.getElem?_append_right (Nat.le_refl _), Nat.sub_self] at hj
              cases hj
              rw [hTs] at f2
              rw [← hHs]
              show _ = some (arrV (kA 3) _ _)
              rw [f2]
              unfold mw_out
              simp only [List.length_map, List.length_range]
              congr 2
              funext j
              simp only [List.getD_eq_getElem?_getD, List.getElem?_map, List.getElem?_range']
              by_cases hj2 : j < n.toNatClampNeg
              · rw [if_pos hj2, List.getElem?_range hj2]
                show _ = va_rf (some (ad (h.length + 1 + j)))
                rw [Nat.add_assoc h.length, Nat.add_comm 1 j, adl _ (by omega)]
                have e7 : (T.heap.size + 1 + j : Nat) = T.heap.size + (j + 1) := by omega
                exact congrArg Value.ref e7
              · rw [if_neg hj2, List.getElem?_eq_none (by simp; omega)]
                rfl
            · rw [List.getElem?_append_right (by simp; omega)] at hj
              simp only [List.length_append, List.length_cons, List.length_nil] at hj
              rw [List.getElem?_replicate] at hj
              split at hj
              · next h3 =>
                cases hj
                have f6' := f6 (j - (h.length + 1)) (by omega)
                rw [hTs, hHs, show sz0 + h.length + 1 + (j - (h.length + 1)) = sz0 + j by omega] at f6'
                show _ = some (arrV (kA 0) _ _)
                rw [f6']
                unfold mw_in
                rw [List.length_replicate]
                congr 2
                funext q
                simp only [List.getD_eq_getElem?_getD, List.getElem?_replicate]
                split <;> rfl
              · cases hj
      obtain ⟨t, a1, b1⟩ := kk _ (locs ++ (List.range n.toNatClampNeg).map fun j => ⟨T.heap.size, j⟩) hRH (fun q hq => by
        rcases List.mem_append.mp hq with hq | hq
        · exact hl q hq
        · obtain ⟨z, -, hz⟩ := List.mem_map.mp hq
          rw [← hz]
          show sz0 ≤ T.heap.size
          omega) _ rfl (by rw [show cells + (1 + n.toNatClampNeg) = cells + 1 + n.toNatClampNeg by omega, show slots + (n.toNatClampNeg + n.toNatClampNeg * k.toNatClampNeg) = slots + n.toNatClampNeg + n.toNatClampNeg * k.toNatClampNeg by omega]; exact XF)
      refine ⟨t, ?_, b1⟩
      subst hst
      have e9 : (Value.ref h.length :: r).map (am_v ad) = .ref T.heap.size :: r.map (am_v ad) := by
        show Value.ref (ad h.length) :: _ = _
        rw [show ad h.length = T.heap.size from adl 0 (Nat.zero_le _)]
      rw [e9] at a1
      have hal1 : 256 ≤ e.platform.arrayLengthLimit := by rw [Launch.admits_arrayLengthLimit X.admits]; exact Nat.le_of_ble_eq_true rfl
      have hmh1 : 1024 ≤ e.platform.maxHeapBytes := by rw [Launch.admits_maxHeapBytes X.admits]; exact Nat.le_of_ble_eq_true rfl
      generalize hg : F0 m pc ls ((Value.int k :: Value.int n :: r).map (am_v ad)) = g
      have hgm : g.method = m := by rw [← hg]
      have hgp : g.pc = pc := by rw [← hg]
      have hgs : g.stack = .int k :: .int n :: r.map (am_v ad) := by rw [← hg]; rfl
      have hgl : F0 m (pc + 4) ls (.ref T.heap.size :: r.map (am_v ad)) = { g with pc := g.pc + 4, stack := .ref T.heap.size :: r.map (am_v ad) } := by rw [← hg]
      rw [hgl] at a1
      clear hg
      subst hgm
      have hdg : decode c.code g.pc = .ok (.multianewarray index 2, 4) := by rw [hb, hgp]; exact hd
      jvm_step X.here [hx, hdg]
      simp only [multianewarray.sem, wp_bind', W.resolveClassAt_links (State.method?_setTop g X.here.top) hg₁]
      rw [W.popN, if_neg (by decide)]
      refine ⟨g, State.topJava?_setTop' (s := T.setVm vm₁) g X.here.top, [.int n, .int k], r.map (am_v ad), rfl, hgs, ?_⟩
      simp only [List.mapM_cons, List.mapM_nil, wp_bind', wp_pure']
      refine mw_make (k := kA₁) (kc := kC₁) (comp := kA 0) (cc := ccl) hkA₁ hkindA₁ hkC₁ hkindC₁ hn0 hk0 hnl hkl hal1 hmh1 (by show T.heap.size + 1 + _ ≤ _; omega) (by show T.slotsUsed + _ + _ ≤ _; omega) (fun d' acts' => ?_)
      have eS : ((T.setTop g).setVm vm₁).setTop { g with stack := r.map (am_v ad) } = (T.setVm vm₁).setTop { g with stack := r.map (am_v ad) } := by
        show ((T.setVm vm₁).setTop g).setTop _ = _
        rw [State.setTop_setTop]
      rw [eS, mw_top]
      simp only [wp_bind', W.mark, W.pushRef, State.topJava?_setTop' _ XF.here.top, Option.some.injEq, exists_eq_left', State.setTop_setTop, State.heap_setTop]
      intro acts
      simp [jvm, XF.here.top]
      exact a1
  · cases hp
end AmMulti
end
section
/-! ===== the words that are good at every call; String's own length and charAt ===== -/
def am_G : List Cond := lw_tbl.filter goodWord
theorem am_inG {i : Nat} {w : Cond} (h : lw_tbl[i]? = some w) (hg : goodWord w = true) : w ∈ am_G := List.mem_filter.mpr ⟨List.mem_of_getElem? h, hg⟩
theorem am_goodG {w0 : Cond} (hc : w0 ∈ am_G) : GoodIn am_G (w0 :: am_G) := by
  intro w hw
  have h1 : w ∈ am_G := by
    rcases List.mem_cons.mp hw with rfl | h
    · exact hc
    · exact h
  exact ⟨h1, good_of_word (List.mem_filter.mp h1).2⟩
section AmCallP
variable {p : Program} {l : Launch} {e : Env} {R : Room} {s : State} {m : MethodId} {args : Array Value} {below : List Frame} {meth : Method} {c : Code} {H : Heap} {locs : List Loc} {cells slots : Nat} {Q : State → Prop} {g : JFrame} {rest : List Value}
theorem am_callP {Qa : State → Outcome → State → Prop} {v0 : Option Value} (hr : CallRun p l e R s m args below meth c H locs cells slots 0 0 g rest Qa (fun _ => False)) (hq : ∀ st v t, Qa st (.returned v) t → v = v0 ∧ t.heap = st.heap) (kk : W p l e R s m args below meth c H locs cells slots Q { g with pc := g.pc + 3, stack := v0.toList ++ rest }) : W p l e R s m args below meth c H locs cells slots Q g := by
  intro T hT X
  obtain ⟨v, st0, t, T', L, h0, X', hL, hh, hqa, hg⟩ := hr T hT X
  obtain ⟨rfl, ht⟩ := hq _ _ _ hqa
  have hL0 : L = [] := by
    cases L with
    | nil => rfl
    | cons q L => exact absurd (hL q List.mem_cons_self) (fun z => z)
  subst hL0
  rw [List.append_nil] at X'
  obtain ⟨t2, a1, b1⟩ := kk T' (by rw [hh, ht, h0]) X'
  exact ⟨t2, hg t2 a1, b1⟩
end AmCallP
def kw_byt : List (List Int32) := (List.range 11).map am_str
def kw_len : List Nat := kw_byt.map List.length
/-- the eleven String constants, and two statics of the JDK's -/
def kw_W (adK adV : Nat → Nat) (A : Nat → Prop) (U : State) : Prop := vk_S 11 kw_len kw_byt adK adV A U U.heap ∧ va_Z "java/lang/String" "COMPACT_STRINGS" "Z" (.int 1) A U U.heap ∧ va_Zq "jdk/internal/util/Preconditions" "SIOOBE_FORMATTER" "Ljava/util/function/BiFunction;" A U U.heap
theorem kw_W.moved {adK adV : Nat → Nat} {A : Nat → Prop} {u U : State} (hh : U.heap = u.heap) (hvm : u.vm.Alike U.vm) (h : kw_W adK adV A u) : kw_W adK adV A U := by
  obtain ⟨h1, h2, h3⟩ := h
  refine ⟨by rw [hh]; exact h1.moved hvm, by rw [hh]; exact h2.moved hvm, ?_⟩
  rw [hh]
  rcases h3 with h3 | ⟨t, h3⟩
  · exact Or.inl (h3.moved hvm)
  · exact Or.inr ⟨t, h3.moved hvm⟩
theorem kw_blind {adK adV : Nat → Nat} {A : Nat → Prop} {av : List Value} : FrameBlind (va_Pc av (kw_W adK adV A)) := fun a U g mk h => ⟨h.1, kw_W.moved rfl (State.WarmedH.refl U).alike h.2⟩
theorem kw_pre {adK adV : Nat → Nat} {A : Nat → Prop} {av : List Value} {s U : State} {H : Heap} (hH : H = s.heap) (h : kw_W adK adV A s) (hu : U.heap = H) (hW : s.WarmedH U.vm) : va_Pc av (kw_W adK adV A) av.toArray U := ⟨rfl, kw_W.moved (hu.trans hH) hW.alike h⟩
theorem eJ0_length_8abf5_0 : decode cJ0_length_8abf5 0 = .ok (.aload_n 0, 1) := by decide +kernel
theorem eJ0_length_8abf5_1 : decode cJ0_length_8abf5 1 = .ok (.getfield 9, 3) := by decide +kernel
theorem eJ0_length_8abf5_4 : decode cJ0_length_8abf5 4 = .ok (.arraylength, 1) := by decide +kernel
theorem eJ0_length_8abf5_5 : decode cJ0_length_8abf5 5 = .ok (.aload_n 0, 1) := by decide +kernel
theorem eJ0_length_8abf5_6 : decode cJ0_length_8abf5 6 = .ok (.invokevirtual 335, 3) := by decide +kernel
theorem eJ0_length_8abf5_9 : decode cJ0_length_8abf5 9 = .ok (.ishr, 1) := by decide +kernel
theorem eJ0_length_8abf5_10 : decode cJ0_length_8abf5 10 = .ok (.ireturn, 1) := by decide +kernel
theorem eJ0_charAt_5068e_0 : decode cJ0_charAt_5068e 0 = .ok (.aload_n 0, 1) := by decide +kernel
theorem eJ0_charAt_5068e_1 : decode cJ0_charAt_5068e 1 = .ok (.invokevirtual 492, 3) := by decide +kernel
theorem eJ0_charAt_5068e_4 : decode cJ0_charAt_5068e 4 = .ok (.ifCond .eq 12, 3) := by decide +kernel
theorem eJ0_charAt_5068e_7 : decode cJ0_charAt_5068e 7 = .ok (.aload_n 0, 1) := by decide +kernel
theorem eJ0_charAt_5068e_8 : decode cJ0_charAt_5068e 8 = .ok (.getfield 9, 3) := by decide +kernel
theorem eJ0_charAt_5068e_11 : decode cJ0_charAt_5068e 11 = .ok (.iload_n 1, 1) := by decide +kernel
theorem eJ0_charAt_5068e_12 : decode cJ0_charAt_5068e 12 = .ok (.invokestatic 495, 3) := by decide +kernel
theorem eJ0_charAt_5068e_15 : decode cJ0_charAt_5068e 15 = .ok (.ireturn, 1) := by decide +kernel
theorem eJ0_coder_7d493_0 : decode cJ0_coder_7d493 0 = .ok (.getstatic 38, 3) := by decide +kernel
theorem eJ0_coder_7d493_3 : decode cJ0_coder_7d493 3 = .ok (.ifCond .eq 10, 3) := by decide +kernel
theorem eJ0_coder_7d493_6 : decode cJ0_coder_7d493 6 = .ok (.aload_n 0, 1) := by decide +kernel
theorem eJ0_coder_7d493_7 : decode cJ0_coder_7d493 7 = .ok (.getfield 15, 3) := by decide +kernel
theorem eJ0_coder_7d493_10 : decode cJ0_coder_7d493 10 = .ok (.goto 4, 3) := by decide +kernel
theorem eJ0_coder_7d493_14 : decode cJ0_coder_7d493 14 = .ok (.ireturn, 1) := by decide +kernel
theorem eJ0_isLatin1_aae02_0 : decode cJ0_isLatin1_aae02 0 = .ok (.getstatic 38, 3) := by decide +kernel
theorem eJ0_isLatin1_aae02_3 : decode cJ0_isLatin1_aae02 3 = .ok (.ifCond .eq 14, 3) := by decide +kernel
theorem eJ0_isLatin1_aae02_6 : decode cJ0_isLatin1_aae02 6 = .ok (.aload_n 0, 1) := by decide +kernel
theorem eJ0_isLatin1_aae02_7 : decode cJ0_isLatin1_aae02 7 = .ok (.getfield 15, 3) := by decide +kernel
theorem eJ0_isLatin1_aae02_10 : decode cJ0_isLatin1_aae02 10 = .ok (.ifCond .ne 7, 3) := by decide +kernel
theorem eJ0_isLatin1_aae02_13 : decode cJ0_isLatin1_aae02 13 = .ok (.iconst 1, 1) := by decide +kernel
theorem eJ0_isLatin1_aae02_14 : decode cJ0_isLatin1_aae02 14 = .ok (.goto 4, 3) := by decide +kernel
theorem eJ0_isLatin1_aae02_18 : decode cJ0_isLatin1_aae02 18 = .ok (.ireturn, 1) := by decide +kernel
theorem eJ0_checkIndex_df160_0 : decode cJ0_checkIndex_df160 0 = .ok (.iload_n 0, 1) := by decide +kernel
theorem eJ0_checkIndex_df160_1 : decode cJ0_checkIndex_df160 1 = .ok (.iload_n 1, 1) := by decide +kernel
theorem eJ0_checkIndex_df160_2 : decode cJ0_checkIndex_df160 2 = .ok (.getstatic 1053, 3) := by decide +kernel
theorem eJ0_checkIndex_df160_5 : decode cJ0_checkIndex_df160 5 = .ok (.invokestatic 1059, 3) := by decide +kernel
theorem eJ0_checkIndex_df160_8 : decode cJ0_checkIndex_df160 8 = .ok (.pop, 1) := by decide +kernel
theorem eJ0_checkIndex_df160_9 : decode cJ0_checkIndex_df160 9 = .ok (.return_, 1) := by decide +kernel
theorem eJ1_charAt_3b067_0 : decode cJ1_charAt_3b067 0 = .ok (.iload_n 1, 1) := by decide +kernel
theorem eJ1_charAt_3b067_1 : decode cJ1_charAt_3b067 1 = .ok (.aload_n 0, 1) := by decide +kernel
theorem eJ1_charAt_3b067_2 : decode cJ1_charAt_3b067 2 = .ok (.arraylength, 1) := by decide +kernel
theorem eJ1_charAt_3b067_3 : decode cJ1_charAt_3b067 3 = .ok (.invokestatic 9, 3) := by decide +kernel
theorem eJ1_charAt_3b067_6 : decode cJ1_charAt_3b067 6 = .ok (.aload_n 0, 1) := by decide +kernel
theorem eJ1_charAt_3b067_7 : decode cJ1_charAt_3b067 7 = .ok (.iload_n 1, 1) := by decide +kernel
theorem eJ1_charAt_3b067_8 : decode cJ1_charAt_3b067 8 = .ok (.baload, 1) := by decide +kernel
theorem eJ1_charAt_3b067_9 : decode cJ1_charAt_3b067 9 = .ok (.sipush 255, 3) := by decide +kernel
theorem eJ1_charAt_3b067_12 : decode cJ1_charAt_3b067 12 = .ok (.iand, 1) := by decide +kernel
theorem eJ1_charAt_3b067_13 : decode cJ1_charAt_3b067 13 = .ok (.i2c, 1) := by decide +kernel
theorem eJ1_charAt_3b067_14 : decode cJ1_charAt_3b067 14 = .ok (.ireturn, 1) := by decide +kernel
theorem eJ3_checkIndex_8e157_0 : decode cJ3_checkIndex_8e157 0 = .ok (.iload_n 0, 1) := by decide +kernel
theorem eJ3_checkIndex_8e157_1 : decode cJ3_checkIndex_8e157 1 = .ok (.ifCond .lt 8, 3) := by decide +kernel
theorem eJ3_checkIndex_8e157_4 : decode cJ3_checkIndex_8e157 4 = .ok (.iload_n 0, 1) := by decide +kernel
theorem eJ3_checkIndex_8e157_5 : decode cJ3_checkIndex_8e157 5 = .ok (.iload_n 1, 1) := by decide +kernel
theorem eJ3_checkIndex_8e157_6 : decode cJ3_checkIndex_8e157 6 = .ok (.if_icmp .lt 10, 3) := by decide +kernel
theorem eJ3_checkIndex_8e157_16 : decode cJ3_checkIndex_8e157 16 = .ok (.iload_n 0, 1) := by decide +kernel
theorem eJ3_checkIndex_8e157_17 : decode cJ3_checkIndex_8e157 17 = .ok (.ireturn, 1) := by decide +kernel
theorem kw_in_length : (Cond.code yJ0_length_8abf5 cJ0_length_8abf5 1 (some .int)) ∈ am_G := am_inG (i := 683) (by decide +kernel) rfl
theorem kw_in_coder : (Cond.code yJ0_coder_7d493 cJ0_coder_7d493 1 (some .byte)) ∈ am_G := am_inG (i := 687) (by decide +kernel) rfl
theorem kw_in_charAt : (Cond.code yJ0_charAt_5068e cJ0_charAt_5068e 2 (some .char)) ∈ am_G := am_inG (i := 693) (by decide +kernel) rfl
theorem kw_in_isLatin1 : (Cond.code yJ0_isLatin1_aae02 cJ0_isLatin1_aae02 1 (some .boolean)) ∈ am_G := am_inG (i := 697) (by decide +kernel) rfl
theorem kw_in_check : (Cond.code yJ0_checkIndex_df160 cJ0_checkIndex_df160 2 (none)) ∈ am_G := am_inG (i := 703) (by decide +kernel) rfl
theorem kw_in_lcharAt : (Cond.code yJ1_charAt_3b067 cJ1_charAt_3b067 2 (some .char)) ∈ am_G := am_inG (i := 700) (by decide +kernel) rfl
theorem kw_in_pcheck : (Cond.code yJ3_checkIndex_8e157 cJ3_checkIndex_8e157 3 (some .int)) ∈ am_G := am_inG (i := 708) (by decide +kernel) rfl
set_option maxHeartbeats 4000000 in
set_option maxRecDepth 100000 in
theorem kw_coder (l : Launch) (adK adV : Nat → Nat) (A : Nat → Prop) {i : Nat} (hi : i < 11) : Met l yJ0_coder_7d493 ((Cond.code yJ0_coder_7d493 cJ0_coder_7d493 1 (some .byte)) :: am_G) (k2_rm 0 0) (va_Pc [.ref (adK i)] (kw_W adK adV A)) (QcRead 0) 0 0 (fun _ => False) := by
  refine Met.ofW (cc := cJ0_coder_7d493) (maxL := 1) (ret := some .byte) (by decide) rfl ?_
  intro p e s m args below meth c s₁ B hml hv
  obtain ⟨rfl, hw⟩ := hv
  have hx := B.exec
  have hb := B.bytes
  have hr := B.returns
  have hts := atoms_spec (ws := (Cond.code yJ0_coder_7d493 cJ0_coder_7d493 1 (some .byte)) :: am_G) B.pre
  have hG : ∀ w ∈ am_G, w.before ([.ref (adK i)] : List Value).toArray s = true := fun w h => hts w (List.mem_cons_of_mem _ h)
  have hown : s.vm.findClass RJ0 = some m.cls := findClass_of_methodNamed B.named
  have hlocks := B.notSynchronized
  obtain ⟨hK, hZ, hZq⟩ := id hw
  have hS : va_S A s.heap s.heap [] := va_S.rf
  have hl := lv_entry ([.ref (adK i)]) (n := 1) (Nat.le_of_ble_eq_true rfl)
  rw [lg_entry_eq]
  generalize (lg_sl ([.ref (adK i)]) ++ List.replicate (1 - (lg_sl ([.ref (adK i)])).length) Slot.unset).toArray = ls at hl ⊢
  have hl : lv_has ls 1 [(0, .ref (adK i))] := hl
  refine va_gets hx hb hZ hS hown (hG (.fieldLink RJ0 38 "java/lang/String" "COMPACT_STRINGS" "Z") (am_inG (i := 688) (by decide +kernel) rfl)) (fun _ h9 => h9) eJ0_coder_7d493_0 ?_
  refine lv_if_eq hx hb eJ0_coder_7d493_3 (tgt := 13) rfl (fun q => absurd q (by decide)) (fun _ => ?_)
  refine lv_aload_n hx hb eJ0_coder_7d493_6 rfl (lv_at hl 0 rfl) ?_
  refine vk_getf hx hb (hK.1 i hi).2.1 hS hown (hG (.fieldLink RJ0 15 "java/lang/String" "coder" "B") (am_inG (i := 1702) (by decide +kernel) rfl)) (fun _ h9 => h9) eJ0_coder_7d493_7 ?_
  refine lv_goto hx hb eJ0_coder_7d493_10 (tgt := 14) rfl ?_
  exact W.zret hx hb hr rfl (fun t ht hW => ⟨rfl, ht⟩) (fun q hq => by cases hq) eJ0_coder_7d493_14
set_option maxHeartbeats 4000000 in
set_option maxRecDepth 100000 in
theorem kw_isLatin1 (l : Launch) (adK adV : Nat → Nat) (A : Nat → Prop) {i : Nat} (hi : i < 11) : Met l yJ0_isLatin1_aae02 ((Cond.code yJ0_isLatin1_aae02 cJ0_isLatin1_aae02 1 (some .boolean)) :: am_G) (k2_rm 0 0) (va_Pc [.ref (adK i)] (kw_W adK adV A)) (QcRead 1) 0 0 (fun _ => False) := by
  refine Met.ofW (cc := cJ0_isLatin1_aae02) (maxL := 1) (ret := some .boolean) (by decide) rfl ?_
  intro p e s m args below meth c s₁ B hml hv
  obtain ⟨rfl, hw⟩ := hv
  have hx := B.exec
  have hb := B.bytes
  have hr := B.returns
  have hts := atoms_spec (ws := (Cond.code yJ0_isLatin1_aae02 cJ0_isLatin1_aae02 1 (some .boolean)) :: am_G) B.pre
  have hG : ∀ w ∈ am_G, w.before ([.ref (adK i)] : List Value).toArray s = true := fun w h => hts w (List.mem_cons_of_mem _ h)
  have hown : s.vm.findClass RJ0 = some m.cls := findClass_of_methodNamed B.named
  have hlocks := B.notSynchronized
  obtain ⟨hK, hZ, hZq⟩ := id hw
  have hS : va_S A s.heap s.heap [] := va_S.rf
  have hl := lv_entry ([.ref (adK i)]) (n := 1) (Nat.le_of_ble_eq_true rfl)
  rw [lg_entry_eq]
  generalize (lg_sl ([.ref (adK i)]) ++ List.replicate (1 - (lg_sl ([.ref (adK i)])).length) Slot.unset).toArray = ls at hl ⊢
  have hl : lv_has ls 1 [(0, .ref (adK i))] := hl
  refine va_gets hx hb hZ hS hown (hG (.fieldLink RJ0 38 "java/lang/String" "COMPACT_STRINGS" "Z") (am_inG (i := 688) (by decide +kernel) rfl)) (fun _ h9 => h9) eJ0_isLatin1_aae02_0 ?_
  refine lv_if_eq hx hb eJ0_isLatin1_aae02_3 (tgt := 17) rfl (fun q => absurd q (by decide)) (fun _ => ?_)
  refine lv_aload_n hx hb eJ0_isLatin1_aae02_6 rfl (lv_at hl 0 rfl) ?_
  refine vk_getf hx hb (hK.1 i hi).2.1 hS hown (hG (.fieldLink RJ0 15 "java/lang/String" "coder" "B") (am_inG (i := 1702) (by decide +kernel) rfl)) (fun _ h9 => h9) eJ0_isLatin1_aae02_7 ?_
  refine lv_if_ne hx hb eJ0_isLatin1_aae02_10 (tgt := 17) rfl (fun q => absurd rfl q) (fun _ => ?_)
  refine lv_iconst hx hb eJ0_isLatin1_aae02_13 rfl ?_
  refine lv_goto hx hb eJ0_isLatin1_aae02_14 (tgt := 18) rfl ?_
  exact W.zret hx hb hr rfl (fun t ht hW => ⟨rfl, ht⟩) (fun q hq => by cases hq) eJ0_isLatin1_aae02_18
set_option maxHeartbeats 4000000 in
set_option maxRecDepth 100000 in
theorem kw_length (l : Launch) (adK adV : Nat → Nat) (A : Nat → Prop) {i : Nat} (hi : i < 11) : Met l yJ0_length_8abf5 ((Cond.code yJ0_length_8abf5 cJ0_length_8abf5 1 (some .int)) :: am_G) (k2_rm 1 40) (va_Pc [.ref (adK i)] (kw_W adK adV A)) (QcRead (Int32.ofNat (kw_len.getD i 0))) 0 0 (fun _ => False) := by
  refine Met.ofW (cc := cJ0_length_8abf5) (maxL := 1) (ret := some .int) (by decide) rfl ?_
  intro p e s m args below meth c s₁ B hml hv
  obtain ⟨rfl, hw⟩ := hv
  have hx := B.exec
  have hb := B.bytes
  have hr := B.returns
  have hts := atoms_spec (ws := (Cond.code yJ0_length_8abf5 cJ0_length_8abf5 1 (some .int)) :: am_G) B.pre
  have hG : ∀ w ∈ am_G, w.before ([.ref (adK i)] : List Value).toArray s = true := fun w h => hts w (List.mem_cons_of_mem _ h)
  have hown : s.vm.findClass RJ0 = some m.cls := findClass_of_methodNamed B.named
  have hlocks := B.notSynchronized
  obtain ⟨hK, hZ, hZq⟩ := id hw
  have hS : va_S A s.heap s.heap [] := va_S.rf
  have hl := lv_entry ([.ref (adK i)]) (n := 1) (Nat.le_of_ble_eq_true rfl)
  rw [lg_entry_eq]
  generalize (lg_sl ([.ref (adK i)]) ++ List.replicate (1 - (lg_sl ([.ref (adK i)])).length) Slot.unset).toArray = ls at hl ⊢
  have hl : lv_has ls 1 [(0, .ref (adK i))] := hl
  refine lv_aload_n hx hb eJ0_length_8abf5_0 rfl (lv_at hl 0 rfl) ?_
  refine vk_getf hx hb (hK.1 i hi).2.2.1 hS hown (hG (.fieldLink RJ0 9 "java/lang/String" "value" "[B") (am_inG (i := 1701) (by decide +kernel) rfl)) (fun _ h9 => h9) eJ0_length_8abf5_1 ?_
  refine va_tlen hx hb (hK.1 i hi).2.2.2 hS rfl eJ0_length_8abf5_4 ?_
  refine lv_aload_n hx hb eJ0_length_8abf5_5 rfl (lv_at hl 0 rfl) ?_
  have hc := kw_coder l adK adV A hi
  have hp : PreV s s.heap RJ0 (adK i) (va_Pc [.ref (adK i)] (kw_W adK adV A)) [] := ⟨kw_blind, vk_recv hK hi hS, fun U hu hW => kw_pre rfl hw hu hW⟩
  refine W.callR (W.runV (nL := 1) (Ts := am_G) ⟨hx, hb, hml, hown, hG⟩ hc ⟨callB_of (Ts := am_G) (ws := (Cond.code yJ0_coder_7d493 cJ0_coder_7d493 1 (some .byte)) :: am_G) 0 hG (am_goodG kw_in_coder) rfl rfl rfl (hG (.initialized yJ0_coder_7d493.cls) (am_inG (i := 108) (by decide +kernel) rfl)) (hG (.methodLink RJ0 335 yJ0_coder_7d493) (am_inG (i := 684) (by decide +kernel) rfl)) ⟨by decide, by decide, by decide +kernel⟩ ⟨Nat.le_of_ble_eq_true rfl, Nat.le_of_ble_eq_true rfl⟩, hG (.instanceMethod yJ0_coder_7d493) (am_inG (i := 685) (by decide +kernel) rfl), hG (.selects RJ0 yJ0_coder_7d493 yJ0_coder_7d493) (am_inG (i := 686) (by decide +kernel) rfl)⟩ hp rfl rfl hl.1 rfl (lv_room (Nat.le_of_ble_eq_true rfl)) eJ0_length_8abf5_6 ⟨Nat.le_of_ble_eq_true rfl, Nat.le_of_ble_eq_true rfl⟩) ?_
  refine lv_ishr hx hb eJ0_length_8abf5_9 ?_
  rw [sb_shr0]
  exact W.iret hx hb hr (fun t ht hW => ⟨rfl, ht⟩) (fun q hq => by cases hq) eJ0_length_8abf5_10
set_option maxHeartbeats 4000000 in
set_option maxRecDepth 100000 in
theorem kw_pcheck (l : Launch) (adK adV : Nat → Nat) (A : Nat → Prop) {n k : Nat} (hk : k < n) (hn : n < 2 ^ 31) {v : Value} (hv0 : v = .null ∨ ∃ t, v = .ref t) : Met l yJ3_checkIndex_8e157 ((Cond.code yJ3_checkIndex_8e157 cJ3_checkIndex_8e157 3 (some .int)) :: am_G) (k2_rm 0 0) (va_Pc [.int (nI k), .int (nI n), v] (kw_W adK adV A)) (QcRead (nI k)) 0 0 (fun _ => False) := by
  refine Met.ofW (cc := cJ3_checkIndex_8e157) (maxL := 3) (ret := some .int) (by decide) rfl ?_
  intro p e s m args below meth c s₁ B hml hv
  obtain ⟨rfl, hw⟩ := hv
  have hx := B.exec
  have hb := B.bytes
  have hr := B.returns
  have hts := atoms_spec (ws := (Cond.code yJ3_checkIndex_8e157 cJ3_checkIndex_8e157 3 (some .int)) :: am_G) B.pre
  have hG : ∀ w ∈ am_G, w.before ([.int (nI k), .int (nI n), v] : List Value).toArray s = true := fun w h => hts w (List.mem_cons_of_mem _ h)
  have hown : s.vm.findClass RJ3 = some m.cls := findClass_of_methodNamed B.named
  have hlocks := B.notSynchronized
  obtain ⟨hK, hZ, hZq⟩ := id hw
  have hS : va_S A s.heap s.heap [] := va_S.rf
  have hl := lv_entry ([.int (nI k), .int (nI n), v]) (n := 3) (by rcases hv0 with rfl | ⟨t, rfl⟩ <;> exact Nat.le_of_ble_eq_true rfl)
  rw [lg_entry_eq]
  generalize (lg_sl ([.int (nI k), .int (nI n), v]) ++ List.replicate (3 - (lg_sl ([.int (nI k), .int (nI n), v])).length) Slot.unset).toArray = ls at hl ⊢
  have hl : lv_has ls 3 [(0, .int (nI k)), (1, .int (nI n))] := by
    rcases hv0 with rfl | ⟨t, rfl⟩ <;> exact lv_sub hl [0, 1] rfl
  refine lv_iload_n hx hb eJ3_checkIndex_8e157_0 rfl (lv_at hl 0 rfl) ?_
  refine lv_if_lt hx hb eJ3_checkIndex_8e157_1 (tgt := 9) rfl (fun q => absurd q (nI_pos (by omega))) (fun _ => ?_)
  refine lv_iload_n hx hb eJ3_checkIndex_8e157_4 rfl (lv_at hl 0 rfl) ?_
  refine lv_iload_n hx hb eJ3_checkIndex_8e157_5 rfl (lv_at hl 1 rfl) ?_
  refine lv_icmp_lt hx hb eJ3_checkIndex_8e157_6 (tgt := 16) rfl (fun _ => ?_) (fun q => absurd (nI_lt hk hn) q)
  refine lv_iload_n hx hb eJ3_checkIndex_8e157_16 rfl (lv_at hl 0 rfl) ?_
  exact W.iret hx hb hr (fun t ht hW => ⟨rfl, ht⟩) (fun q hq => by cases hq) eJ3_checkIndex_8e157_17
set_option maxHeartbeats 4000000 in
set_option maxRecDepth 100000 in
theorem kw_check (l : Launch) (adK adV : Nat → Nat) (A : Nat → Prop) {n k : Nat} (hk : k < n) (hn : n < 2 ^ 31) : Met l yJ0_checkIndex_df160 ((Cond.code yJ0_checkIndex_df160 cJ0_checkIndex_df160 2 (none)) :: am_G) (k2_rm 1 40) (va_Pc [.int (nI k), .int (nI n)] (kw_W adK adV A)) (fun _ st o t => o = .returned none ∧ t.heap = st.heap) 0 0 (fun _ => False) := by
  refine Met.ofW (cc := cJ0_checkIndex_df160) (maxL := 2) (ret := none) (by decide) rfl ?_
  intro p e s m args below meth c s₁ B hml hv
  obtain ⟨rfl, hw⟩ := hv
  have hx := B.exec
  have hb := B.bytes
  have hr := B.returns
  have hts := atoms_spec (ws := (Cond.code yJ0_checkIndex_df160 cJ0_checkIndex_df160 2 (none)) :: am_G) B.pre
  have hG : ∀ w ∈ am_G, w.before ([.int (nI k), .int (nI n)] : List Value).toArray s = true := fun w h => hts w (List.mem_cons_of_mem _ h)
  have hown : s.vm.findClass RJ0 = some m.cls := findClass_of_methodNamed B.named
  have hlocks := B.notSynchronized
  obtain ⟨hK, hZ, hZq⟩ := id hw
  have hS : va_S A s.heap s.heap [] := va_S.rf
  have hl := lv_entry ([.int (nI k), .int (nI n)]) (n := 2) (Nat.le_of_ble_eq_true rfl)
  rw [lg_entry_eq]
  generalize (lg_sl ([.int (nI k), .int (nI n)]) ++ List.replicate (2 - (lg_sl ([.int (nI k), .int (nI n)])).length) Slot.unset).toArray = ls at hl ⊢
  have hl : lv_has ls 2 [(0, .int (nI k)), (1, .int (nI n))] := hl
  refine lv_iload_n hx hb eJ0_checkIndex_df160_0 rfl (lv_at hl 0 rfl) ?_
  refine lv_iload_n hx hb eJ0_checkIndex_df160_1 rfl (lv_at hl 1 rfl) ?_
  rcases hZq with hz | ⟨t, hz⟩
  · refine va_gets hx hb hz hS hown (hG (.fieldLink RJ0 1053 "jdk/internal/util/Preconditions" "SIOOBE_FORMATTER" "Ljava/util/function/BiFunction;") (am_inG (i := 704) (by decide +kernel) rfl)) (fun _ h9 => h9) eJ0_checkIndex_df160_2 ?_
    have hc := kw_pcheck l adK adV A hk hn (v := .null) (Or.inl rfl)
    have hp : PreS s s.heap (va_Pc [.int (nI k), .int (nI n), .null] (kw_W adK adV A)) [.int (nI k), .int (nI n), .null] := ⟨kw_blind, fun U hu hW => kw_pre rfl hw hu hW⟩
    refine W.callR (W.runS (nL := 2) (Ts := am_G) ⟨hx, hb, hml, hown, hG⟩ hc ⟨callB_of (Ts := am_G) (ws := (Cond.code yJ3_checkIndex_8e157 cJ3_checkIndex_8e157 3 (some .int)) :: am_G) 3 hG (am_goodG kw_in_pcheck) rfl rfl rfl (hG (.initialized yJ3_checkIndex_8e157.cls) (am_inG (i := 110) (by decide +kernel) rfl)) (hG (.methodLink RJ0 1059 yJ3_checkIndex_8e157) (am_inG (i := 706) (by decide +kernel) rfl)) ⟨by decide, by decide, by decide +kernel⟩ ⟨Nat.le_of_ble_eq_true rfl, Nat.le_of_ble_eq_true rfl⟩, hG (.static yJ3_checkIndex_8e157) (am_inG (i := 707) (by decide +kernel) rfl)⟩ hp rfl rfl hl.1 rfl (lv_room (Nat.le_of_ble_eq_true rfl)) eJ0_checkIndex_df160_5 ⟨Nat.le_of_ble_eq_true rfl, Nat.le_of_ble_eq_true rfl⟩) ?_
    refine lv_pop hx hb eJ0_checkIndex_df160_8 rfl ?_
    exact W.vret hx hb hr (fun t ht hW => ⟨rfl, ht⟩) (fun q hq => by cases hq) eJ0_checkIndex_df160_9
  · refine va_gets hx hb hz hS hown (hG (.fieldLink RJ0 1053 "jdk/internal/util/Preconditions" "SIOOBE_FORMATTER" "Ljava/util/function/BiFunction;") (am_inG (i := 704) (by decide +kernel) rfl)) (fun _ h9 => h9) eJ0_checkIndex_df160_2 ?_
    have hc := kw_pcheck l adK adV A hk hn (v := (.ref t)) (Or.inr ⟨_, rfl⟩)
    have hp : PreS s s.heap (va_Pc [.int (nI k), .int (nI n), (.ref t)] (kw_W adK adV A)) [.int (nI k), .int (nI n), (.ref t)] := ⟨kw_blind, fun U hu hW => kw_pre rfl hw hu hW⟩
    refine W.callR (W.runS (nL := 2) (Ts := am_G) ⟨hx, hb, hml, hown, hG⟩ hc ⟨callB_of (Ts := am_G) (ws := (Cond.code yJ3_checkIndex_8e157 cJ3_checkIndex_8e157 3 (some .int)) :: am_G) 3 hG (am_goodG kw_in_pcheck) rfl rfl rfl (hG (.initialized yJ3_checkIndex_8e157.cls) (am_inG (i := 110) (by decide +kernel) rfl)) (hG (.methodLink RJ0 1059 yJ3_checkIndex_8e157) (am_inG (i := 706) (by decide +kernel) rfl)) ⟨by decide, by decide, by decide +kernel⟩ ⟨Nat.le_of_ble_eq_true rfl, Nat.le_of_ble_eq_true rfl⟩, hG (.static yJ3_checkIndex_8e157) (am_inG (i := 707) (by decide +kernel) rfl)⟩ hp rfl rfl hl.1 rfl (lv_room (Nat.le_of_ble_eq_true rfl)) eJ0_checkIndex_df160_5 ⟨Nat.le_of_ble_eq_true rfl, Nat.le_of_ble_eq_true rfl⟩) ?_
    refine lv_pop hx hb eJ0_checkIndex_df160_8 rfl ?_
    exact W.vret hx hb hr (fun t ht hW => ⟨rfl, ht⟩) (fun q hq => by cases hq) eJ0_checkIndex_df160_9
theorem kw_small : ∀ i, i < 11 → kw_len.getD i 0 < 2 ^ 31 := by decide +kernel
theorem kw_char0 : ∀ i, i < 11 → ∀ k, k < kw_len.getD i 0 → (((((kw_byt.getD i []).getD k 0) &&& 255).toUInt32 % 65536).toInt32 = (am_str i).getD k 0) := by decide +kernel
theorem kw_char1 : ∀ i, i < 11 → ∀ k, k < kw_len.getD i 0 → (am_str i).getD k 0 &&& 255 = (am_str i).getD k 0 := by decide +kernel
theorem kw_char : ∀ i, i < 11 → ∀ k, k < kw_len.getD i 0 → (((((kw_byt.getD i []).getD k 0) &&& 255).toUInt32 % 65536).toInt32 = (am_str i).getD k 0) ∧ narrow .char (.int ((am_str i).getD k 0)) = .int ((am_str i).getD k 0) := fun i hi k hk => ⟨kw_char0 i hi k hk, by rw [← kw_char1 i hi k hk]; exact sc_nar _⟩
set_option maxHeartbeats 4000000 in
set_option maxRecDepth 100000 in
theorem kw_lcharAt (l : Launch) (adK adV : Nat → Nat) (A : Nat → Prop) {i k : Nat} (hi : i < 11) (hk : k < kw_len.getD i 0) : Met l yJ1_charAt_3b067 ((Cond.code yJ1_charAt_3b067 cJ1_charAt_3b067 2 (some .char)) :: am_G) (k2_rm 2 80) (va_Pc [.ref (adV i), .int (nI k)] (kw_W adK adV A)) (QcRead ((am_str i).getD k 0)) 0 0 (fun _ => False) := by
  refine Met.ofW (cc := cJ1_charAt_3b067) (maxL := 2) (ret := some .char) (by decide) rfl ?_
  intro p e s m args below meth c s₁ B hml hv
  obtain ⟨rfl, hw⟩ := hv
  have hx := B.exec
  have hb := B.bytes
  have hr := B.returns
  have hts := atoms_spec (ws := (Cond.code yJ1_charAt_3b067 cJ1_charAt_3b067 2 (some .char)) :: am_G) B.pre
  have hG : ∀ w ∈ am_G, w.before ([.ref (adV i), .int (nI k)] : List Value).toArray s = true := fun w h => hts w (List.mem_cons_of_mem _ h)
  have hown : s.vm.findClass RJ1 = some m.cls := findClass_of_methodNamed B.named
  have hlocks := B.notSynchronized
  obtain ⟨hK, hZ, hZq⟩ := id hw
  have hS : va_S A s.heap s.heap [] := va_S.rf
  have hl := lv_entry ([.ref (adV i), .int (nI k)]) (n := 2) (Nat.le_of_ble_eq_true rfl)
  rw [lg_entry_eq]
  generalize (lg_sl ([.ref (adV i), .int (nI k)]) ++ List.replicate (2 - (lg_sl ([.ref (adV i), .int (nI k)])).length) Slot.unset).toArray = ls at hl ⊢
  have hl : lv_has ls 2 [(0, .ref (adV i)), (1, .int (nI k))] := hl
  have hlen : kw_len.getD i 0 < 2 ^ 31 := kw_small i hi
  refine lv_iload_n hx hb eJ1_charAt_3b067_0 rfl (lv_at hl 1 rfl) ?_
  refine lv_aload_n hx hb eJ1_charAt_3b067_1 rfl (lv_at hl 0 rfl) ?_
  refine va_tlen hx hb (hK.1 i hi).2.2.2 hS rfl eJ1_charAt_3b067_2 ?_
  have hc := kw_check l adK adV A hk hlen
  have hp : PreS s s.heap (va_Pc [.int (nI k), .int (nI (kw_len.getD i 0))] (kw_W adK adV A)) [.int (nI k), .int (nI (kw_len.getD i 0))] := ⟨kw_blind, fun U hu hW => kw_pre rfl hw hu hW⟩
  refine am_callP (v0 := none) (W.runS (nL := 2) (Ts := am_G) ⟨hx, hb, hml, hown, hG⟩ hc ⟨callB_of (Ts := am_G) (ws := (Cond.code yJ0_checkIndex_df160 cJ0_checkIndex_df160 2 (none)) :: am_G) 2 hG (am_goodG kw_in_check) rfl rfl rfl (hG (.initialized yJ0_checkIndex_df160.cls) (am_inG (i := 108) (by decide +kernel) rfl)) (hG (.methodLink RJ1 9 yJ0_checkIndex_df160) (am_inG (i := 701) (by decide +kernel) rfl)) ⟨by decide, by decide, by decide +kernel⟩ ⟨Nat.le_of_ble_eq_true rfl, Nat.le_of_ble_eq_true rfl⟩, hG (.static yJ0_checkIndex_df160) (am_inG (i := 702) (by decide +kernel) rfl)⟩ hp rfl rfl hl.1 rfl (lv_room (Nat.le_of_ble_eq_true rfl)) eJ1_charAt_3b067_3 ⟨Nat.le_of_ble_eq_true rfl, Nat.le_of_ble_eq_true rfl⟩) (fun st v t h => ⟨by have := h.1; cases this; rfl, h.2⟩) ?_
  refine lv_aload_n hx hb eJ1_charAt_3b067_6 rfl (lv_at hl 0 rfl) ?_
  refine lv_iload_n hx hb eJ1_charAt_3b067_7 rfl (lv_at hl 1 rfl) ?_
  refine va_tb hx hb (hK.1 i hi).2.2.2 hS (vp_in_nI hk hlen) rfl eJ1_charAt_3b067_8 ?_
  refine lv_sipush hx hb eJ1_charAt_3b067_9 rfl ?_
  refine lv_iand hx hb eJ1_charAt_3b067_12 ?_
  rw [nI_clamp (by omega)]
  obtain ⟨c1, c2⟩ := kw_char i hi k hk
  refine lv_i2c (v := (am_str i).getD k 0) hx hb eJ1_charAt_3b067_13 c1 ?_
  exact W.zret hx hb hr c2 (fun t ht hW => ⟨rfl, ht⟩) (fun q hq => by cases hq) eJ1_charAt_3b067_14
set_option maxHeartbeats 4000000 in
set_option maxRecDepth 100000 in
theorem kw_charAt (l : Launch) (adK adV : Nat → Nat) (A : Nat → Prop) {i k : Nat} (hi : i < 11) (hk : k < kw_len.getD i 0) : Met l yJ0_charAt_5068e ((Cond.code yJ0_charAt_5068e cJ0_charAt_5068e 2 (some .char)) :: am_G) (k2_rm 3 120) (va_Pc [.ref (adK i), .int (nI k)] (kw_W adK adV A)) (QcRead ((am_str i).getD k 0)) 0 0 (fun _ => False) := by
  refine Met.ofW (cc := cJ0_charAt_5068e) (maxL := 2) (ret := some .char) (by decide) rfl ?_
  intro p e s m args below meth c s₁ B hml hv
  obtain ⟨rfl, hw⟩ := hv
  have hx := B.exec
  have hb := B.bytes
  have hr := B.returns
  have hts := atoms_spec (ws := (Cond.code yJ0_charAt_5068e cJ0_charAt_5068e 2 (some .char)) :: am_G) B.pre
  have hG : ∀ w ∈ am_G, w.before ([.ref (adK i), .int (nI k)] : List Value).toArray s = true := fun w h => hts w (List.mem_cons_of_mem _ h)
  have hown : s.vm.findClass RJ0 = some m.cls := findClass_of_methodNamed B.named
  have hlocks := B.notSynchronized
  obtain ⟨hK, hZ, hZq⟩ := id hw
  have hS : va_S A s.heap s.heap [] := va_S.rf
  have hl := lv_entry ([.ref (adK i), .int (nI k)]) (n := 2) (Nat.le_of_ble_eq_true rfl)
  rw [lg_entry_eq]
  generalize (lg_sl ([.ref (adK i), .int (nI k)]) ++ List.replicate (2 - (lg_sl ([.ref (adK i), .int (nI k)])).length) Slot.unset).toArray = ls at hl ⊢
  have hl : lv_has ls 2 [(0, .ref (adK i)), (1, .int (nI k))] := hl
  refine lv_aload_n hx hb eJ0_charAt_5068e_0 rfl (lv_at hl 0 rfl) ?_
  have hc := kw_isLatin1 l adK adV A hi
  have hp : PreV s s.heap RJ0 (adK i) (va_Pc [.ref (adK i)] (kw_W adK adV A)) [] := ⟨kw_blind, vk_recv hK hi hS, fun U hu hW => kw_pre rfl hw hu hW⟩
  refine W.callR (W.runV (nL := 2) (Ts := am_G) ⟨hx, hb, hml, hown, hG⟩ hc ⟨callB_of (Ts := am_G) (ws := (Cond.code yJ0_isLatin1_aae02 cJ0_isLatin1_aae02 1 (some .boolean)) :: am_G) 0 hG (am_goodG kw_in_isLatin1) rfl rfl rfl (hG (.initialized yJ0_isLatin1_aae02.cls) (am_inG (i := 108) (by decide +kernel) rfl)) (hG (.methodLink RJ0 492 yJ0_isLatin1_aae02) (am_inG (i := 694) (by decide +kernel) rfl)) ⟨by decide, by decide, by decide +kernel⟩ ⟨Nat.le_of_ble_eq_true rfl, Nat.le_of_ble_eq_true rfl⟩, hG (.instanceMethod yJ0_isLatin1_aae02) (am_inG (i := 695) (by decide +kernel) rfl), hG (.selects RJ0 yJ0_isLatin1_aae02 yJ0_isLatin1_aae02) (am_inG (i := 696) (by decide +kernel) rfl)⟩ hp rfl rfl hl.1 rfl (lv_room (Nat.le_of_ble_eq_true rfl)) eJ0_charAt_5068e_1 ⟨Nat.le_of_ble_eq_true rfl, Nat.le_of_ble_eq_true rfl⟩) ?_
  refine lv_if_eq hx hb eJ0_charAt_5068e_4 (tgt := 16) rfl (fun q => absurd q (by decide)) (fun _ => ?_)
  refine lv_aload_n hx hb eJ0_charAt_5068e_7 rfl (lv_at hl 0 rfl) ?_
  refine vk_getf hx hb (hK.1 i hi).2.2.1 hS hown (hG (.fieldLink RJ0 9 "java/lang/String" "value" "[B") (am_inG (i := 1701) (by decide +kernel) rfl)) (fun _ h9 => h9) eJ0_charAt_5068e_8 ?_
  refine lv_iload_n hx hb eJ0_charAt_5068e_11 rfl (lv_at hl 1 rfl) ?_
  have hc2 := kw_lcharAt l adK adV A hi hk
  have hp2 : PreS s s.heap (va_Pc [.ref (adV i), .int (nI k)] (kw_W adK adV A)) [.ref (adV i), .int (nI k)] := ⟨kw_blind, fun U hu hW => kw_pre rfl hw hu hW⟩
  refine W.callR (W.runS (nL := 2) (Ts := am_G) ⟨hx, hb, hml, hown, hG⟩ hc2 ⟨callB_of (Ts := am_G) (ws := (Cond.code yJ1_charAt_3b067 cJ1_charAt_3b067 2 (some .char)) :: am_G) 2 hG (am_goodG kw_in_lcharAt) rfl rfl rfl (hG (.initialized yJ1_charAt_3b067.cls) (am_inG (i := 109) (by decide +kernel) rfl)) (hG (.methodLink RJ0 495 yJ1_charAt_3b067) (am_inG (i := 698) (by decide +kernel) rfl)) ⟨by decide, by decide, by decide +kernel⟩ ⟨Nat.le_of_ble_eq_true rfl, Nat.le_of_ble_eq_true rfl⟩, hG (.static yJ1_charAt_3b067) (am_inG (i := 699) (by decide +kernel) rfl)⟩ hp2 rfl rfl hl.1 rfl (lv_room (Nat.le_of_ble_eq_true rfl)) eJ0_charAt_5068e_12 ⟨Nat.le_of_ble_eq_true rfl, Nat.le_of_ble_eq_true rfl⟩) ?_
  exact W.zret hx hb hr (kw_char i hi k hk).2 (fun t ht hW => ⟨rfl, ht⟩) (fun q hq => by cases hq) eJ0_charAt_5068e_15
end
section
/-! ===== what a state is beside the cells: classes, arrays, statics, Strings, the words that are not good at every call ===== -/
def am_nest : List Cond := [.methodLinkNest "TwoHeads" 41 ⟨"TwoHeads$Rents", "<init>", "()V"⟩ "TwoHeads",
  .methodLinkNest "TwoHeads" 48 ⟨"TwoHeads$Reader", "<init>", "()V"⟩ "TwoHeads",
  .methodLinkNest "TwoHeads" 55 ⟨"TwoHeads$Electors", "<init>", "()V"⟩ "TwoHeads",
  .methodLinkNest "TwoHeads" 62 ⟨"TwoHeads$Clauses", "<init>", "()V"⟩ "TwoHeads",
  .methodLinkNest "TwoHeads" 82 ⟨"TwoHeads$Sheet", "<init>", "()V"⟩ "TwoHeads",
  .fieldLinkNest "TwoHeads$Deeds" 43 "TwoHeads" "RANK_OF_KIND" "[I" "TwoHeads",
  .fieldLinkNest "TwoHeads$Deeds" 46 "TwoHeads" "KIND_LASTS" "[I" "TwoHeads",
  .castable "[I" "java/lang/Cloneable",
  .methodLinkNest "TwoHeads$Court" 117 ⟨"TwoHeads", "has", "(II)Z"⟩ "TwoHeads",
  .methodLinkNest "TwoHeads$Electors" 31 ⟨"TwoHeads", "sumOver", "([II)I"⟩ "TwoHeads",
  .methodLinkNest "TwoHeads$Electors" 35 ⟨"TwoHeads", "goTogether", "([II)Z"⟩ "TwoHeads",
  .methodLinkNest "TwoHeads$Lands" 72 ⟨"TwoHeads", "sumOver", "([II)I"⟩ "TwoHeads",
  .methodLinkNest "TwoHeads$Clauses" 41 ⟨"TwoHeads", "goTogether", "([II)Z"⟩ "TwoHeads",
  .methodLinkNest "TwoHeads$Clauses" 37 ⟨"TwoHeads", "sumOver", "([II)I"⟩ "TwoHeads",
  .methodLinkNest "TwoHeads$Clauses" 27 ⟨"TwoHeads", "has", "(II)Z"⟩ "TwoHeads",
  .methodLinkNest "TwoHeads$Envoys" 47 ⟨"TwoHeads", "has", "(II)Z"⟩ "TwoHeads"]
theorem am_nest_in : ∀ w ∈ am_nest, w ∈ lw_tbl := by
  intro w hw
  simp only [am_nest, List.mem_cons, List.not_mem_nil, or_false] at hw
  rcases hw with rfl | rfl | rfl | rfl | rfl | rfl | rfl | rfl | rfl | rfl | rfl | rfl | rfl | rfl | rfl | rfl
  · exact List.mem_of_getElem? (i := 296) (by decide +kernel)
  · exact List.mem_of_getElem? (i := 319) (by decide +kernel)
  · exact List.mem_of_getElem? (i := 369) (by decide +kernel)
  · exact List.mem_of_getElem? (i := 391) (by decide +kernel)
  · exact List.mem_of_getElem? (i := 440) (by decide +kernel)
  · exact List.mem_of_getElem? (i := 581) (by decide +kernel)
  · exact List.mem_of_getElem? (i := 624) (by decide +kernel)
  · exact List.mem_of_getElem? (i := 809) (by decide +kernel)
  · exact List.mem_of_getElem? (i := 870) (by decide +kernel)
  · exact List.mem_of_getElem? (i := 949) (by decide +kernel)
  · exact List.mem_of_getElem? (i := 952) (by decide +kernel)
  · exact List.mem_of_getElem? (i := 978) (by decide +kernel)
  · exact List.mem_of_getElem? (i := 1009) (by decide +kernel)
  · exact List.mem_of_getElem? (i := 1014) (by decide +kernel)
  · exact List.mem_of_getElem? (i := 1023) (by decide +kernel)
  · exact List.mem_of_getElem? (i := 1047) (by decide +kernel)
theorem am_nest_on : ∀ w ∈ am_nest, w.onTables = true := by
  intro w hw
  simp only [am_nest, List.mem_cons, List.not_mem_nil, or_false] at hw
  rcases hw with rfl | rfl | rfl | rfl | rfl | rfl | rfl | rfl | rfl | rfl | rfl | rfl | rfl | rfl | rfl | rfl <;> rfl
theorem am_nest_warm {s U : State} (hW : s.WarmedH U.vm) (h : ∀ w ∈ am_nest, va_Nw w s) : ∀ w ∈ am_nest, va_Nw w U := by
  intro w hw
  have h1 := h w hw
  simp only [am_nest, List.mem_cons, List.not_mem_nil, or_false] at hw
  rcases hw with rfl | rfl | rfl | rfl | rfl | rfl | rfl | rfl | rfl | rfl | rfl | rfl | rfl | rfl | rfl | rfl
  · exact va_Nw.warmM hW h1
  · exact va_Nw.warmM hW h1
  · exact va_Nw.warmM hW h1
  · exact va_Nw.warmM hW h1
  · exact va_Nw.warmM hW h1
  · exact va_Nw.warmF hW h1
  · exact va_Nw.warmF hW h1
  · exact va_Nw.warmC hW h1
  · exact va_Nw.warmM hW h1
  · exact va_Nw.warmM hW h1
  · exact va_Nw.warmM hW h1
  · exact va_Nw.warmM hW h1
  · exact va_Nw.warmM hW h1
  · exact va_Nw.warmM hW h1
  · exact va_Nw.warmM hW h1
  · exact va_Nw.warmM hW h1
def am_sti (j : Nat) : Nat := [90, 96, 98, 100, 102, 104, 106, 107, 108, 110, 112].getD j 0
def am_stx (j : Nat) : String := ["kind", "day", "rank", "same", "hangs", "faith", "binds", "saved", "or", "and", "not"].getD j ""
def am_stn (z : Nat) : String := ["KIND_ABOVE", "RANK_OF_KIND", "KIND_LASTS"].getD z ""
def am_A (sz0 : Nat) : Nat → Prop := fun q => sz0 ≤ q
def am_Wd (D : va_G) (kA : Nat → ClassId) (ad adV : Nat → Nat) (sz0 : Nat) (H00 : Heap) (ro : Nat → Option (List Int32)) (U : State) : Prop :=
  (va_K D vwCl (am_tys kA) U ∧ am_MA kA U ∧ va_AO RX5 U ∧ va_AO RX10 U) ∧ am_ROk ro ad sz0 H00 U ∧ (∀ w ∈ am_nest, va_Nw w U) ∧ (∀ z, z < 3 → va_Z "TwoHeads" (am_stn z) "[I" (.ref (ad (am_RO + z))) (am_A sz0) U H00) ∧ (∀ j, j < 11 → vk_R RX8 (am_sti j) (am_stx j) (ad (am_RO + 16 + j)) U) ∧
  vk_S 11 kw_len kw_byt (fun j => ad (am_RO + 16 + j)) adV (am_A sz0) U H00 ∧ va_Z "java/lang/String" "COMPACT_STRINGS" "Z" (.int 1) (am_A sz0) U H00 ∧ va_Zq "jdk/internal/util/Preconditions" "SIOOBE_FORMATTER" "Ljava/util/function/BiFunction;" (am_A sz0) U H00
/-- the frame of addresses -/
def am_Fx (ad : Nat → Nat) (sz0 : Nat) (H00 : Heap) : Prop := H00.size = sz0 ∧ ∀ k, k < am_RO → ad k = sz0 + k
theorem am_ROk.moved {ro : Nat → Option (List Int32)} {ad : Nat → Nat} {sz0 : Nat} {H00 : Heap} {u U : State} (hvm : u.vm.Alike U.vm) (h : am_ROk ro ad sz0 H00 u) : am_ROk ro ad sz0 H00 U := fun a xs h1 h2 => by
  obtain ⟨h3, cell, h4, h5, h6⟩ := h a xs h1 h2
  exact ⟨h3, cell, h4, State.isArrayOf_alike hvm h5, h6⟩
theorem am_Wd.warm {D : va_G} {kA : Nat → ClassId} {ad adV : Nat → Nat} {sz0 : Nat} {H00 : Heap} {ro : Nat → Option (List Int32)} {s U : State} (hW : s.WarmedH U.vm) (h : am_Wd D kA ad adV sz0 H00 ro s) : am_Wd D kA ad adV sz0 H00 ro U := by
  obtain ⟨⟨a1, a2, a3, a4⟩, b, c, d, e, f, g, i⟩ := h
  have hv := hW.alike
  refine ⟨⟨va_K.moved hv a1, a2.moved hv, a3.moved hv, a4.moved hv⟩, b.moved hv, am_nest_warm hW c, fun z hz => (d z hz).moved hv, fun j hj => (e j hj).warm hW, f.moved hv, g.moved hv, ?_⟩
  rcases i with i | ⟨t, i⟩
  · exact Or.inl (i.moved hv)
  · exact Or.inr ⟨t, i.moved hv⟩
theorem am_Wd.kw {D : va_G} {kA : Nat → ClassId} {ad adV : Nat → Nat} {sz0 : Nat} {H00 : Heap} {ro : Nat → Option (List Int32)} {U : State} (hF : am_Fx ad sz0 H00) (h : am_Wd D kA ad adV sz0 H00 ro U) (hq : ∀ q : Nat, q < sz0 → U.heap[q]? = H00[q]?) : kw_W (fun j => ad (am_RO + 16 + j)) adV (am_A sz0) U := by
  obtain ⟨-, -, -, -, -, f, g, i⟩ := h
  have hk : ∀ a : Nat, a < H00.size → ¬ am_A sz0 a → U.heap[a]? = H00[a]? := fun a ha _ => hq a (by rw [← hF.1]; exact ha)
  refine ⟨f.kept hk, g.kept hk, ?_⟩
  rcases i with i | ⟨t, i⟩
  · exact Or.inl (i.kept hk)
  · exact Or.inr ⟨t, i.kept hk⟩
section AmConst
variable {p : Program} {l : Launch} {e : Env} {R : Room} {s : State} {m : MethodId} {args : Array Value} {below : List Frame} {meth : Method} {c : Code} {H : Heap} {locs : List Loc} {cells slots : Nat} {Q : State → Prop} {cc : ByteArray} {pc nL : Nat} {ls : Array Slot} {ad adV : Nat → Nat} {D : va_G} {kA : Nat → ClassId} {sz0 : Nat} {H00 : Heap} {h h' : am_H} {st st' : List Value} {ro : Nat → Option (List Int32)}
theorem am_s_gst (hx : p.tables.exec = Jvm.exec) (hb : c.code = cc) {own host : String} {index z : Nat} (hown : s.vm.findClass own = some m.cls) (hwd : am_Wd D kA ad adV sz0 H00 ro s) (hF : am_Fx ad sz0 H00) (hR : am_RH D kA ad sz0 H00 h H) (hz : z < 3) (hlink : (Cond.fieldLink own index "TwoHeads" (am_stn z) "[I").before args s = true ∨ (Cond.fieldLinkNest own index "TwoHeads" (am_stn z) "[I" host).before args s = true) (hd : decode cc pc = .ok (.getstatic index, 3))
    (kk : W p l e R s m args below meth c H locs cells slots Q (F0 m (pc + 3) ls ((.ref (am_RO + z) :: st).map (am_v ad)))) : W p l e R s m args below meth c H locs cells slots Q (F0 m pc ls (st.map (am_v ad))) := by
  obtain ⟨cf, kf, fi, f, a, cell, h1, h2, h3, h4, h5, h6, h7, h8⟩ := hwd.2.2.2.1 z hz
  have ha : H[a]? = some cell := by rw [hR.2.1 a (by rw [← hF.1]; exact (Array.getElem?_eq_some_iff.mp h5).1)]; exact h5
  rcases hlink with hlink | hlink
  · exact W.gets hx hb hown hlink h1 h2 h3 h4 ha (fun e => by rw [e] at h6; cases h6) h7 rfl hd kk
  · exact va_WgetsN hx hb hown hlink h1 h2 h3 h4 ha (fun e => by rw [e] at h6; cases h6) h7 rfl hd kk
theorem am_s_ldc (hx : p.tables.exec = Jvm.exec) (hb : c.code = cc) {z : Nat} (hown : s.vm.findClass RX8 = some m.cls) (hwd : am_Wd D kA ad adV sz0 H00 ro s) (hz : z < 11) (hd : decode cc pc = .ok (.ldc (am_sti z), 2))
    (kk : W p l e R s m args below meth c H locs cells slots Q (F0 m (pc + 2) ls ((.ref (am_RO + 16 + z) :: st).map (am_v ad)))) : W p l e R s m args below meth c H locs cells slots Q (F0 m pc ls (st.map (am_v ad))) :=
  va_ldcS hx hb hown (hwd.2.2.2.2.1 z hz) hd kk
theorem kw_len_eq : ∀ i, i < 11 → kw_len.getD i 0 = (am_str i).length := by decide +kernel
theorem am_w_map (ad : Nat → Nat) (r : List Value) : ((r.map (am_v ad)).map fun v => v.category).sum = am_w r := by
  unfold am_w
  rw [List.map_map]
  congr 1
  apply List.map_congr_left
  intro v _
  exact am_v_cat ad v
theorem am_str_ix {a : Nat} (h1 : am_RO + 16 ≤ a) (h2 : a < am_RO + 27) : ∃ i, i < 11 ∧ a = am_RO + 16 + i := ⟨a - (am_RO + 16), by omega, by omega⟩
theorem am_s_str (hx : p.tables.exec = Jvm.exec) (hb : c.code = cc) (hml : c.maxLocals = nL) (hls : ls.size = nL) {own : String} {index : Nat} (hG : ∀ w ∈ am_G, w.before args s = true) (hown : s.vm.findClass own = some m.cls) (hwd : am_Wd D kA ad adV sz0 H00 ro s) (hF : am_Fx ad sz0 H00) (hR : am_RH D kA ad sz0 H00 h H)
    (hfr : 4 ≤ R.frames) (hlo : 141 ≤ R.locals) (hcs : cells ≤ R.cells ∧ slots ≤ R.slots) (hp : (decode cc pc = .ok (.invokevirtual index, 3) ∧ Cond.methodLink own index yJ0_length_8abf5 ∈ am_G ∧ am_slen st h = some (st', h')) ∨ (decode cc pc = .ok (.invokevirtual index, 3) ∧ Cond.methodLink own index yJ0_charAt_5068e ∈ am_G ∧ am_sat st h = some (st', h')))
    (kk : h' = h → W p l e R s m args below meth c H locs cells slots Q (F0 m (pc + 3) ls (st'.map (am_v ad)))) : W p l e R s m args below meth c H locs cells slots Q (F0 m pc ls (st.map (am_v ad))) := by
  have hkw : ∀ U : State, U.heap = H → s.WarmedH U.vm → kw_W (fun j => ad (am_RO + 16 + j)) adV (am_A sz0) U := fun U hu hW => (hwd.warm hW).kw hF (fun q hq => by rw [hu]; exact hR.2.1 q hq)
  have hrecv : ∀ i, i < 11 → ∃ cell : Cell, H[ad (am_RO + 16 + i)]? = some cell ∧ cell.vm.isStatics = false ∧ s.vm.findClass RJ0 = some cell.cls := fun i hi => by
    obtain ⟨cell, h1, h2, h3, -⟩ := (hwd.2.2.2.2.2.1.1 i hi).1
    exact ⟨cell, by rw [hR.2.1 _ (by rw [← hF.1]; exact (Array.getElem?_eq_some_iff.mp h1).1)]; exact h1, h2, h3⟩
  rcases hp with ⟨hd, hlink, hp⟩ | ⟨hd, hlink, hp⟩
  · unfold am_slen at hp
    split at hp
    · next a r =>
      split at hp
      · next ha =>
        cases hp
        obtain ⟨i, hi, rfl⟩ := am_str_ix ha.1 ha.2.1
        have hr8 : am_w r ≤ 8 := ha.2.2
        have hc := kw_length l (fun j => ad (am_RO + 16 + j)) adV (am_A sz0) hi
        have hp : PreV s H RJ0 (ad (am_RO + 16 + i)) (va_Pc [.ref (ad (am_RO + 16 + i))] (kw_W (fun j => ad (am_RO + 16 + j)) adV (am_A sz0))) [] := ⟨kw_blind, hrecv i hi, fun U hu hW => ⟨rfl, hkw U hu hW⟩⟩
        refine W.callR (W.runV (nL := nL) (Ts := am_G) ⟨hx, hb, hml, hown, hG⟩ hc ⟨callB_of (Ts := am_G) 0 hG (am_goodG kw_in_length) rfl rfl rfl (hG (.initialized RJ0) (am_inG (i := 108) (by decide +kernel) rfl)) (hG _ hlink) ⟨by decide, by decide, by decide +kernel⟩ ⟨by show 1 + 1 ≤ _; omega, by show 8 + (1 + 11) + 40 ≤ _; omega⟩, hG (.instanceMethod yJ0_length_8abf5) (am_inG (i := 681) (by decide +kernel) rfl), hG (.selects RJ0 yJ0_length_8abf5 yJ0_length_8abf5) (am_inG (i := 682) (by decide +kernel) rfl)⟩ hp rfl rfl hls rfl (lv_room (by rw [am_w_map]; exact hr8)) hd ⟨by show cells + 0 ≤ _; omega, by show slots + 0 ≤ _; omega⟩) ?_
        have e1 : am_RO + 16 + i - (am_RO + 16) = i := by omega
        rw [e1] at kk
        rw [kw_len_eq i hi]
        exact kk rfl
      · cases hp
    · cases hp
  · unfold am_sat at hp
    split at hp
    · next ix a r =>
      split at hp
      · next ha =>
        split at hp
        · next v hv =>
          cases hp
          obtain ⟨i, hi, rfl⟩ := am_str_ix ha.1 ha.2.1
          have e1 : am_RO + 16 + i - (am_RO + 16) = i := by omega
          rw [e1] at hv
          obtain ⟨hin, hg⟩ := am_at_some hv
          have hsm : (am_str i).length < 2 ^ 31 := by rw [← kw_len_eq i hi]; exact kw_small i hi
          obtain ⟨k, hk, rfl⟩ := vp_in_of hin hsm
          rw [nI_clamp (by omega)] at hg
          have hr8 : am_w r ≤ 8 := ha.2.2
          have hk2 : k < kw_len.getD i 0 := by rw [kw_len_eq i hi]; exact hk
          have hc := kw_charAt l (fun j => ad (am_RO + 16 + j)) adV (am_A sz0) hi hk2
          have hp : PreV s H RJ0 (ad (am_RO + 16 + i)) (va_Pc [.ref (ad (am_RO + 16 + i)), .int (nI k)] (kw_W (fun j => ad (am_RO + 16 + j)) adV (am_A sz0))) [.int (nI k)] := ⟨kw_blind, hrecv i hi, fun U hu hW => ⟨rfl, hkw U hu hW⟩⟩
          refine W.callR (W.runV (nL := nL) (Ts := am_G) ⟨hx, hb, hml, hown, hG⟩ hc ⟨callB_of (Ts := am_G) 1 hG (am_goodG kw_in_charAt) rfl rfl rfl (hG (.initialized RJ0) (am_inG (i := 108) (by decide +kernel) rfl)) (hG _ hlink) ⟨by decide, by decide, by decide +kernel⟩ ⟨by show 3 + 1 ≤ _; omega, by show 8 + (2 + 11) + 120 ≤ _; omega⟩, hG (.instanceMethod yJ0_charAt_5068e) (am_inG (i := 691) (by decide +kernel) rfl), hG (.selects RJ0 yJ0_charAt_5068e yJ0_charAt_5068e) (am_inG (i := 692) (by decide +kernel) rfl)⟩ hp rfl rfl hls rfl (lv_room (by rw [am_w_map]; exact hr8)) hd ⟨by show cells + 0 ≤ _; omega, by show slots + 0 ≤ _; omega⟩) ?_
          rw [hg]
          exact kk rfl
        · cases hp
      · cases hp
    · cases hp
theorem am_s_min (hx : p.tables.exec = Jvm.exec) (hb : c.code = cc) (hml : c.maxLocals = nL) (hls : ls.size = nL) {own : String} {index : Nat} (hG : ∀ w ∈ am_G, w.before args s = true) (hown : s.vm.findClass own = some m.cls) (hlink : Cond.methodLink own index Lib.Math.min.name ∈ am_G)
    (hfr : 1 ≤ R.frames) (hlo : 21 ≤ R.locals) (hcs : cells ≤ R.cells ∧ slots ≤ R.slots) (hd : decode cc pc = .ok (.invokestatic index, 3)) (hp : am_mmin st h = some (st', h'))
    (kk : h' = h → W p l e R s m args below meth c H locs cells slots Q (F0 m (pc + 3) ls (st'.map (am_v ad)))) : W p l e R s m args below meth c H locs cells slots Q (F0 m pc ls (st.map (am_v ad))) := by
  unfold am_mmin at hp
  split at hp
  · next y x r =>
    split at hp
    · cases hp
    · next hw =>
      cases hp
      exact va_mmin hx hb (hml.trans hls.symm) hown (hG _ hlink) (hG (.static Lib.Math.min.name) (am_inG (i := 139) (by decide +kernel) rfl)) (hG (.initialized "java/lang/Math") (am_inG (i := 95) (by decide +kernel) rfl)) (hG (.code Lib.Math.min.name Lib.Math.min.code 2 (some .int)) (am_inG (i := 140) (by decide +kernel) rfl)) hfr (by rw [am_w_map]; omega) hcs.1 hcs.2 hd (kk rfl)
  · cases hp
end AmConst
end
section
/-! ===== links by class (by wip/whole/gen_links.py) ===== -/
def am_T : List Cond := am_G ++ am_nest
theorem am_inT {w : Cond} (h : w ∈ am_G) : w ∈ am_T := List.mem_append_left _ h
theorem am_inN {w : Cond} (i : Nat) (h : am_nest[i]? = some w) : w ∈ am_T := List.mem_append_right _ (List.mem_of_getElem? h)
def am_own (oc : Nat) : String := match oc with
  | 0 => RX0
  | 1 => RX1
  | 2 => RX2
  | 3 => RX3
  | 4 => RX4
  | 5 => RX5
  | 6 => RX6
  | 7 => RX7
  | 8 => RX8
  | 9 => RX9
  | 10 => RX10
  | 11 => RX11
  | 12 => RX12
  | 13 => "TwoHeadsLaw"
  | 14 => "java/util/Arrays"
  | 15 => "java/lang/Integer"
  | 16 => "java/lang/Math"
  | 17 => "java/lang/Object"
  | _ => ""
theorem lk_mem {l : List (Nat × Cond)} {ps : List Nat} (h1 : (l.filter (fun q => goodWord q.2)).map Prod.snd = ps.filterMap (fun i => lw_tbl[i]?)) (h2 : l.all (fun q => goodWord q.2 || decide (q.2 ∈ am_nest)) = true) : ∀ q ∈ l, q.2 ∈ am_T := by
  intro q hq
  by_cases hg : goodWord q.2 = true
  · have h3 : q.2 ∈ ps.filterMap (fun i => lw_tbl[i]?) := by rw [← h1]; exact List.mem_map.mpr ⟨q, List.mem_filter.mpr ⟨hq, hg⟩, rfl⟩
    obtain ⟨i, -, hi⟩ := List.mem_filterMap.mp h3
    exact am_inT (am_inG hi hg)
  · have h4 := List.all_eq_true.mp h2 q hq
    simp only [Bool.or_eq_true, decide_eq_true_eq] at h4
    exact List.mem_append_right _ (h4.resolve_left hg)
def lk_0 : List (Nat × Cond) := [(18, (Jvm.Cond.classLink "TwoHeads$Clauses" (18 : Nat) "[[I")),
  (9, (Jvm.Cond.fieldLink "TwoHeads$Clauses" (9 : Nat) "TwoHeads$Clauses" "undoes" "[I")),
  (15, (Jvm.Cond.fieldLink "TwoHeads$Clauses" (15 : Nat) "TwoHeads$Clauses" "foes" "[I")),
  (20, (Jvm.Cond.fieldLink "TwoHeads$Clauses" (20 : Nat) "TwoHeads$Clauses" "worth" "[[I")),
  (23, (Jvm.Cond.fieldLink "TwoHeads$Clauses" (23 : Nat) "TwoHeads$Clauses" "size" "I")),
  (3, (Jvm.Cond.methodLink "TwoHeads$Clauses" (3 : Nat) ({ cls := "java/lang/Object", name := "<init>", desc := "()V" } : Jvm.MethodName))),
  (27, (Jvm.Cond.methodLinkNest "TwoHeads$Clauses" (27 : Nat) ({ cls := "TwoHeads", name := "has", desc := "(II)Z" } : Jvm.MethodName) "TwoHeads")),
  (31, (Jvm.Cond.methodLink "TwoHeads$Clauses" (31 : Nat) ({ cls := "java/lang/Integer", name := "bitCount", desc := "(I)I" } : Jvm.MethodName))),
  (37, (Jvm.Cond.methodLinkNest "TwoHeads$Clauses" (37 : Nat) ({ cls := "TwoHeads", name := "sumOver", desc := "([II)I" } : Jvm.MethodName) "TwoHeads")),
  (41, (Jvm.Cond.methodLinkNest "TwoHeads$Clauses" (41 : Nat) ({ cls := "TwoHeads", name := "goTogether", desc := "([II)Z" } : Jvm.MethodName) "TwoHeads")),
  (45, (Jvm.Cond.methodLink "TwoHeads$Clauses" (45 : Nat) ({ cls := "TwoHeads$Clauses", name := "takersOf", desc := "(I)I" } : Jvm.MethodName))),
  (48, (Jvm.Cond.methodLink "TwoHeads$Clauses" (48 : Nat) ({ cls := "TwoHeads$Clauses", name := "isBetter", desc := "(III)Z" } : Jvm.MethodName))),
  (52, (Jvm.Cond.methodLink "TwoHeads$Clauses" (52 : Nat) ({ cls := "TwoHeads$Clauses", name := "undoneBy", desc := "(II)I" } : Jvm.MethodName)))]
theorem lk_0_in : ∀ q ∈ lk_0, q.2 ∈ am_T := lk_mem (ps := [395, 396, 397, 399, 401, 394, 1008, 1010, 1015, 1019]) (by decide +kernel) (by decide +kernel)
def lk_1 : List (Nat × Cond) := [(9, (Jvm.Cond.classLink "TwoHeads$Court" (9 : Nat) "TwoHeads$Formula")),
  (11, (Jvm.Cond.fieldLink "TwoHeads$Court" (11 : Nat) "TwoHeads$Court" "binds" "[LTwoHeads$Formula;")),
  (17, (Jvm.Cond.fieldLink "TwoHeads$Court" (17 : Nat) "TwoHeads$Court" "saved" "[LTwoHeads$Formula;")),
  (20, (Jvm.Cond.fieldLink "TwoHeads$Court" (20 : Nat) "TwoHeads$Court" "textOf" "[I")),
  (24, (Jvm.Cond.fieldLink "TwoHeads$Court" (24 : Nat) "TwoHeads$Court" "facts" "[I")),
  (27, (Jvm.Cond.fieldLink "TwoHeads$Court" (27 : Nat) "TwoHeads$Court" "stack" "[I")),
  (30, (Jvm.Cond.fieldLink "TwoHeads$Court" (30 : Nat) "TwoHeads$Court" "lands" "LTwoHeads$Lands;")),
  (34, (Jvm.Cond.fieldLink "TwoHeads$Court" (34 : Nat) "TwoHeads$Court" "people" "LTwoHeads$People;")),
  (38, (Jvm.Cond.fieldLink "TwoHeads$Court" (38 : Nat) "TwoHeads$Court" "deeds" "LTwoHeads$Deeds;")),
  (49, (Jvm.Cond.fieldLink "TwoHeads$Court" (49 : Nat) "TwoHeads$Court" "texts" "I")),
  (53, (Jvm.Cond.fieldLink "TwoHeads$Court" (53 : Nat) "TwoHeads$People" "land" "[I")),
  (58, (Jvm.Cond.fieldLink "TwoHeads$Court" (58 : Nat) "TwoHeads$Deeds" "by" "[I")),
  (67, (Jvm.Cond.fieldLink "TwoHeads$Court" (67 : Nat) "TwoHeads$Deeds" "day" "[I")),
  (80, (Jvm.Cond.fieldLink "TwoHeads$Court" (80 : Nat) "TwoHeads$Deeds" "kind" "[I")),
  (86, (Jvm.Cond.fieldLink "TwoHeads$Court" (86 : Nat) "TwoHeads$Deeds" "hangsOn" "[I")),
  (94, (Jvm.Cond.fieldLink "TwoHeads$Court" (94 : Nat) "TwoHeads$Deeds" "faith" "[I")),
  (101, (Jvm.Cond.fieldLink "TwoHeads$Court" (101 : Nat) "TwoHeads$Deeds" "size" "I")),
  (127, (Jvm.Cond.fieldLink "TwoHeads$Court" (127 : Nat) "TwoHeads$Deeds" "on" "[I")),
  (130, (Jvm.Cond.fieldLink "TwoHeads$Court" (130 : Nat) "TwoHeads$Lands" "ways" "[[I")),
  (3, (Jvm.Cond.methodLink "TwoHeads$Court" (3 : Nat) ({ cls := "java/lang/Object", name := "<init>", desc := "()V" } : Jvm.MethodName))),
  (42, (Jvm.Cond.methodLink "TwoHeads$Court" (42 : Nat) ({ cls := "TwoHeads$Formula", name := "<init>", desc := "([I)V" } : Jvm.MethodName))),
  (45, (Jvm.Cond.methodLink "TwoHeads$Court" (45 : Nat) ({ cls := "TwoHeads$Court", name := "addText", desc := "(LTwoHeads$Formula;LTwoHeads$Formula;)I" } : Jvm.MethodName))),
  (63, (Jvm.Cond.methodLink "TwoHeads$Court" (63 : Nat) ({ cls := "TwoHeads$Court", name := "landOf", desc := "(I)I" } : Jvm.MethodName))),
  (70, (Jvm.Cond.methodLink "TwoHeads$Court" (70 : Nat) ({ cls := "TwoHeads$Lands", name := "sideOn", desc := "(II)I" } : Jvm.MethodName))),
  (76, (Jvm.Cond.methodLink "TwoHeads$Court" (76 : Nat) ({ cls := "TwoHeads$Court", name := "valueIfHeld", desc := "(IIII)I" } : Jvm.MethodName))),
  (83, (Jvm.Cond.methodLink "TwoHeads$Court" (83 : Nat) ({ cls := "TwoHeads$Deeds", name := "rankOf", desc := "(I)I" } : Jvm.MethodName))),
  (89, (Jvm.Cond.methodLink "TwoHeads$Court" (89 : Nat) ({ cls := "java/lang/Integer", name := "bitCount", desc := "(I)I" } : Jvm.MethodName))),
  (97, (Jvm.Cond.methodLink "TwoHeads$Court" (97 : Nat) ({ cls := "TwoHeads$Formula", name := "valueFor", desc := "([I[I)I" } : Jvm.MethodName))),
  (104, (Jvm.Cond.methodLink "TwoHeads$Court" (104 : Nat) ({ cls := "TwoHeads$Court", name := "valueOf", desc := "(III)I" } : Jvm.MethodName))),
  (108, (Jvm.Cond.methodLink "TwoHeads$Court" (108 : Nat) ({ cls := "TwoHeads$Court", name := "trueUnder", desc := "(II)I" } : Jvm.MethodName))),
  (111, (Jvm.Cond.methodLink "TwoHeads$Court" (111 : Nat) ({ cls := "TwoHeads$Court", name := "goodAmong", desc := "(II)I" } : Jvm.MethodName))),
  (114, (Jvm.Cond.methodLink "TwoHeads$Court" (114 : Nat) ({ cls := "TwoHeads$Court", name := "hangingWithin", desc := "(I)I" } : Jvm.MethodName))),
  (117, (Jvm.Cond.methodLinkNest "TwoHeads$Court" (117 : Nat) ({ cls := "TwoHeads", name := "has", desc := "(II)Z" } : Jvm.MethodName) "TwoHeads")),
  (121, (Jvm.Cond.methodLink "TwoHeads$Court" (121 : Nat) ({ cls := "TwoHeads$Deeds", name := "runsOn", desc := "(II)Z" } : Jvm.MethodName))),
  (124, (Jvm.Cond.methodLink "TwoHeads$Court" (124 : Nat) ({ cls := "TwoHeads$Court", name := "namingOn", desc := "(III)I" } : Jvm.MethodName))),
  (134, (Jvm.Cond.methodLink "TwoHeads$Court" (134 : Nat) ({ cls := "TwoHeads$Court", name := "knownFrom", desc := "(II)I" } : Jvm.MethodName))),
  (137, (Jvm.Cond.methodLink "TwoHeads$Court" (137 : Nat) ({ cls := "TwoHeads$Lands", name := "sideIfTurned", desc := "(IIII)I" } : Jvm.MethodName))),
  (140, (Jvm.Cond.methodLink "TwoHeads$Court" (140 : Nat) ({ cls := "TwoHeads$Court", name := "tellsApart", desc := "(III)Z" } : Jvm.MethodName)))]
theorem lk_1_in : ∀ q ∈ lk_1, q.2 ∈ am_T := lk_mem (ps := [249, 267, 268, 271, 273, 274, 264, 265, 266, 269, 183, 210, 214, 207, 219, 217, 224, 212, 146, 248, 252, 260, 560, 564, 573, 577, 583, 589, 839, 864, 865, 844, 871, 875, 907, 565, 569]) (by decide +kernel) (by decide +kernel)
def lk_2 : List (Nat × Cond) := [(9, (Jvm.Cond.fieldLink "TwoHeads$Deeds" (9 : Nat) "TwoHeads$Deeds" "kind" "[I")),
  (15, (Jvm.Cond.fieldLink "TwoHeads$Deeds" (15 : Nat) "TwoHeads$Deeds" "by" "[I")),
  (18, (Jvm.Cond.fieldLink "TwoHeads$Deeds" (18 : Nat) "TwoHeads$Deeds" "on" "[I")),
  (21, (Jvm.Cond.fieldLink "TwoHeads$Deeds" (21 : Nat) "TwoHeads$Deeds" "day" "[I")),
  (24, (Jvm.Cond.fieldLink "TwoHeads$Deeds" (24 : Nat) "TwoHeads$Deeds" "faith" "[I")),
  (27, (Jvm.Cond.fieldLink "TwoHeads$Deeds" (27 : Nat) "TwoHeads$Deeds" "hangsOn" "[I")),
  (30, (Jvm.Cond.fieldLink "TwoHeads$Deeds" (30 : Nat) "TwoHeads$Deeds" "lifted" "[I")),
  (39, (Jvm.Cond.fieldLink "TwoHeads$Deeds" (39 : Nat) "TwoHeads$Deeds" "size" "I")),
  (43, (Jvm.Cond.fieldLinkNest "TwoHeads$Deeds" (43 : Nat) "TwoHeads" "RANK_OF_KIND" "[I" "TwoHeads")),
  (46, (Jvm.Cond.fieldLinkNest "TwoHeads$Deeds" (46 : Nat) "TwoHeads" "KIND_LASTS" "[I" "TwoHeads")),
  (3, (Jvm.Cond.methodLink "TwoHeads$Deeds" (3 : Nat) ({ cls := "java/lang/Object", name := "<init>", desc := "()V" } : Jvm.MethodName))),
  (33, (Jvm.Cond.methodLink "TwoHeads$Deeds" (33 : Nat) ({ cls := "java/util/Arrays", name := "fill", desc := "([II)V" } : Jvm.MethodName))),
  (49, (Jvm.Cond.methodLink "TwoHeads$Deeds" (49 : Nat) ({ cls := "TwoHeads$Deeds", name := "lastsFor", desc := "(I)I" } : Jvm.MethodName))),
  (53, (Jvm.Cond.methodLink "TwoHeads$Deeds" (53 : Nat) ({ cls := "TwoHeads$Deeds", name := "rankOf", desc := "(I)I" } : Jvm.MethodName)))]
theorem lk_2_in : ∀ q ∈ lk_2, q.2 ∈ am_T := lk_mem (ps := [206, 209, 211, 213, 216, 218, 221, 223, 204, 205, 635, 634]) (by decide +kernel) (by decide +kernel)
def lk_3 : List (Nat × Cond) := [(9, (Jvm.Cond.fieldLink "TwoHeads$Electors" (9 : Nat) "TwoHeads$Electors" "price" "[I")),
  (15, (Jvm.Cond.fieldLink "TwoHeads$Electors" (15 : Nat) "TwoHeads$Electors" "clashes" "[I")),
  (18, (Jvm.Cond.fieldLink "TwoHeads$Electors" (18 : Nat) "TwoHeads$Electors" "size" "I")),
  (22, (Jvm.Cond.fieldLink "TwoHeads$Electors" (22 : Nat) "TwoHeads$Electors" "ours" "I")),
  (3, (Jvm.Cond.methodLink "TwoHeads$Electors" (3 : Nat) ({ cls := "java/lang/Object", name := "<init>", desc := "()V" } : Jvm.MethodName))),
  (25, (Jvm.Cond.methodLink "TwoHeads$Electors" (25 : Nat) ({ cls := "java/lang/Integer", name := "bitCount", desc := "(I)I" } : Jvm.MethodName))),
  (31, (Jvm.Cond.methodLinkNest "TwoHeads$Electors" (31 : Nat) ({ cls := "TwoHeads", name := "sumOver", desc := "([II)I" } : Jvm.MethodName) "TwoHeads")),
  (35, (Jvm.Cond.methodLinkNest "TwoHeads$Electors" (35 : Nat) ({ cls := "TwoHeads", name := "goTogether", desc := "([II)Z" } : Jvm.MethodName) "TwoHeads"))]
theorem lk_3_in : ∀ q ∈ lk_3, q.2 ∈ am_T := lk_mem (ps := [373, 375, 378, 377, 372, 948]) (by decide +kernel) (by decide +kernel)
def lk_4 : List (Nat × Cond) := [(9, (Jvm.Cond.fieldLink "TwoHeads$Envoys" (9 : Nat) "TwoHeads$Envoys" "order" "[I")),
  (15, (Jvm.Cond.fieldLink "TwoHeads$Envoys" (15 : Nat) "TwoHeads$Envoys" "best" "[I")),
  (18, (Jvm.Cond.fieldLink "TwoHeads$Envoys" (18 : Nat) "TwoHeads$Envoys" "lands" "LTwoHeads$Lands;")),
  (28, (Jvm.Cond.fieldLink "TwoHeads$Envoys" (28 : Nat) "TwoHeads$Envoys" "size" "I")),
  (32, (Jvm.Cond.fieldLink "TwoHeads$Envoys" (32 : Nat) "TwoHeads$Envoys" "mostWon" "I")),
  (51, (Jvm.Cond.fieldLink "TwoHeads$Envoys" (51 : Nat) "TwoHeads$Lands" "ways" "[[I")),
  (61, (Jvm.Cond.fieldLink "TwoHeads$Envoys" (61 : Nat) "TwoHeads$Lands" "bounds" "[I")),
  (3, (Jvm.Cond.methodLink "TwoHeads$Envoys" (3 : Nat) ({ cls := "java/lang/Object", name := "<init>", desc := "()V" } : Jvm.MethodName))),
  (22, (Jvm.Cond.methodLink "TwoHeads$Envoys" (22 : Nat) ({ cls := "java/lang/Integer", name := "bitCount", desc := "(I)I" } : Jvm.MethodName))),
  (35, (Jvm.Cond.methodLink "TwoHeads$Envoys" (35 : Nat) ({ cls := "TwoHeads$Envoys", name := "goOn", desc := "(IIIII)V" } : Jvm.MethodName))),
  (39, (Jvm.Cond.methodLink "TwoHeads$Envoys" (39 : Nat) ({ cls := "TwoHeads$Envoys", name := "mayBeWon", desc := "(III)I" } : Jvm.MethodName))),
  (43, (Jvm.Cond.methodLink "TwoHeads$Envoys" (43 : Nat) ({ cls := "TwoHeads$Envoys", name := "keep", desc := "(I)V" } : Jvm.MethodName))),
  (47, (Jvm.Cond.methodLinkNest "TwoHeads$Envoys" (47 : Nat) ({ cls := "TwoHeads", name := "has", desc := "(II)Z" } : Jvm.MethodName) "TwoHeads")),
  (57, (Jvm.Cond.methodLink "TwoHeads$Envoys" (57 : Nat) ({ cls := "TwoHeads$Envoys", name := "giveUp", desc := "(III)V" } : Jvm.MethodName))),
  (64, (Jvm.Cond.methodLink "TwoHeads$Envoys" (64 : Nat) ({ cls := "java/lang/System", name := "arraycopy", desc := "(Ljava/lang/Object;ILjava/lang/Object;II)V" } : Jvm.MethodName)))]
theorem lk_4_in : ∀ q ∈ lk_4, q.2 ∈ am_T := lk_mem (ps := [419, 420, 418, 422, 424, 145, 155, 417, 1038, 1039, 1043, 1048, 1053, 1052]) (by decide +kernel) (by decide +kernel)
def lk_5 : List (Nat × Cond) := [(9, (Jvm.Cond.fieldLink "TwoHeads$Formula" (9 : Nat) "TwoHeads$Formula" "code" "[I")),
  (3, (Jvm.Cond.methodLink "TwoHeads$Formula" (3 : Nat) ({ cls := "java/lang/Object", name := "<init>", desc := "()V" } : Jvm.MethodName))),
  (15, (Jvm.Cond.methodLink "TwoHeads$Formula" (15 : Nat) ({ cls := "TwoHeads$Formula", name := "joined", desc := "(III)I" } : Jvm.MethodName)))]
theorem lk_5_in : ∀ q ∈ lk_5, q.2 ∈ am_T := lk_mem (ps := [256, 255, 593]) (by decide +kernel) (by decide +kernel)
def lk_6 : List (Nat × Cond) := [(9, (Jvm.Cond.classLink "TwoHeads$Lands" (9 : Nat) "[[I")),
  (11, (Jvm.Cond.fieldLink "TwoHeads$Lands" (11 : Nat) "TwoHeads$Lands" "roads" "[[I")),
  (16, (Jvm.Cond.fieldLink "TwoHeads$Lands" (16 : Nat) "TwoHeads$Lands" "ways" "[[I")),
  (19, (Jvm.Cond.fieldLink "TwoHeads$Lands" (19 : Nat) "TwoHeads$Lands" "turnLand" "[I")),
  (23, (Jvm.Cond.fieldLink "TwoHeads$Lands" (23 : Nat) "TwoHeads$Lands" "turnFrom" "[I")),
  (26, (Jvm.Cond.fieldLink "TwoHeads$Lands" (26 : Nat) "TwoHeads$Lands" "turnSide" "[I")),
  (29, (Jvm.Cond.fieldLink "TwoHeads$Lands" (29 : Nat) "TwoHeads$Lands" "seats" "[I")),
  (32, (Jvm.Cond.fieldLink "TwoHeads$Lands" (32 : Nat) "TwoHeads$Lands" "bounds" "[I")),
  (56, (Jvm.Cond.fieldLink "TwoHeads$Lands" (56 : Nat) "TwoHeads$Lands" "turns" "I")),
  (3, (Jvm.Cond.methodLink "TwoHeads$Lands" (3 : Nat) ({ cls := "java/lang/Object", name := "<init>", desc := "()V" } : Jvm.MethodName))),
  (35, (Jvm.Cond.methodLink "TwoHeads$Lands" (35 : Nat) ({ cls := "java/util/Arrays", name := "fill", desc := "([II)V" } : Jvm.MethodName))),
  (41, (Jvm.Cond.methodLink "TwoHeads$Lands" (41 : Nat) ({ cls := "TwoHeads$Lands", name := "measure", desc := "()V" } : Jvm.MethodName))),
  (44, (Jvm.Cond.methodLink "TwoHeads$Lands" (44 : Nat) ({ cls := "java/lang/System", name := "arraycopy", desc := "(Ljava/lang/Object;ILjava/lang/Object;II)V" } : Jvm.MethodName))),
  (50, (Jvm.Cond.methodLink "TwoHeads$Lands" (50 : Nat) ({ cls := "java/lang/Math", name := "min", desc := "(II)I" } : Jvm.MethodName))),
  (60, (Jvm.Cond.methodLink "TwoHeads$Lands" (60 : Nat) ({ cls := "TwoHeads$Lands", name := "turnOn", desc := "(II)I" } : Jvm.MethodName))),
  (63, (Jvm.Cond.methodLink "TwoHeads$Lands" (63 : Nat) ({ cls := "TwoHeads$Lands", name := "sideOn", desc := "(II)I" } : Jvm.MethodName))),
  (66, (Jvm.Cond.methodLink "TwoHeads$Lands" (66 : Nat) ({ cls := "java/lang/Integer", name := "bitCount", desc := "(I)I" } : Jvm.MethodName))),
  (72, (Jvm.Cond.methodLinkNest "TwoHeads$Lands" (72 : Nat) ({ cls := "TwoHeads", name := "sumOver", desc := "([II)I" } : Jvm.MethodName) "TwoHeads"))]
theorem lk_6_in : ∀ q ∈ lk_6, q.2 ∈ am_T := lk_mem (ps := [126, 141, 143, 147, 148, 149, 152, 154, 150, 125, 128, 131, 135, 138, 548, 972, 977]) (by decide +kernel) (by decide +kernel)
def lk_7 : List (Nat × Cond) := [(9, (Jvm.Cond.fieldLink "TwoHeads$People" (9 : Nat) "TwoHeads$People" "land" "[I")),
  (15, (Jvm.Cond.fieldLink "TwoHeads$People" (15 : Nat) "TwoHeads$People" "officeLand" "[I")),
  (18, (Jvm.Cond.fieldLink "TwoHeads$People" (18 : Nat) "TwoHeads$People" "sitter" "[I")),
  (3, (Jvm.Cond.methodLink "TwoHeads$People" (3 : Nat) ({ cls := "java/lang/Object", name := "<init>", desc := "()V" } : Jvm.MethodName))),
  (21, (Jvm.Cond.methodLink "TwoHeads$People" (21 : Nat) ({ cls := "java/util/Arrays", name := "fill", desc := "([II)V" } : Jvm.MethodName)))]
theorem lk_7_in : ∀ q ∈ lk_7, q.2 ∈ am_T := lk_mem (ps := [182, 186, 188, 180, 181]) (by decide +kernel) (by decide +kernel)
def lk_8 : List (Nat × Cond) := [(134, (Jvm.Cond.classLink "TwoHeads$Reader" (134 : Nat) "TwoHeads$Formula")),
  (9, (Jvm.Cond.fieldLink "TwoHeads$Reader" (9 : Nat) "TwoHeads$Reader" "tape" "[B")),
  (15, (Jvm.Cond.fieldLink "TwoHeads$Reader" (15 : Nat) "TwoHeads$Reader" "tokens" "[I")),
  (19, (Jvm.Cond.fieldLink "TwoHeads$Reader" (19 : Nat) "TwoHeads$Reader" "places" "[I")),
  (22, (Jvm.Cond.fieldLink "TwoHeads$Reader" (22 : Nat) "TwoHeads$Reader" "values" "[I")),
  (25, (Jvm.Cond.fieldLink "TwoHeads$Reader" (25 : Nat) "TwoHeads$Reader" "code" "[I")),
  (28, (Jvm.Cond.fieldLink "TwoHeads$Reader" (28 : Nat) "TwoHeads$Reader" "size" "I")),
  (35, (Jvm.Cond.fieldLink "TwoHeads$Reader" (35 : Nat) "TwoHeads$Reader" "fault" "I")),
  (38, (Jvm.Cond.fieldLink "TwoHeads$Reader" (38 : Nat) "TwoHeads$Reader" "current" "I")),
  (41, (Jvm.Cond.fieldLink "TwoHeads$Reader" (41 : Nat) "TwoHeads$Reader" "token" "I")),
  (48, (Jvm.Cond.fieldLink "TwoHeads$Reader" (48 : Nat) "TwoHeads$Reader" "binds" "LTwoHeads$Formula;")),
  (52, (Jvm.Cond.fieldLink "TwoHeads$Reader" (52 : Nat) "TwoHeads$Reader" "saved" "LTwoHeads$Formula;")),
  (58, (Jvm.Cond.fieldLink "TwoHeads$Reader" (58 : Nat) "TwoHeads$Reader" "at" "I")),
  (124, (Jvm.Cond.fieldLink "TwoHeads$Reader" (124 : Nat) "TwoHeads$Reader" "codeSize" "I")),
  (3, (Jvm.Cond.methodLink "TwoHeads$Reader" (3 : Nat) ({ cls := "java/lang/Object", name := "<init>", desc := "()V" } : Jvm.MethodName))),
  (32, (Jvm.Cond.methodLink "TwoHeads$Reader" (32 : Nat) ({ cls := "TwoHeads$Reader", name := "findTokens", desc := "()V" } : Jvm.MethodName))),
  (44, (Jvm.Cond.methodLink "TwoHeads$Reader" (44 : Nat) ({ cls := "TwoHeads$Reader", name := "readPart", desc := "(I)LTwoHeads$Formula;" } : Jvm.MethodName))),
  (55, (Jvm.Cond.methodLink "TwoHeads$Reader" (55 : Nat) ({ cls := "TwoHeads$Reader", name := "fail", desc := "()V" } : Jvm.MethodName))),
  (61, (Jvm.Cond.methodLink "TwoHeads$Reader" (61 : Nat) ({ cls := "TwoHeads$Reader", name := "skipBlanks", desc := "()V" } : Jvm.MethodName))),
  (64, (Jvm.Cond.methodLink "TwoHeads$Reader" (64 : Nat) ({ cls := "TwoHeads$Reader", name := "findToken", desc := "(I)I" } : Jvm.MethodName))),
  (68, (Jvm.Cond.methodLink "TwoHeads$Reader" (68 : Nat) ({ cls := "TwoHeads$Reader", name := "isLetter", desc := "(B)Z" } : Jvm.MethodName))),
  (72, (Jvm.Cond.methodLink "TwoHeads$Reader" (72 : Nat) ({ cls := "TwoHeads$Reader", name := "findWord", desc := "(I)I" } : Jvm.MethodName))),
  (75, (Jvm.Cond.methodLink "TwoHeads$Reader" (75 : Nat) ({ cls := "TwoHeads$Reader", name := "isDigit", desc := "(B)Z" } : Jvm.MethodName))),
  (78, (Jvm.Cond.methodLink "TwoHeads$Reader" (78 : Nat) ({ cls := "TwoHeads$Reader", name := "findNumber", desc := "(I)I" } : Jvm.MethodName))),
  (81, (Jvm.Cond.methodLink "TwoHeads$Reader" (81 : Nat) ({ cls := "TwoHeads$Reader", name := "isSign", desc := "(B)Z" } : Jvm.MethodName))),
  (84, (Jvm.Cond.methodLink "TwoHeads$Reader" (84 : Nat) ({ cls := "TwoHeads$Reader", name := "nameFrom", desc := "(I)I" } : Jvm.MethodName))),
  (87, (Jvm.Cond.methodLink "TwoHeads$Reader" (87 : Nat) ({ cls := "TwoHeads$Reader", name := "keyFrom", desc := "(I)I" } : Jvm.MethodName))),
  (92, (Jvm.Cond.methodLink "TwoHeads$Reader" (92 : Nat) ({ cls := "TwoHeads$Reader", name := "spells", desc := "(ILjava/lang/String;)Z" } : Jvm.MethodName))),
  (114, (Jvm.Cond.methodLink "TwoHeads$Reader" (114 : Nat) ({ cls := "java/lang/String", name := "length", desc := "()I" } : Jvm.MethodName))),
  (120, (Jvm.Cond.methodLink "TwoHeads$Reader" (120 : Nat) ({ cls := "java/lang/String", name := "charAt", desc := "(I)C" } : Jvm.MethodName))),
  (127, (Jvm.Cond.methodLink "TwoHeads$Reader" (127 : Nat) ({ cls := "TwoHeads$Reader", name := "expect", desc := "(I)V" } : Jvm.MethodName))),
  (131, (Jvm.Cond.methodLink "TwoHeads$Reader" (131 : Nat) ({ cls := "TwoHeads$Reader", name := "readEither", desc := "(I)V" } : Jvm.MethodName))),
  (136, (Jvm.Cond.methodLink "TwoHeads$Reader" (136 : Nat) ({ cls := "java/util/Arrays", name := "copyOf", desc := "([II)[I" } : Jvm.MethodName))),
  (142, (Jvm.Cond.methodLink "TwoHeads$Reader" (142 : Nat) ({ cls := "TwoHeads$Formula", name := "<init>", desc := "([I)V" } : Jvm.MethodName))),
  (145, (Jvm.Cond.methodLink "TwoHeads$Reader" (145 : Nat) ({ cls := "TwoHeads$Reader", name := "readBoth", desc := "(I)V" } : Jvm.MethodName))),
  (148, (Jvm.Cond.methodLink "TwoHeads$Reader" (148 : Nat) ({ cls := "TwoHeads$Reader", name := "advance", desc := "()V" } : Jvm.MethodName))),
  (151, (Jvm.Cond.methodLink "TwoHeads$Reader" (151 : Nat) ({ cls := "TwoHeads$Reader", name := "write", desc := "(I)V" } : Jvm.MethodName))),
  (154, (Jvm.Cond.methodLink "TwoHeads$Reader" (154 : Nat) ({ cls := "TwoHeads$Reader", name := "readNot", desc := "(I)V" } : Jvm.MethodName))),
  (157, (Jvm.Cond.methodLink "TwoHeads$Reader" (157 : Nat) ({ cls := "TwoHeads$Reader", name := "mayOpen", desc := "(I)Z" } : Jvm.MethodName))),
  (161, (Jvm.Cond.methodLink "TwoHeads$Reader" (161 : Nat) ({ cls := "TwoHeads$Reader", name := "readSum", desc := "(I)V" } : Jvm.MethodName))),
  (164, (Jvm.Cond.methodLink "TwoHeads$Reader" (164 : Nat) ({ cls := "TwoHeads$Reader", name := "readTerm", desc := "(I)V" } : Jvm.MethodName))),
  (167, (Jvm.Cond.methodLink "TwoHeads$Reader" (167 : Nat) ({ cls := "TwoHeads$Reader", name := "readOne", desc := "(I)V" } : Jvm.MethodName)))]
theorem lk_8_in : ∀ q ∈ lk_8, q.2 ∈ am_T := lk_mem (ps := [800, 323, 331, 332, 333, 337, 324, 336, 334, 335, 326, 328, 330, 338, 322, 652, 752, 764, 656, 660, 664, 667, 742, 745, 749, 671, 733, 676, 680, 690, 756, 768, 801, 813, 772, 760, 784, 776, 780, 788, 792, 796]) (by decide +kernel) (by decide +kernel)
def lk_9 : List (Nat × Cond) := [(9, (Jvm.Cond.fieldLink "TwoHeads$Rents" (9 : Nat) "TwoHeads$Rents" "office" "[I")),
  (15, (Jvm.Cond.fieldLink "TwoHeads$Rents" (15 : Nat) "TwoHeads$Rents" "person" "[I")),
  (18, (Jvm.Cond.fieldLink "TwoHeads$Rents" (18 : Nat) "TwoHeads$Rents" "coins" "[I")),
  (21, (Jvm.Cond.fieldLink "TwoHeads$Rents" (21 : Nat) "TwoHeads$Rents" "day" "[I")),
  (24, (Jvm.Cond.fieldLink "TwoHeads$Rents" (24 : Nat) "TwoHeads$Rents" "size" "I")),
  (3, (Jvm.Cond.methodLink "TwoHeads$Rents" (3 : Nat) ({ cls := "java/lang/Object", name := "<init>", desc := "()V" } : Jvm.MethodName))),
  (28, (Jvm.Cond.methodLink "TwoHeads$Rents" (28 : Nat) ({ cls := "TwoHeads$Court", name := "rightful", desc := "(III)I" } : Jvm.MethodName)))]
theorem lk_9_in : ∀ q ∈ lk_9, q.2 ∈ am_T := lk_mem (ps := [300, 301, 302, 303, 304, 299, 924]) (by decide +kernel) (by decide +kernel)
def lk_10 : List (Nat × Cond) := [(9, (Jvm.Cond.fieldLink "TwoHeads$Sheet" (9 : Nat) "TwoHeads$Sheet" "sort" "I")),
  (15, (Jvm.Cond.fieldLink "TwoHeads$Sheet" (15 : Nat) "TwoHeads$Sheet" "items" "[I")),
  (19, (Jvm.Cond.fieldLink "TwoHeads$Sheet" (19 : Nat) "TwoHeads$Sheet" "size" "I")),
  (3, (Jvm.Cond.methodLink "TwoHeads$Sheet" (3 : Nat) ({ cls := "java/lang/Object", name := "<init>", desc := "()V" } : Jvm.MethodName))),
  (22, (Jvm.Cond.methodLink "TwoHeads$Sheet" (22 : Nat) ({ cls := "java/util/Arrays", name := "fill", desc := "([II)V" } : Jvm.MethodName)))]
theorem lk_10_in : ∀ q ∈ lk_10, q.2 ∈ am_T := lk_mem (ps := [444, 448, 446, 443, 1072]) (by decide +kernel) (by decide +kernel)
def lk_11 : List (Nat × Cond) := [(7, (Jvm.Cond.classLink "TwoHeads" (7 : Nat) "TwoHeads$Lands")),
  (16, (Jvm.Cond.classLink "TwoHeads" (16 : Nat) "TwoHeads$People")),
  (23, (Jvm.Cond.classLink "TwoHeads" (23 : Nat) "TwoHeads$Deeds")),
  (30, (Jvm.Cond.classLink "TwoHeads" (30 : Nat) "TwoHeads$Court")),
  (39, (Jvm.Cond.classLink "TwoHeads" (39 : Nat) "TwoHeads$Rents")),
  (46, (Jvm.Cond.classLink "TwoHeads" (46 : Nat) "TwoHeads$Reader")),
  (53, (Jvm.Cond.classLink "TwoHeads" (53 : Nat) "TwoHeads$Electors")),
  (60, (Jvm.Cond.classLink "TwoHeads" (60 : Nat) "TwoHeads$Clauses")),
  (67, (Jvm.Cond.classLink "TwoHeads" (67 : Nat) "TwoHeads$Envoys")),
  (76, (Jvm.Cond.classLink "TwoHeads" (76 : Nat) "TwoHeads$Sheet")),
  (10, (Jvm.Cond.fieldLink "TwoHeads" (10 : Nat) "TwoHeads" "lands" "LTwoHeads$Lands;")),
  (19, (Jvm.Cond.fieldLink "TwoHeads" (19 : Nat) "TwoHeads" "people" "LTwoHeads$People;")),
  (26, (Jvm.Cond.fieldLink "TwoHeads" (26 : Nat) "TwoHeads" "deeds" "LTwoHeads$Deeds;")),
  (35, (Jvm.Cond.fieldLink "TwoHeads" (35 : Nat) "TwoHeads" "court" "LTwoHeads$Court;")),
  (42, (Jvm.Cond.fieldLink "TwoHeads" (42 : Nat) "TwoHeads" "rents" "LTwoHeads$Rents;")),
  (49, (Jvm.Cond.fieldLink "TwoHeads" (49 : Nat) "TwoHeads" "reader" "LTwoHeads$Reader;")),
  (56, (Jvm.Cond.fieldLink "TwoHeads" (56 : Nat) "TwoHeads" "electors" "LTwoHeads$Electors;")),
  (63, (Jvm.Cond.fieldLink "TwoHeads" (63 : Nat) "TwoHeads" "clauses" "LTwoHeads$Clauses;")),
  (72, (Jvm.Cond.fieldLink "TwoHeads" (72 : Nat) "TwoHeads" "envoys" "LTwoHeads$Envoys;")),
  (78, (Jvm.Cond.fieldLink "TwoHeads" (78 : Nat) "TwoHeads" "sheets" "[LTwoHeads$Sheet;")),
  (91, (Jvm.Cond.fieldLink "TwoHeads" (91 : Nat) "TwoHeads$Lands" "roads" "[[I")),
  (99, (Jvm.Cond.fieldLink "TwoHeads" (99 : Nat) "TwoHeads$Lands" "ways" "[[I")),
  (102, (Jvm.Cond.fieldLink "TwoHeads" (102 : Nat) "TwoHeads$People" "size" "I")),
  (106, (Jvm.Cond.fieldLink "TwoHeads" (106 : Nat) "TwoHeads$People" "land" "[I")),
  (113, (Jvm.Cond.fieldLink "TwoHeads" (113 : Nat) "TwoHeads$People" "officeLand" "[I")),
  (119, (Jvm.Cond.fieldLink "TwoHeads" (119 : Nat) "TwoHeads$People" "sitter" "[I")),
  (125, (Jvm.Cond.fieldLink "TwoHeads" (125 : Nat) "TwoHeads$Lands" "turns" "I")),
  (139, (Jvm.Cond.fieldLink "TwoHeads" (139 : Nat) "TwoHeads$Deeds" "size" "I")),
  (147, (Jvm.Cond.fieldLink "TwoHeads" (147 : Nat) "TwoHeads$Deeds" "hangsOn" "[I")),
  (160, (Jvm.Cond.fieldLink "TwoHeads" (160 : Nat) "TwoHeads$Deeds" "day" "[I")),
  (163, (Jvm.Cond.fieldLink "TwoHeads" (163 : Nat) "TwoHeads$Deeds" "kind" "[I")),
  (166, (Jvm.Cond.fieldLink "TwoHeads" (166 : Nat) "TwoHeads$Deeds" "lifted" "[I")),
  (175, (Jvm.Cond.fieldLink "TwoHeads" (175 : Nat) "TwoHeads$Reader" "size" "I")),
  (180, (Jvm.Cond.fieldLink "TwoHeads" (180 : Nat) "TwoHeads$Court" "texts" "I")),
  (187, (Jvm.Cond.fieldLink "TwoHeads" (187 : Nat) "TwoHeads$Reader" "binds" "LTwoHeads$Formula;")),
  (191, (Jvm.Cond.fieldLink "TwoHeads" (191 : Nat) "TwoHeads$Reader" "saved" "LTwoHeads$Formula;")),
  (201, (Jvm.Cond.fieldLink "TwoHeads" (201 : Nat) "TwoHeads$Court" "textOf" "[I")),
  (233, (Jvm.Cond.fieldLink "TwoHeads" (233 : Nat) "TwoHeads$Rents" "size" "I")),
  (241, (Jvm.Cond.fieldLink "TwoHeads" (241 : Nat) "TwoHeads$Electors" "size" "I")),
  (244, (Jvm.Cond.fieldLink "TwoHeads" (244 : Nat) "TwoHeads$Electors" "clashes" "[I")),
  (254, (Jvm.Cond.fieldLink "TwoHeads" (254 : Nat) "TwoHeads$Electors" "price" "[I")),
  (261, (Jvm.Cond.fieldLink "TwoHeads" (261 : Nat) "TwoHeads$Lands" "seats" "[I")),
  (274, (Jvm.Cond.fieldLink "TwoHeads" (274 : Nat) "TwoHeads$Clauses" "size" "I")),
  (280, (Jvm.Cond.fieldLink "TwoHeads" (280 : Nat) "TwoHeads$Clauses" "worth" "[[I")),
  (283, (Jvm.Cond.fieldLink "TwoHeads" (283 : Nat) "TwoHeads$Clauses" "foes" "[I")),
  (295, (Jvm.Cond.fieldLink "TwoHeads" (295 : Nat) "TwoHeads$Lands" "bounds" "[I")),
  (302, (Jvm.Cond.fieldLink "TwoHeads" (302 : Nat) "TwoHeads$Envoys" "mostWon" "I")),
  (305, (Jvm.Cond.fieldLink "TwoHeads" (305 : Nat) "TwoHeads$Envoys" "size" "I")),
  (306, (Jvm.Cond.fieldLink "TwoHeads" (306 : Nat) "TwoHeads$Envoys" "best" "[I")),
  (319, (Jvm.Cond.fieldLink "TwoHeads" (319 : Nat) "TwoHeads$Sheet" "size" "I")),
  (323, (Jvm.Cond.fieldLink "TwoHeads" (323 : Nat) "TwoHeads$Sheet" "sort" "I")),
  (329, (Jvm.Cond.fieldLink "TwoHeads" (329 : Nat) "TwoHeads$Sheet" "items" "[I")),
  (341, (Jvm.Cond.fieldLink "TwoHeads" (341 : Nat) "TwoHeads" "RANK_OF_KIND" "[I")),
  (344, (Jvm.Cond.fieldLink "TwoHeads" (344 : Nat) "TwoHeads" "KIND_ABOVE" "[I")),
  (204, (Jvm.Cond.constantLong "TwoHeads" (204 : Nat) (-4611686018427387904 : Int64))),
  (273, (Jvm.Cond.constant "TwoHeads" (273 : Nat) (16777215 : Int32))),
  (1, (Jvm.Cond.methodLink "TwoHeads" (1 : Nat) ({ cls := "java/lang/Object", name := "<init>", desc := "()V" } : Jvm.MethodName))),
  (9, (Jvm.Cond.methodLink "TwoHeads" (9 : Nat) ({ cls := "TwoHeads$Lands", name := "<init>", desc := "()V" } : Jvm.MethodName))),
  (18, (Jvm.Cond.methodLink "TwoHeads" (18 : Nat) ({ cls := "TwoHeads$People", name := "<init>", desc := "()V" } : Jvm.MethodName))),
  (25, (Jvm.Cond.methodLink "TwoHeads" (25 : Nat) ({ cls := "TwoHeads$Deeds", name := "<init>", desc := "()V" } : Jvm.MethodName))),
  (32, (Jvm.Cond.methodLink "TwoHeads" (32 : Nat) ({ cls := "TwoHeads$Court", name := "<init>", desc := "(LTwoHeads$Lands;LTwoHeads$People;LTwoHeads$Deeds;)V" } : Jvm.MethodName))),
  (41, (Jvm.Cond.methodLinkNest "TwoHeads" (41 : Nat) ({ cls := "TwoHeads$Rents", name := "<init>", desc := "()V" } : Jvm.MethodName) "TwoHeads")),
  (48, (Jvm.Cond.methodLinkNest "TwoHeads" (48 : Nat) ({ cls := "TwoHeads$Reader", name := "<init>", desc := "()V" } : Jvm.MethodName) "TwoHeads")),
  (55, (Jvm.Cond.methodLinkNest "TwoHeads" (55 : Nat) ({ cls := "TwoHeads$Electors", name := "<init>", desc := "()V" } : Jvm.MethodName) "TwoHeads")),
  (62, (Jvm.Cond.methodLinkNest "TwoHeads" (62 : Nat) ({ cls := "TwoHeads$Clauses", name := "<init>", desc := "()V" } : Jvm.MethodName) "TwoHeads")),
  (69, (Jvm.Cond.methodLink "TwoHeads" (69 : Nat) ({ cls := "TwoHeads$Envoys", name := "<init>", desc := "(LTwoHeads$Lands;)V" } : Jvm.MethodName))),
  (82, (Jvm.Cond.methodLinkNest "TwoHeads" (82 : Nat) ({ cls := "TwoHeads$Sheet", name := "<init>", desc := "()V" } : Jvm.MethodName) "TwoHeads")),
  (83, (Jvm.Cond.methodLink "TwoHeads" (83 : Nat) ({ cls := "TwoHeads", name := "isLand", desc := "(I)Z" } : Jvm.MethodName))),
  (87, (Jvm.Cond.methodLink "TwoHeads" (87 : Nat) ({ cls := "TwoHeads", name := "isWithin", desc := "(III)Z" } : Jvm.MethodName))),
  (95, (Jvm.Cond.methodLink "TwoHeads" (95 : Nat) ({ cls := "TwoHeads$Lands", name := "lay", desc := "(III)V" } : Jvm.MethodName))),
  (110, (Jvm.Cond.methodLink "TwoHeads" (110 : Nat) ({ cls := "TwoHeads", name := "isOffice", desc := "(I)Z" } : Jvm.MethodName))),
  (116, (Jvm.Cond.methodLink "TwoHeads" (116 : Nat) ({ cls := "TwoHeads", name := "isPerson", desc := "(I)Z" } : Jvm.MethodName))),
  (122, (Jvm.Cond.methodLink "TwoHeads" (122 : Nat) ({ cls := "TwoHeads", name := "isDay", desc := "(I)Z" } : Jvm.MethodName))),
  (128, (Jvm.Cond.methodLink "TwoHeads" (128 : Nat) ({ cls := "TwoHeads$Lands", name := "addTurn", desc := "(III)I" } : Jvm.MethodName))),
  (132, (Jvm.Cond.methodLink "TwoHeads" (132 : Nat) ({ cls := "TwoHeads$Lands", name := "sideOn", desc := "(II)I" } : Jvm.MethodName))),
  (136, (Jvm.Cond.methodLink "TwoHeads" (136 : Nat) ({ cls := "TwoHeads$Court", name := "changedBy", desc := "(III)I" } : Jvm.MethodName))),
  (140, (Jvm.Cond.methodLink "TwoHeads" (140 : Nat) ({ cls := "TwoHeads$Deeds", name := "add", desc := "(IIIII)I" } : Jvm.MethodName))),
  (144, (Jvm.Cond.methodLink "TwoHeads" (144 : Nat) ({ cls := "TwoHeads", name := "isAct", desc := "(I)Z" } : Jvm.MethodName))),
  (150, (Jvm.Cond.methodLink "TwoHeads" (150 : Nat) ({ cls := "TwoHeads", name := "has", desc := "(II)Z" } : Jvm.MethodName))),
  (154, (Jvm.Cond.methodLink "TwoHeads" (154 : Nat) ({ cls := "java/lang/Integer", name := "bitCount", desc := "(I)I" } : Jvm.MethodName))),
  (169, (Jvm.Cond.methodLink "TwoHeads" (169 : Nat) ({ cls := "TwoHeads$Deeds", name := "lastsFor", desc := "(I)I" } : Jvm.MethodName))),
  (172, (Jvm.Cond.methodLink "TwoHeads" (172 : Nat) ({ cls := "TwoHeads$Deeds", name := "tell", desc := "(II)I" } : Jvm.MethodName))),
  (176, (Jvm.Cond.methodLink "TwoHeads" (176 : Nat) ({ cls := "TwoHeads$Reader", name := "append", desc := "(IJ)V" } : Jvm.MethodName))),
  (183, (Jvm.Cond.methodLink "TwoHeads" (183 : Nat) ({ cls := "TwoHeads$Reader", name := "readTape", desc := "()I" } : Jvm.MethodName))),
  (194, (Jvm.Cond.methodLink "TwoHeads" (194 : Nat) ({ cls := "TwoHeads$Court", name := "addText", desc := "(LTwoHeads$Formula;LTwoHeads$Formula;)I" } : Jvm.MethodName))),
  (198, (Jvm.Cond.methodLink "TwoHeads" (198 : Nat) ({ cls := "TwoHeads", name := "isSide", desc := "(I)Z" } : Jvm.MethodName))),
  (206, (Jvm.Cond.methodLink "TwoHeads" (206 : Nat) ({ cls := "TwoHeads$Court", name := "valueOf", desc := "(III)I" } : Jvm.MethodName))),
  (209, (Jvm.Cond.methodLink "TwoHeads" (209 : Nat) ({ cls := "TwoHeads$Court", name := "trueUnder", desc := "(II)I" } : Jvm.MethodName))),
  (212, (Jvm.Cond.methodLink "TwoHeads" (212 : Nat) ({ cls := "TwoHeads$Court", name := "goodAmong", desc := "(II)I" } : Jvm.MethodName))),
  (215, (Jvm.Cond.methodLink "TwoHeads" (215 : Nat) ({ cls := "TwoHeads$Court", name := "firmAmong", desc := "(II)I" } : Jvm.MethodName))),
  (218, (Jvm.Cond.methodLink "TwoHeads" (218 : Nat) ({ cls := "TwoHeads$Court", name := "goodUnder", desc := "(I)I" } : Jvm.MethodName))),
  (221, (Jvm.Cond.methodLink "TwoHeads" (221 : Nat) ({ cls := "TwoHeads$Court", name := "forceOn", desc := "(II)I" } : Jvm.MethodName))),
  (224, (Jvm.Cond.methodLink "TwoHeads" (224 : Nat) ({ cls := "TwoHeads$Court", name := "rightful", desc := "(III)I" } : Jvm.MethodName))),
  (227, (Jvm.Cond.methodLink "TwoHeads" (227 : Nat) ({ cls := "TwoHeads$Court", name := "knownFrom", desc := "(II)I" } : Jvm.MethodName))),
  (230, (Jvm.Cond.methodLink "TwoHeads" (230 : Nat) ({ cls := "TwoHeads$Court", name := "knewOf", desc := "(II)Z" } : Jvm.MethodName))),
  (234, (Jvm.Cond.methodLink "TwoHeads" (234 : Nat) ({ cls := "TwoHeads$Rents", name := "add", desc := "(IIII)I" } : Jvm.MethodName))),
  (237, (Jvm.Cond.methodLink "TwoHeads" (237 : Nat) ({ cls := "TwoHeads$Rents", name := "owedAgain", desc := "(LTwoHeads$Court;II)J" } : Jvm.MethodName))),
  (242, (Jvm.Cond.methodLink "TwoHeads" (242 : Nat) ({ cls := "TwoHeads$Electors", name := "add", desc := "(II)I" } : Jvm.MethodName))),
  (247, (Jvm.Cond.methodLink "TwoHeads" (247 : Nat) ({ cls := "TwoHeads", name := "setApart", desc := "([III)I" } : Jvm.MethodName))),
  (251, (Jvm.Cond.methodLink "TwoHeads" (251 : Nat) ({ cls := "TwoHeads$Electors", name := "cheapest", desc := "()I" } : Jvm.MethodName))),
  (257, (Jvm.Cond.methodLink "TwoHeads" (257 : Nat) ({ cls := "TwoHeads", name := "sumOver", desc := "([II)I" } : Jvm.MethodName))),
  (264, (Jvm.Cond.methodLink "TwoHeads" (264 : Nat) ({ cls := "TwoHeads$Lands", name := "within", desc := "(II)I" } : Jvm.MethodName))),
  (267, (Jvm.Cond.methodLink "TwoHeads" (267 : Nat) ({ cls := "TwoHeads$Lands", name := "holdingToOne", desc := "(I)I" } : Jvm.MethodName))),
  (270, (Jvm.Cond.methodLink "TwoHeads" (270 : Nat) ({ cls := "TwoHeads$Lands", name := "call", desc := "(III)I" } : Jvm.MethodName))),
  (275, (Jvm.Cond.methodLink "TwoHeads" (275 : Nat) ({ cls := "TwoHeads$Clauses", name := "add", desc := "(I)I" } : Jvm.MethodName))),
  (277, (Jvm.Cond.methodLink "TwoHeads" (277 : Nat) ({ cls := "TwoHeads", name := "isClause", desc := "(I)Z" } : Jvm.MethodName))),
  (286, (Jvm.Cond.methodLink "TwoHeads" (286 : Nat) ({ cls := "TwoHeads$Clauses", name := "settled", desc := "(II)I" } : Jvm.MethodName))),
  (289, (Jvm.Cond.methodLink "TwoHeads" (289 : Nat) ({ cls := "TwoHeads$Clauses", name := "undoneBy", desc := "(II)I" } : Jvm.MethodName))),
  (292, (Jvm.Cond.methodLink "TwoHeads" (292 : Nat) ({ cls := "TwoHeads$Clauses", name := "takersOf", desc := "(I)I" } : Jvm.MethodName))),
  (298, (Jvm.Cond.methodLink "TwoHeads" (298 : Nat) ({ cls := "TwoHeads$Envoys", name := "plan", desc := "(II)V" } : Jvm.MethodName))),
  (309, (Jvm.Cond.methodLink "TwoHeads" (309 : Nat) ({ cls := "TwoHeads", name := "isSheet", desc := "(I)Z" } : Jvm.MethodName))),
  (312, (Jvm.Cond.methodLink "TwoHeads" (312 : Nat) ({ cls := "TwoHeads$Sheet", name := "become", desc := "(II)V" } : Jvm.MethodName))),
  (315, (Jvm.Cond.methodLink "TwoHeads" (315 : Nat) ({ cls := "TwoHeads$Sheet", name := "isMissing", desc := "()Z" } : Jvm.MethodName))),
  (320, (Jvm.Cond.methodLink "TwoHeads" (320 : Nat) ({ cls := "TwoHeads$Sheet", name := "put", desc := "(II)V" } : Jvm.MethodName))),
  (326, (Jvm.Cond.methodLink "TwoHeads" (326 : Nat) ({ cls := "TwoHeads$Sheet", name := "holds", desc := "(II)Z" } : Jvm.MethodName))),
  (332, (Jvm.Cond.methodLink "TwoHeads" (332 : Nat) ({ cls := "java/lang/System", name := "arraycopy", desc := "(Ljava/lang/Object;ILjava/lang/Object;II)V" } : Jvm.MethodName))),
  (338, (Jvm.Cond.methodLink "TwoHeads" (338 : Nat) ({ cls := "TwoHeads", name := "isUnder", desc := "(II)Z" } : Jvm.MethodName)))]
theorem lk_11_in : ∀ q ∈ lk_11, q.2 ∈ am_T := lk_mem (ps := [120, 175, 199, 243, 294, 317, 367, 389, 412, 437, 457, 458, 459, 460, 461, 462, 463, 464, 465, 466, 142, 144, 185, 184, 187, 189, 151, 225, 220, 215, 208, 222, 325, 270, 327, 329, 272, 305, 379, 376, 374, 153, 402, 400, 398, 156, 425, 423, 421, 447, 445, 449, 1107, 1105, 826, 983, 117, 122, 177, 201, 245, 414, 492, 495, 498, 514, 521, 533, 536, 544, 556, 600, 608, 612, 615, 620, 630, 640, 648, 814, 819, 827, 835, 840, 848, 860, 866, 883, 895, 903, 912, 920, 929, 937, 944, 955, 964, 968, 973, 984, 992, 1004, 1024, 1025, 1034, 1065, 1068, 1077, 1081, 1089, 1093, 1102]) (by decide +kernel) (by decide +kernel)
def lk_12 : List (Nat × Cond) := [(7, (Jvm.Cond.fieldLink "TwoHeadsModel" (7 : Nat) "TwoHeadsModel" "road" "[I")),
  (13, (Jvm.Cond.fieldLink "TwoHeadsModel" (13 : Nat) "TwoHeadsModel" "far" "[I")),
  (16, (Jvm.Cond.fieldLink "TwoHeadsModel" (16 : Nat) "TwoHeadsModel" "persons" "I")),
  (20, (Jvm.Cond.fieldLink "TwoHeadsModel" (20 : Nat) "TwoHeadsModel" "turns" "I")),
  (23, (Jvm.Cond.fieldLink "TwoHeadsModel" (23 : Nat) "TwoHeadsModel" "landOf" "[I")),
  (26, (Jvm.Cond.fieldLink "TwoHeadsModel" (26 : Nat) "TwoHeadsModel" "officeLand" "[I")),
  (29, (Jvm.Cond.fieldLink "TwoHeadsModel" (29 : Nat) "TwoHeadsModel" "sits" "[I")),
  (32, (Jvm.Cond.fieldLink "TwoHeadsModel" (32 : Nat) "TwoHeadsModel" "turnLand" "[I")),
  (35, (Jvm.Cond.fieldLink "TwoHeadsModel" (35 : Nat) "TwoHeadsModel" "turnDay" "[I")),
  (38, (Jvm.Cond.fieldLink "TwoHeadsModel" (38 : Nat) "TwoHeadsModel" "turnSide" "[I")),
  (41, (Jvm.Cond.fieldLink "TwoHeadsModel" (41 : Nat) "TwoHeadsModel" "acts" "I")),
  (44, (Jvm.Cond.fieldLink "TwoHeadsModel" (44 : Nat) "TwoHeadsModel" "kind" "[I")),
  (47, (Jvm.Cond.fieldLink "TwoHeadsModel" (47 : Nat) "TwoHeadsModel" "by" "[I")),
  (50, (Jvm.Cond.fieldLink "TwoHeadsModel" (50 : Nat) "TwoHeadsModel" "on" "[I")),
  (53, (Jvm.Cond.fieldLink "TwoHeadsModel" (53 : Nat) "TwoHeadsModel" "day" "[I")),
  (56, (Jvm.Cond.fieldLink "TwoHeadsModel" (56 : Nat) "TwoHeadsModel" "faith" "[I")),
  (59, (Jvm.Cond.fieldLink "TwoHeadsModel" (59 : Nat) "TwoHeadsModel" "hangs" "[I")),
  (62, (Jvm.Cond.fieldLink "TwoHeadsModel" (62 : Nat) "TwoHeadsModel" "lifted" "[I")),
  (65, (Jvm.Cond.fieldLink "TwoHeadsModel" (65 : Nat) "TwoHeadsModel" "tape" "[B")),
  (69, (Jvm.Cond.fieldLink "TwoHeadsModel" (69 : Nat) "TwoHeadsModel" "taped" "I")),
  (72, (Jvm.Cond.fieldLink "TwoHeadsModel" (72 : Nat) "TwoHeadsModel" "texts" "I")),
  (75, (Jvm.Cond.fieldLink "TwoHeadsModel" (75 : Nat) "TwoHeadsModel" "ruleOf" "[I")),
  (78, (Jvm.Cond.fieldLink "TwoHeadsModel" (78 : Nat) "TwoHeadsModel" "many" "[I")),
  (81, (Jvm.Cond.fieldLink "TwoHeadsModel" (81 : Nat) "TwoHeadsModel" "row" "[I")),
  (84, (Jvm.Cond.fieldLink "TwoHeadsModel" (84 : Nat) "TwoHeadsModel" "at" "I")),
  (87, (Jvm.Cond.fieldLink "TwoHeadsModel" (87 : Nat) "TwoHeadsModel" "token" "I")),
  (90, (Jvm.Cond.fieldLink "TwoHeadsModel" (90 : Nat) "TwoHeadsModel" "value" "I")),
  (93, (Jvm.Cond.fieldLink "TwoHeadsModel" (93 : Nat) "TwoHeadsModel" "begin" "I")),
  (96, (Jvm.Cond.fieldLink "TwoHeadsModel" (96 : Nat) "TwoHeadsModel" "waits" "[I")),
  (99, (Jvm.Cond.fieldLink "TwoHeadsModel" (99 : Nat) "TwoHeadsModel" "compared" "[Z")),
  (103, (Jvm.Cond.fieldLink "TwoHeadsModel" (103 : Nat) "TwoHeadsModel" "held" "I")),
  (106, (Jvm.Cond.fieldLink "TwoHeadsModel" (106 : Nat) "TwoHeadsModel" "brackets" "I")),
  (109, (Jvm.Cond.fieldLink "TwoHeadsModel" (109 : Nat) "TwoHeadsModel" "open" "I")),
  (112, (Jvm.Cond.fieldLink "TwoHeadsModel" (112 : Nat) "TwoHeadsModel" "of" "I")),
  (115, (Jvm.Cond.fieldLink "TwoHeadsModel" (115 : Nat) "TwoHeadsModel" "facts" "[I")),
  (118, (Jvm.Cond.fieldLink "TwoHeadsModel" (118 : Nat) "TwoHeadsModel" "pile" "[I")),
  (121, (Jvm.Cond.fieldLink "TwoHeadsModel" (121 : Nat) "TwoHeadsModel" "payments" "I")),
  (124, (Jvm.Cond.fieldLink "TwoHeadsModel" (124 : Nat) "TwoHeadsModel" "payOffice" "[I")),
  (127, (Jvm.Cond.fieldLink "TwoHeadsModel" (127 : Nat) "TwoHeadsModel" "payTo" "[I")),
  (130, (Jvm.Cond.fieldLink "TwoHeadsModel" (130 : Nat) "TwoHeadsModel" "coins" "[I")),
  (133, (Jvm.Cond.fieldLink "TwoHeadsModel" (133 : Nat) "TwoHeadsModel" "payDay" "[I")),
  (136, (Jvm.Cond.fieldLink "TwoHeadsModel" (136 : Nat) "TwoHeadsModel" "electors" "I")),
  (139, (Jvm.Cond.fieldLink "TwoHeadsModel" (139 : Nat) "TwoHeadsModel" "price" "[I")),
  (142, (Jvm.Cond.fieldLink "TwoHeadsModel" (142 : Nat) "TwoHeadsModel" "ours" "[I")),
  (145, (Jvm.Cond.fieldLink "TwoHeadsModel" (145 : Nat) "TwoHeadsModel" "clashes" "[I")),
  (148, (Jvm.Cond.fieldLink "TwoHeadsModel" (148 : Nat) "TwoHeadsModel" "seats" "[I")),
  (151, (Jvm.Cond.fieldLink "TwoHeadsModel" (151 : Nat) "TwoHeadsModel" "clauses" "I")),
  (154, (Jvm.Cond.fieldLink "TwoHeadsModel" (154 : Nat) "TwoHeadsModel" "undoes" "[I")),
  (157, (Jvm.Cond.fieldLink "TwoHeadsModel" (157 : Nat) "TwoHeadsModel" "worths" "[I")),
  (160, (Jvm.Cond.fieldLink "TwoHeadsModel" (160 : Nat) "TwoHeadsModel" "notWith" "[I")),
  (163, (Jvm.Cond.fieldLink "TwoHeadsModel" (163 : Nat) "TwoHeadsModel" "bounds" "[I")),
  (166, (Jvm.Cond.fieldLink "TwoHeadsModel" (166 : Nat) "TwoHeadsModel" "order" "[I")),
  (169, (Jvm.Cond.fieldLink "TwoHeadsModel" (169 : Nat) "TwoHeadsModel" "bestOrder" "[I")),
  (172, (Jvm.Cond.fieldLink "TwoHeadsModel" (172 : Nat) "TwoHeadsModel" "goal" "[I")),
  (175, (Jvm.Cond.fieldLink "TwoHeadsModel" (175 : Nat) "TwoHeadsModel" "goals" "I")),
  (178, (Jvm.Cond.fieldLink "TwoHeadsModel" (178 : Nat) "TwoHeadsModel" "sort" "[I")),
  (181, (Jvm.Cond.fieldLink "TwoHeadsModel" (181 : Nat) "TwoHeadsModel" "size" "[I")),
  (184, (Jvm.Cond.fieldLink "TwoHeadsModel" (184 : Nat) "TwoHeadsModel" "item" "[I")),
  (187, (Jvm.Cond.fieldLink "TwoHeadsModel" (187 : Nat) "TwoHeadsModel" "aside" "[I")),
  (240, (Jvm.Cond.constantLong "TwoHeadsModel" (240 : Nat) (31 : Int64))),
  (245, (Jvm.Cond.constantLong "TwoHeadsModel" (245 : Nat) (370116 : Int64))),
  (251, (Jvm.Cond.constantLong "TwoHeadsModel" (251 : Nat) (4153 : Int64))),
  (253, (Jvm.Cond.constantLong "TwoHeadsModel" (253 : Nat) (591307 : Int64))),
  (255, (Jvm.Cond.constantLong "TwoHeadsModel" (255 : Nat) (624037 : Int64))),
  (257, (Jvm.Cond.constantLong "TwoHeadsModel" (257 : Nat) (8435955 : Int64))),
  (259, (Jvm.Cond.constantLong "TwoHeadsModel" (259 : Nat) (6334088 : Int64))),
  (261, (Jvm.Cond.constantLong "TwoHeadsModel" (261 : Nat) (2406547 : Int64))),
  (263, (Jvm.Cond.constantLong "TwoHeadsModel" (263 : Nat) (19978404 : Int64))),
  (265, (Jvm.Cond.constantLong "TwoHeadsModel" (265 : Nat) (498 : Int64))),
  (267, (Jvm.Cond.constantLong "TwoHeadsModel" (267 : Nat) (1476 : Int64))),
  (269, (Jvm.Cond.constantLong "TwoHeadsModel" (269 : Nat) (14836 : Int64))),
  (327, (Jvm.Cond.constantLong "TwoHeadsModel" (327 : Nat) (-4611686018427387904 : Int64))),
  (366, (Jvm.Cond.constant "TwoHeadsModel" (366 : Nat) (16777215 : Int32))),
  (1, (Jvm.Cond.methodLink "TwoHeadsModel" (1 : Nat) ({ cls := "java/lang/Object", name := "<init>", desc := "()V" } : Jvm.MethodName))),
  (190, (Jvm.Cond.methodLink "TwoHeadsModel" (190 : Nat) ({ cls := "TwoHeadsModel", name := "ruleZero", desc := "()V" } : Jvm.MethodName))),
  (193, (Jvm.Cond.methodLink "TwoHeadsModel" (193 : Nat) ({ cls := "TwoHeadsModel", name := "in", desc := "(III)Z" } : Jvm.MethodName))),
  (197, (Jvm.Cond.methodLink "TwoHeadsModel" (197 : Nat) ({ cls := "TwoHeadsModel", name := "isLand", desc := "(I)Z" } : Jvm.MethodName))),
  (201, (Jvm.Cond.methodLink "TwoHeadsModel" (201 : Nat) ({ cls := "TwoHeadsModel", name := "findFar", desc := "()V" } : Jvm.MethodName))),
  (204, (Jvm.Cond.methodLink "TwoHeadsModel" (204 : Nat) ({ cls := "TwoHeadsModel", name := "isOffice", desc := "(I)Z" } : Jvm.MethodName))),
  (207, (Jvm.Cond.methodLink "TwoHeadsModel" (207 : Nat) ({ cls := "TwoHeadsModel", name := "isPerson", desc := "(I)Z" } : Jvm.MethodName))),
  (210, (Jvm.Cond.methodLink "TwoHeadsModel" (210 : Nat) ({ cls := "TwoHeadsModel", name := "isDay", desc := "(I)Z" } : Jvm.MethodName))),
  (213, (Jvm.Cond.methodLink "TwoHeadsModel" (213 : Nat) ({ cls := "TwoHeadsModel", name := "isTurn", desc := "(III)Z" } : Jvm.MethodName))),
  (216, (Jvm.Cond.methodLink "TwoHeadsModel" (216 : Nat) ({ cls := "TwoHeadsModel", name := "note", desc := "(III)V" } : Jvm.MethodName))),
  (220, (Jvm.Cond.methodLink "TwoHeadsModel" (220 : Nat) ({ cls := "TwoHeadsModel", name := "sideOf", desc := "(II)I" } : Jvm.MethodName))),
  (224, (Jvm.Cond.methodLink "TwoHeadsModel" (224 : Nat) ({ cls := "TwoHeadsModel", name := "soundBy", desc := "(I)I" } : Jvm.MethodName))),
  (228, (Jvm.Cond.methodLink "TwoHeadsModel" (228 : Nat) ({ cls := "TwoHeadsModel", name := "isAct", desc := "(I)Z" } : Jvm.MethodName))),
  (231, (Jvm.Cond.methodLink "TwoHeadsModel" (231 : Nat) ({ cls := "TwoHeadsModel", name := "ones", desc := "(I)I" } : Jvm.MethodName))),
  (234, (Jvm.Cond.methodLink "TwoHeadsModel" (234 : Nat) ({ cls := "TwoHeadsModel", name := "rankOf", desc := "(I)I" } : Jvm.MethodName))),
  (237, (Jvm.Cond.methodLink "TwoHeadsModel" (237 : Nat) ({ cls := "TwoHeadsModel", name := "lastsOf", desc := "(I)I" } : Jvm.MethodName))),
  (242, (Jvm.Cond.methodLink "TwoHeadsModel" (242 : Nat) ({ cls := "TwoHeadsModel", name := "isLetter", desc := "(I)Z" } : Jvm.MethodName))),
  (247, (Jvm.Cond.methodLink "TwoHeadsModel" (247 : Nat) ({ cls := "TwoHeadsModel", name := "isWord", desc := "(J)Z" } : Jvm.MethodName))),
  (271, (Jvm.Cond.methodLink "TwoHeadsModel" (271 : Nat) ({ cls := "TwoHeadsModel", name := "wordToken", desc := "()V" } : Jvm.MethodName))),
  (274, (Jvm.Cond.methodLink "TwoHeadsModel" (274 : Nat) ({ cls := "TwoHeadsModel", name := "isDigit", desc := "(I)Z" } : Jvm.MethodName))),
  (277, (Jvm.Cond.methodLink "TwoHeadsModel" (277 : Nat) ({ cls := "TwoHeadsModel", name := "rank", desc := "(I)I" } : Jvm.MethodName))),
  (280, (Jvm.Cond.methodLink "TwoHeadsModel" (280 : Nat) ({ cls := "TwoHeadsModel", name := "put", desc := "(I)V" } : Jvm.MethodName))),
  (284, (Jvm.Cond.methodLink "TwoHeadsModel" (284 : Nat) ({ cls := "TwoHeadsModel", name := "isKey", desc := "(I)Z" } : Jvm.MethodName))),
  (287, (Jvm.Cond.methodLink "TwoHeadsModel" (287 : Nat) ({ cls := "TwoHeadsModel", name := "isSign", desc := "(I)Z" } : Jvm.MethodName))),
  (290, (Jvm.Cond.methodLink "TwoHeadsModel" (290 : Nat) ({ cls := "TwoHeadsModel", name := "ahead", desc := "(Z)Z" } : Jvm.MethodName))),
  (294, (Jvm.Cond.methodLink "TwoHeadsModel" (294 : Nat) ({ cls := "TwoHeadsModel", name := "hold", desc := "(I)V" } : Jvm.MethodName))),
  (297, (Jvm.Cond.methodLink "TwoHeadsModel" (297 : Nat) ({ cls := "TwoHeadsModel", name := "settle", desc := "(I)V" } : Jvm.MethodName))),
  (300, (Jvm.Cond.methodLink "TwoHeadsModel" (300 : Nat) ({ cls := "TwoHeadsModel", name := "next", desc := "()V" } : Jvm.MethodName))),
  (303, (Jvm.Cond.methodLink "TwoHeadsModel" (303 : Nat) ({ cls := "TwoHeadsModel", name := "signOf", desc := "()I" } : Jvm.MethodName))),
  (307, (Jvm.Cond.methodLink "TwoHeadsModel" (307 : Nat) ({ cls := "TwoHeadsModel", name := "part", desc := "()Z" } : Jvm.MethodName))),
  (311, (Jvm.Cond.methodLink "TwoHeadsModel" (311 : Nat) ({ cls := "TwoHeadsModel", name := "isText", desc := "()Z" } : Jvm.MethodName))),
  (314, (Jvm.Cond.methodLink "TwoHeadsModel" (314 : Nat) ({ cls := "TwoHeadsModel", name := "isSide", desc := "(I)Z" } : Jvm.MethodName))),
  (317, (Jvm.Cond.methodLink "TwoHeadsModel" (317 : Nat) ({ cls := "TwoHeadsModel", name := "both", desc := "(III)I" } : Jvm.MethodName))),
  (321, (Jvm.Cond.methodLink "TwoHeadsModel" (321 : Nat) ({ cls := "TwoHeadsModel", name := "work", desc := "(II)I" } : Jvm.MethodName))),
  (324, (Jvm.Cond.methodLink "TwoHeadsModel" (324 : Nat) ({ cls := "TwoHeadsModel", name := "ask", desc := "(III)I" } : Jvm.MethodName))),
  (329, (Jvm.Cond.methodLink "TwoHeadsModel" (329 : Nat) ({ cls := "TwoHeadsModel", name := "savedBy", desc := "(I)I" } : Jvm.MethodName))),
  (332, (Jvm.Cond.methodLink "TwoHeadsModel" (332 : Nat) ({ cls := "TwoHeadsModel", name := "goodOf", desc := "(II)I" } : Jvm.MethodName))),
  (335, (Jvm.Cond.methodLink "TwoHeadsModel" (335 : Nat) ({ cls := "TwoHeadsModel", name := "firmOf", desc := "(II)I" } : Jvm.MethodName))),
  (338, (Jvm.Cond.methodLink "TwoHeadsModel" (338 : Nat) ({ cls := "TwoHeadsModel", name := "goodBy", desc := "(I)I" } : Jvm.MethodName))),
  (341, (Jvm.Cond.methodLink "TwoHeadsModel" (341 : Nat) ({ cls := "TwoHeadsModel", name := "isOn", desc := "(II)Z" } : Jvm.MethodName))),
  (345, (Jvm.Cond.methodLink "TwoHeadsModel" (345 : Nat) ({ cls := "TwoHeadsModel", name := "namingOf", desc := "(III)I" } : Jvm.MethodName))),
  (348, (Jvm.Cond.methodLink "TwoHeadsModel" (348 : Nat) ({ cls := "TwoHeadsModel", name := "rightOf", desc := "(III)I" } : Jvm.MethodName))),
  (351, (Jvm.Cond.methodLink "TwoHeadsModel" (351 : Nat) ({ cls := "TwoHeadsModel", name := "knownIn", desc := "(II)I" } : Jvm.MethodName))),
  (354, (Jvm.Cond.methodLink "TwoHeadsModel" (354 : Nat) ({ cls := "TwoHeadsModel", name := "knew", desc := "(II)Z" } : Jvm.MethodName))),
  (357, (Jvm.Cond.methodLink "TwoHeadsModel" (357 : Nat) ({ cls := "TwoHeadsModel", name := "canBuy", desc := "(I)Z" } : Jvm.MethodName))),
  (360, (Jvm.Cond.methodLink "TwoHeadsModel" (360 : Nat) ({ cls := "TwoHeadsModel", name := "priceOf", desc := "(I)I" } : Jvm.MethodName))),
  (363, (Jvm.Cond.methodLink "TwoHeadsModel" (363 : Nat) ({ cls := "TwoHeadsModel", name := "seatsOf", desc := "(III)I" } : Jvm.MethodName))),
  (367, (Jvm.Cond.methodLink "TwoHeadsModel" (367 : Nat) ({ cls := "TwoHeadsModel", name := "isClause", desc := "(I)Z" } : Jvm.MethodName))),
  (370, (Jvm.Cond.methodLink "TwoHeadsModel" (370 : Nat) ({ cls := "TwoHeadsModel", name := "undoneBy", desc := "(II)I" } : Jvm.MethodName))),
  (373, (Jvm.Cond.methodLink "TwoHeadsModel" (373 : Nat) ({ cls := "TwoHeadsModel", name := "takersOf", desc := "(I)I" } : Jvm.MethodName))),
  (376, (Jvm.Cond.methodLink "TwoHeadsModel" (376 : Nat) ({ cls := "TwoHeadsModel", name := "goTogether", desc := "(I)Z" } : Jvm.MethodName))),
  (379, (Jvm.Cond.methodLink "TwoHeadsModel" (379 : Nat) ({ cls := "TwoHeadsModel", name := "isBetter", desc := "(III)Z" } : Jvm.MethodName))),
  (382, (Jvm.Cond.methodLink "TwoHeadsModel" (382 : Nat) ({ cls := "TwoHeadsModel", name := "wonBy", desc := "(I)I" } : Jvm.MethodName))),
  (385, (Jvm.Cond.methodLink "TwoHeadsModel" (385 : Nat) ({ cls := "TwoHeadsModel", name := "nextOrder", desc := "()Z" } : Jvm.MethodName))),
  (388, (Jvm.Cond.methodLink "TwoHeadsModel" (388 : Nat) ({ cls := "TwoHeadsModel", name := "isSheet", desc := "(I)Z" } : Jvm.MethodName))),
  (391, (Jvm.Cond.methodLink "TwoHeadsModel" (391 : Nat) ({ cls := "TwoHeadsModel", name := "seats", desc := "(II)I" } : Jvm.MethodName))),
  (393, (Jvm.Cond.methodLink "TwoHeadsModel" (393 : Nat) ({ cls := "TwoHeadsModel", name := "isUnder", desc := "(II)Z" } : Jvm.MethodName)))]
theorem lk_12_in : ∀ q ∈ lk_12, q.2 ∈ am_T := lk_mem (ps := [1118, 1119, 1120, 1121, 1122, 1123, 1124, 1125, 1126, 1127, 1128, 1129, 1130, 1131, 1132, 1133, 1134, 1135, 1136, 1137, 1138, 1139, 1140, 1141, 1142, 1143, 1144, 1145, 1146, 1147, 1148, 1149, 1150, 1151, 1152, 1153, 1154, 1155, 1156, 1157, 1158, 1159, 1160, 1161, 1162, 1163, 1164, 1165, 1166, 1167, 1168, 1169, 1170, 1171, 1172, 1173, 1174, 1175, 1176, 1446, 1441, 1447, 1448, 1449, 1450, 1451, 1452, 1453, 1454, 1455, 1456, 1509, 1618, 1113, 1114, 1305, 1301, 1313, 1325, 1333, 1349, 1345, 1353, 1361, 1369, 1401, 1381, 1377, 1413, 1433, 1442, 1437, 1457, 1489, 1481, 1461, 1473, 1469, 1477, 1485, 1429, 1493, 1465, 1425, 1501, 1389, 1385, 1373, 1514, 1518, 1522, 1534, 1538, 1542, 1550, 1562, 1570, 1594, 1598, 1610, 1623, 1647, 1639, 1635, 1643, 1659, 1663, 1675, 1691, 1696]) (by decide +kernel) (by decide +kernel)
def lk_13 : List (Nat × Cond) := [(7, (Jvm.Cond.classLink "TwoHeadsLaw" (7 : Nat) "TwoHeads")),
  (10, (Jvm.Cond.classLink "TwoHeadsLaw" (10 : Nat) "TwoHeadsModel")),
  (69, (Jvm.Cond.constantLong "TwoHeadsLaw" (69 : Nat) (4294967295 : Int64))),
  (9, (Jvm.Cond.methodLink "TwoHeadsLaw" (9 : Nat) ({ cls := "TwoHeads", name := "<init>", desc := "()V" } : Jvm.MethodName))),
  (12, (Jvm.Cond.methodLink "TwoHeadsLaw" (12 : Nat) ({ cls := "TwoHeadsModel", name := "<init>", desc := "()V" } : Jvm.MethodName))),
  (13, (Jvm.Cond.methodLink "TwoHeadsLaw" (13 : Nat) ({ cls := "TwoHeads", name := "road", desc := "(III)I" } : Jvm.MethodName))),
  (17, (Jvm.Cond.methodLink "TwoHeadsLaw" (17 : Nat) ({ cls := "TwoHeadsModel", name := "road", desc := "(III)I" } : Jvm.MethodName))),
  (18, (Jvm.Cond.methodLink "TwoHeadsLaw" (18 : Nat) ({ cls := "TwoHeads", name := "far", desc := "(II)I" } : Jvm.MethodName))),
  (22, (Jvm.Cond.methodLink "TwoHeadsLaw" (22 : Nat) ({ cls := "TwoHeadsModel", name := "far", desc := "(II)I" } : Jvm.MethodName))),
  (23, (Jvm.Cond.methodLink "TwoHeadsLaw" (23 : Nat) ({ cls := "TwoHeads", name := "person", desc := "(I)I" } : Jvm.MethodName))),
  (27, (Jvm.Cond.methodLink "TwoHeadsLaw" (27 : Nat) ({ cls := "TwoHeadsModel", name := "person", desc := "(I)I" } : Jvm.MethodName))),
  (28, (Jvm.Cond.methodLink "TwoHeadsLaw" (28 : Nat) ({ cls := "TwoHeads", name := "office", desc := "(II)I" } : Jvm.MethodName))),
  (31, (Jvm.Cond.methodLink "TwoHeadsLaw" (31 : Nat) ({ cls := "TwoHeadsModel", name := "office", desc := "(II)I" } : Jvm.MethodName))),
  (32, (Jvm.Cond.methodLink "TwoHeadsLaw" (32 : Nat) ({ cls := "TwoHeads", name := "seat", desc := "(II)I" } : Jvm.MethodName))),
  (35, (Jvm.Cond.methodLink "TwoHeadsLaw" (35 : Nat) ({ cls := "TwoHeadsModel", name := "seat", desc := "(II)I" } : Jvm.MethodName))),
  (36, (Jvm.Cond.methodLink "TwoHeadsLaw" (36 : Nat) ({ cls := "TwoHeads", name := "officeTold", desc := "(II)I" } : Jvm.MethodName))),
  (39, (Jvm.Cond.methodLink "TwoHeadsLaw" (39 : Nat) ({ cls := "TwoHeadsModel", name := "officeTold", desc := "(II)I" } : Jvm.MethodName))),
  (40, (Jvm.Cond.methodLink "TwoHeadsLaw" (40 : Nat) ({ cls := "TwoHeads", name := "turn", desc := "(III)I" } : Jvm.MethodName))),
  (43, (Jvm.Cond.methodLink "TwoHeadsLaw" (43 : Nat) ({ cls := "TwoHeadsModel", name := "turn", desc := "(III)I" } : Jvm.MethodName))),
  (44, (Jvm.Cond.methodLink "TwoHeadsLaw" (44 : Nat) ({ cls := "TwoHeads", name := "side", desc := "(II)I" } : Jvm.MethodName))),
  (47, (Jvm.Cond.methodLink "TwoHeadsLaw" (47 : Nat) ({ cls := "TwoHeadsModel", name := "side", desc := "(II)I" } : Jvm.MethodName))),
  (48, (Jvm.Cond.methodLink "TwoHeadsLaw" (48 : Nat) ({ cls := "TwoHeads", name := "changed", desc := "(III)I" } : Jvm.MethodName))),
  (51, (Jvm.Cond.methodLink "TwoHeadsLaw" (51 : Nat) ({ cls := "TwoHeadsModel", name := "changed", desc := "(III)I" } : Jvm.MethodName))),
  (52, (Jvm.Cond.methodLink "TwoHeadsLaw" (52 : Nat) ({ cls := "TwoHeads", name := "act", desc := "(IIIII)I" } : Jvm.MethodName))),
  (56, (Jvm.Cond.methodLink "TwoHeadsLaw" (56 : Nat) ({ cls := "TwoHeadsModel", name := "act", desc := "(IIIII)I" } : Jvm.MethodName))),
  (57, (Jvm.Cond.methodLink "TwoHeadsLaw" (57 : Nat) ({ cls := "TwoHeads", name := "hang", desc := "(II)I" } : Jvm.MethodName))),
  (60, (Jvm.Cond.methodLink "TwoHeadsLaw" (60 : Nat) ({ cls := "TwoHeadsModel", name := "hang", desc := "(II)I" } : Jvm.MethodName))),
  (61, (Jvm.Cond.methodLink "TwoHeadsLaw" (61 : Nat) ({ cls := "TwoHeads", name := "lift", desc := "(II)I" } : Jvm.MethodName))),
  (64, (Jvm.Cond.methodLink "TwoHeadsLaw" (64 : Nat) ({ cls := "TwoHeadsModel", name := "lift", desc := "(II)I" } : Jvm.MethodName))),
  (65, (Jvm.Cond.methodLink "TwoHeadsLaw" (65 : Nat) ({ cls := "TwoHeads", name := "actTold", desc := "(II)I" } : Jvm.MethodName))),
  (68, (Jvm.Cond.methodLink "TwoHeadsLaw" (68 : Nat) ({ cls := "TwoHeadsModel", name := "actTold", desc := "(II)I" } : Jvm.MethodName))),
  (71, (Jvm.Cond.methodLink "TwoHeadsLaw" (71 : Nat) ({ cls := "TwoHeads", name := "feed", desc := "(IJ)I" } : Jvm.MethodName))),
  (75, (Jvm.Cond.methodLink "TwoHeadsLaw" (75 : Nat) ({ cls := "TwoHeadsModel", name := "feed", desc := "(IJ)I" } : Jvm.MethodName))),
  (76, (Jvm.Cond.methodLink "TwoHeadsLaw" (76 : Nat) ({ cls := "TwoHeads", name := "text", desc := "()I" } : Jvm.MethodName))),
  (80, (Jvm.Cond.methodLink "TwoHeadsLaw" (80 : Nat) ({ cls := "TwoHeadsModel", name := "text", desc := "()I" } : Jvm.MethodName))),
  (81, (Jvm.Cond.methodLink "TwoHeadsLaw" (81 : Nat) ({ cls := "TwoHeads", name := "rule", desc := "(II)I" } : Jvm.MethodName))),
  (84, (Jvm.Cond.methodLink "TwoHeadsLaw" (84 : Nat) ({ cls := "TwoHeadsModel", name := "rule", desc := "(II)I" } : Jvm.MethodName))),
  (85, (Jvm.Cond.methodLink "TwoHeadsLaw" (85 : Nat) ({ cls := "TwoHeads", name := "says", desc := "(III)J" } : Jvm.MethodName))),
  (89, (Jvm.Cond.methodLink "TwoHeadsLaw" (89 : Nat) ({ cls := "TwoHeadsModel", name := "says", desc := "(III)J" } : Jvm.MethodName))),
  (90, (Jvm.Cond.methodLink "TwoHeadsLaw" (90 : Nat) ({ cls := "TwoHeads", name := "acts", desc := "(II)I" } : Jvm.MethodName))),
  (93, (Jvm.Cond.methodLink "TwoHeadsLaw" (93 : Nat) ({ cls := "TwoHeadsModel", name := "acts", desc := "(II)I" } : Jvm.MethodName))),
  (94, (Jvm.Cond.methodLink "TwoHeadsLaw" (94 : Nat) ({ cls := "TwoHeads", name := "felled", desc := "(II)I" } : Jvm.MethodName))),
  (97, (Jvm.Cond.methodLink "TwoHeadsLaw" (97 : Nat) ({ cls := "TwoHeadsModel", name := "felled", desc := "(II)I" } : Jvm.MethodName))),
  (98, (Jvm.Cond.methodLink "TwoHeadsLaw" (98 : Nat) ({ cls := "TwoHeads", name := "inForce", desc := "(II)I" } : Jvm.MethodName))),
  (101, (Jvm.Cond.methodLink "TwoHeadsLaw" (101 : Nat) ({ cls := "TwoHeadsModel", name := "inForce", desc := "(II)I" } : Jvm.MethodName))),
  (102, (Jvm.Cond.methodLink "TwoHeadsLaw" (102 : Nat) ({ cls := "TwoHeads", name := "byRight", desc := "(III)I" } : Jvm.MethodName))),
  (105, (Jvm.Cond.methodLink "TwoHeadsLaw" (105 : Nat) ({ cls := "TwoHeadsModel", name := "byRight", desc := "(III)I" } : Jvm.MethodName))),
  (106, (Jvm.Cond.methodLink "TwoHeadsLaw" (106 : Nat) ({ cls := "TwoHeads", name := "quarrels", desc := "(I)I" } : Jvm.MethodName))),
  (109, (Jvm.Cond.methodLink "TwoHeadsLaw" (109 : Nat) ({ cls := "TwoHeadsModel", name := "quarrels", desc := "(I)I" } : Jvm.MethodName))),
  (110, (Jvm.Cond.methodLink "TwoHeadsLaw" (110 : Nat) ({ cls := "TwoHeads", name := "known", desc := "(II)I" } : Jvm.MethodName))),
  (113, (Jvm.Cond.methodLink "TwoHeadsLaw" (113 : Nat) ({ cls := "TwoHeadsModel", name := "known", desc := "(II)I" } : Jvm.MethodName))),
  (114, (Jvm.Cond.methodLink "TwoHeadsLaw" (114 : Nat) ({ cls := "TwoHeads", name := "crossed", desc := "(II)I" } : Jvm.MethodName))),
  (117, (Jvm.Cond.methodLink "TwoHeadsLaw" (117 : Nat) ({ cls := "TwoHeadsModel", name := "crossed", desc := "(II)I" } : Jvm.MethodName))),
  (118, (Jvm.Cond.methodLink "TwoHeadsLaw" (118 : Nat) ({ cls := "TwoHeads", name := "pay", desc := "(IIII)I" } : Jvm.MethodName))),
  (122, (Jvm.Cond.methodLink "TwoHeadsLaw" (122 : Nat) ({ cls := "TwoHeadsModel", name := "pay", desc := "(IIII)I" } : Jvm.MethodName))),
  (123, (Jvm.Cond.methodLink "TwoHeadsLaw" (123 : Nat) ({ cls := "TwoHeads", name := "owed", desc := "(II)J" } : Jvm.MethodName))),
  (127, (Jvm.Cond.methodLink "TwoHeadsLaw" (127 : Nat) ({ cls := "TwoHeadsModel", name := "owed", desc := "(II)J" } : Jvm.MethodName))),
  (128, (Jvm.Cond.methodLink "TwoHeadsLaw" (128 : Nat) ({ cls := "TwoHeads", name := "elector", desc := "(II)I" } : Jvm.MethodName))),
  (131, (Jvm.Cond.methodLink "TwoHeadsLaw" (131 : Nat) ({ cls := "TwoHeadsModel", name := "elector", desc := "(II)I" } : Jvm.MethodName))),
  (132, (Jvm.Cond.methodLink "TwoHeadsLaw" (132 : Nat) ({ cls := "TwoHeads", name := "clash", desc := "(II)I" } : Jvm.MethodName))),
  (135, (Jvm.Cond.methodLink "TwoHeadsLaw" (135 : Nat) ({ cls := "TwoHeadsModel", name := "clash", desc := "(II)I" } : Jvm.MethodName))),
  (136, (Jvm.Cond.methodLink "TwoHeadsLaw" (136 : Nat) ({ cls := "TwoHeads", name := "bought", desc := "(I)I" } : Jvm.MethodName))),
  (139, (Jvm.Cond.methodLink "TwoHeadsLaw" (139 : Nat) ({ cls := "TwoHeadsModel", name := "bought", desc := "(I)I" } : Jvm.MethodName))),
  (140, (Jvm.Cond.methodLink "TwoHeadsLaw" (140 : Nat) ({ cls := "TwoHeads", name := "seats", desc := "(II)I" } : Jvm.MethodName))),
  (143, (Jvm.Cond.methodLink "TwoHeadsLaw" (143 : Nat) ({ cls := "TwoHeadsModel", name := "seats", desc := "(II)I" } : Jvm.MethodName))),
  (144, (Jvm.Cond.methodLink "TwoHeadsLaw" (144 : Nat) ({ cls := "TwoHeads", name := "council", desc := "(IIII)I" } : Jvm.MethodName))),
  (147, (Jvm.Cond.methodLink "TwoHeadsLaw" (147 : Nat) ({ cls := "TwoHeadsModel", name := "council", desc := "(IIII)I" } : Jvm.MethodName))),
  (148, (Jvm.Cond.methodLink "TwoHeadsLaw" (148 : Nat) ({ cls := "TwoHeads", name := "clause", desc := "(I)I" } : Jvm.MethodName))),
  (151, (Jvm.Cond.methodLink "TwoHeadsLaw" (151 : Nat) ({ cls := "TwoHeadsModel", name := "clause", desc := "(I)I" } : Jvm.MethodName))),
  (152, (Jvm.Cond.methodLink "TwoHeadsLaw" (152 : Nat) ({ cls := "TwoHeads", name := "worth", desc := "(III)I" } : Jvm.MethodName))),
  (155, (Jvm.Cond.methodLink "TwoHeadsLaw" (155 : Nat) ({ cls := "TwoHeadsModel", name := "worth", desc := "(III)I" } : Jvm.MethodName))),
  (156, (Jvm.Cond.methodLink "TwoHeadsLaw" (156 : Nat) ({ cls := "TwoHeads", name := "against", desc := "(II)I" } : Jvm.MethodName))),
  (159, (Jvm.Cond.methodLink "TwoHeadsLaw" (159 : Nat) ({ cls := "TwoHeadsModel", name := "against", desc := "(II)I" } : Jvm.MethodName))),
  (160, (Jvm.Cond.methodLink "TwoHeadsLaw" (160 : Nat) ({ cls := "TwoHeads", name := "settling", desc := "(II)I" } : Jvm.MethodName))),
  (163, (Jvm.Cond.methodLink "TwoHeadsLaw" (163 : Nat) ({ cls := "TwoHeadsModel", name := "settling", desc := "(II)I" } : Jvm.MethodName))),
  (164, (Jvm.Cond.methodLink "TwoHeadsLaw" (164 : Nat) ({ cls := "TwoHeads", name := "bound", desc := "(II)I" } : Jvm.MethodName))),
  (167, (Jvm.Cond.methodLink "TwoHeadsLaw" (167 : Nat) ({ cls := "TwoHeadsModel", name := "bound", desc := "(II)I" } : Jvm.MethodName))),
  (168, (Jvm.Cond.methodLink "TwoHeadsLaw" (168 : Nat) ({ cls := "TwoHeads", name := "journey", desc := "(III)I" } : Jvm.MethodName))),
  (171, (Jvm.Cond.methodLink "TwoHeadsLaw" (171 : Nat) ({ cls := "TwoHeadsModel", name := "journey", desc := "(III)I" } : Jvm.MethodName))),
  (172, (Jvm.Cond.methodLink "TwoHeadsLaw" (172 : Nat) ({ cls := "TwoHeads", name := "count", desc := "(I)I" } : Jvm.MethodName))),
  (175, (Jvm.Cond.methodLink "TwoHeadsLaw" (175 : Nat) ({ cls := "TwoHeadsModel", name := "count", desc := "(I)I" } : Jvm.MethodName))),
  (176, (Jvm.Cond.methodLink "TwoHeadsLaw" (176 : Nat) ({ cls := "TwoHeads", name := "sheet", desc := "(III)I" } : Jvm.MethodName))),
  (179, (Jvm.Cond.methodLink "TwoHeadsLaw" (179 : Nat) ({ cls := "TwoHeadsModel", name := "sheet", desc := "(III)I" } : Jvm.MethodName))),
  (180, (Jvm.Cond.methodLink "TwoHeadsLaw" (180 : Nat) ({ cls := "TwoHeads", name := "cell", desc := "(III)I" } : Jvm.MethodName))),
  (183, (Jvm.Cond.methodLink "TwoHeadsLaw" (183 : Nat) ({ cls := "TwoHeadsModel", name := "cell", desc := "(III)I" } : Jvm.MethodName))),
  (184, (Jvm.Cond.methodLink "TwoHeadsLaw" (184 : Nat) ({ cls := "TwoHeads", name := "copy", desc := "(IIIII)I" } : Jvm.MethodName))),
  (187, (Jvm.Cond.methodLink "TwoHeadsLaw" (187 : Nat) ({ cls := "TwoHeadsModel", name := "copy", desc := "(IIIII)I" } : Jvm.MethodName))),
  (188, (Jvm.Cond.methodLink "TwoHeadsLaw" (188 : Nat) ({ cls := "TwoHeads", name := "seatsRow", desc := "(IIII)I" } : Jvm.MethodName))),
  (191, (Jvm.Cond.methodLink "TwoHeadsLaw" (191 : Nat) ({ cls := "TwoHeadsModel", name := "seatsRow", desc := "(IIII)I" } : Jvm.MethodName))),
  (192, (Jvm.Cond.methodLink "TwoHeadsLaw" (192 : Nat) ({ cls := "TwoHeads", name := "taken", desc := "(II)I" } : Jvm.MethodName))),
  (195, (Jvm.Cond.methodLink "TwoHeadsLaw" (195 : Nat) ({ cls := "TwoHeadsModel", name := "taken", desc := "(II)I" } : Jvm.MethodName)))]
theorem lk_13_in : ∀ q ∈ lk_13, q.2 ∈ am_T := lk_mem (ps := [112, 1108, 1700, 114, 1110, 488, 1297, 502, 1309, 506, 1317, 510, 1321, 517, 1329, 525, 1337, 529, 1341, 540, 1357, 552, 1365, 596, 1393, 604, 1397, 616, 1405, 626, 1409, 636, 1417, 644, 1421, 815, 1497, 822, 1505, 831, 1510, 852, 1526, 856, 1530, 879, 1546, 887, 1554, 891, 1558, 899, 1566, 908, 1574, 916, 1578, 925, 1582, 933, 1586, 940, 1590, 956, 1602, 960, 1606, 979, 1614, 988, 1619, 996, 1627, 1000, 1631, 1026, 1651, 1030, 1655, 1057, 1667, 1061, 1671, 1073, 1679, 1085, 1683, 1094, 1687, 1098, 1692]) (by decide +kernel) (by decide +kernel)
def lk_14 : List (Nat × Cond) := [(317, (Jvm.Cond.classLink "java/util/Arrays" (317 : Nat) "[I")),
  (150, (Jvm.Cond.methodLink "java/util/Arrays" (150 : Nat) ({ cls := "java/lang/System", name := "arraycopy", desc := "(Ljava/lang/Object;ILjava/lang/Object;II)V" } : Jvm.MethodName))),
  (304, (Jvm.Cond.methodLink "java/util/Arrays" (304 : Nat) ({ cls := "java/lang/Math", name := "min", desc := "(II)I" } : Jvm.MethodName))),
  (316, (Jvm.Cond.methodLink "java/util/Arrays" (316 : Nat) ({ cls := "[I", name := "clone", desc := "()Ljava/lang/Object;" } : Jvm.MethodName)))]
theorem lk_14_in : ∀ q ∈ lk_14, q.2 ∈ am_T := lk_mem (ps := [810, 812, 811, 804]) (by decide +kernel) (by decide +kernel)
def lk_15 : List (Nat × Cond) := [(265, (Jvm.Cond.constant "java/lang/Integer" (265 : Nat) (1431655765 : Int32))),
  (266, (Jvm.Cond.constant "java/lang/Integer" (266 : Nat) (858993459 : Int32))),
  (267, (Jvm.Cond.constant "java/lang/Integer" (267 : Nat) (252645135 : Int32)))]
theorem lk_15_in : ∀ q ∈ lk_15, q.2 ∈ am_T := lk_mem (ps := [586, 587, 588]) (by decide +kernel) (by decide +kernel)
def lk_16 : List (Nat × Cond) := []
theorem lk_16_in : ∀ q ∈ lk_16, q.2 ∈ am_T := lk_mem (ps := []) (by decide +kernel) (by decide +kernel)
def lk_17 : List (Nat × Cond) := []
theorem lk_17_in : ∀ q ∈ lk_17, q.2 ∈ am_T := lk_mem (ps := []) (by decide +kernel) (by decide +kernel)
def lk_L (oc : Nat) : List (Nat × Cond) := match oc with
  | 0 => lk_0
  | 1 => lk_1
  | 2 => lk_2
  | 3 => lk_3
  | 4 => lk_4
  | 5 => lk_5
  | 6 => lk_6
  | 7 => lk_7
  | 8 => lk_8
  | 9 => lk_9
  | 10 => lk_10
  | 11 => lk_11
  | 12 => lk_12
  | 13 => lk_13
  | 14 => lk_14
  | 15 => lk_15
  | 16 => lk_16
  | 17 => lk_17
  | _ => []
theorem lk_L_in (oc : Nat) : ∀ q ∈ lk_L oc, q.2 ∈ am_T := by
  unfold lk_L
  split
  · exact lk_0_in
  · exact lk_1_in
  · exact lk_2_in
  · exact lk_3_in
  · exact lk_4_in
  · exact lk_5_in
  · exact lk_6_in
  · exact lk_7_in
  · exact lk_8_in
  · exact lk_9_in
  · exact lk_10_in
  · exact lk_11_in
  · exact lk_12_in
  · exact lk_13_in
  · exact lk_14_in
  · exact lk_15_in
  · exact lk_16_in
  · exact lk_17_in
  · intro q hq; cases hq
def am_lk (oc idx : Nat) : Option Cond := (lk_L oc).lookup idx
theorem am_lk_in {oc idx : Nat} {w : Cond} (h : am_lk oc idx = some w) : w ∈ am_T := by
  have key : ∀ (l : List (Nat × Cond)), l.lookup idx = some w → ∃ q ∈ l, q.2 = w := by
    intro l
    induction l with
    | nil => intro h; cases h
    | cons q l ih =>
      intro h
      rw [List.lookup_cons] at h
      split at h
      · cases h; exact ⟨q, List.mem_cons_self, rfl⟩
      · obtain ⟨q2, h1, h2⟩ := ih h
        exact ⟨q2, List.mem_cons_of_mem _ h1, h2⟩
  obtain ⟨q, h1, rfl⟩ := key _ h
  exact lk_L_in oc q h1
end
section
/-! ===== methods: names, bytes, what they answer, their class; static 0, virtual 1, constructor 2 (by wip/whole/gen_links.py) ===== -/
def am_Y (k : Nat) : Option (MethodName × ByteArray × Option FieldType × Nat × Nat) := match k with
  | 0 => some (⟨"java/lang/Object", "<init>", "()V"⟩, object_method_1_code, none, 17, 2)
  | 1 => some (⟨"java/lang/Integer", "bitCount", "(I)I"⟩, prog_16_method_49_code, (Option.some FieldType.int), 15, 0)
  | 2 => some (⟨"java/util/Arrays", "copyOf", "([II)[I"⟩, prog_22_method_123_code, (Option.some (FieldType.array FieldType.int)), 14, 0)
  | 3 => some (⟨"java/util/Arrays", "fill", "([II)V"⟩, prog_22_method_103_code, none, 14, 0)
  | 4 => some (⟨"java/lang/Math", "min", "(II)I"⟩, prog_17_method_69_code, (Option.some FieldType.int), 16, 0)
  | 5 => some (⟨"TwoHeadsLaw", "law", "([I)Z"⟩, code, (some .boolean), 13, 0)
  | 6 => some (⟨"TwoHeads$Clauses", "add", "(I)I"⟩, prog_2_method_2_code, (Option.some FieldType.int), 0, 1)
  | 7 => some (⟨"TwoHeads$Clauses", "<init>", "()V"⟩, prog_2_method_1_code, none, 0, 2)
  | 8 => some (⟨"TwoHeads$Clauses", "isBetter", "(III)Z"⟩, prog_2_method_6_code, (Option.some FieldType.boolean), 0, 1)
  | 9 => some (⟨"TwoHeads$Clauses", "settled", "(II)I"⟩, prog_2_method_5_code, (Option.some FieldType.int), 0, 1)
  | 10 => some (⟨"TwoHeads$Clauses", "takersOf", "(I)I"⟩, prog_2_method_4_code, (Option.some FieldType.int), 0, 1)
  | 11 => some (⟨"TwoHeads$Clauses", "undoneBy", "(II)I"⟩, prog_2_method_3_code, (Option.some FieldType.int), 0, 1)
  | 12 => some (⟨"TwoHeads$Sheet", "become", "(II)V"⟩, prog_12_method_2_code, none, 10, 1)
  | 13 => some (⟨"TwoHeads$Sheet", "holds", "(II)Z"⟩, prog_12_method_5_code, (Option.some FieldType.boolean), 10, 1)
  | 14 => some (⟨"TwoHeads$Sheet", "<init>", "()V"⟩, prog_12_method_1_code, none, 10, 2)
  | 15 => some (⟨"TwoHeads$Sheet", "isMissing", "()Z"⟩, prog_12_method_3_code, (Option.some FieldType.boolean), 10, 1)
  | 16 => some (⟨"TwoHeads$Sheet", "put", "(II)V"⟩, prog_12_method_4_code, none, 10, 1)
  | 17 => some (⟨"TwoHeads", "act", "(IIIII)I"⟩, prog_1_method_11_code, (Option.some FieldType.int), 11, 1)
  | 18 => some (⟨"TwoHeads", "actTold", "(II)I"⟩, prog_1_method_14_code, (Option.some FieldType.int), 11, 1)
  | 19 => some (⟨"TwoHeads", "acts", "(II)I"⟩, prog_1_method_19_code, (Option.some FieldType.int), 11, 1)
  | 20 => some (⟨"TwoHeads", "against", "(II)I"⟩, prog_1_method_35_code, (Option.some FieldType.int), 11, 1)
  | 21 => some (⟨"TwoHeads", "bought", "(I)I"⟩, prog_1_method_30_code, (Option.some FieldType.int), 11, 1)
  | 22 => some (⟨"TwoHeads", "bound", "(II)I"⟩, prog_1_method_37_code, (Option.some FieldType.int), 11, 1)
  | 23 => some (⟨"TwoHeads", "byRight", "(III)I"⟩, prog_1_method_22_code, (Option.some FieldType.int), 11, 1)
  | 24 => some (⟨"TwoHeads", "cell", "(III)I"⟩, prog_1_method_41_code, (Option.some FieldType.int), 11, 1)
  | 25 => some (⟨"TwoHeads", "changed", "(III)I"⟩, prog_1_method_10_code, (Option.some FieldType.int), 11, 1)
  | 26 => some (⟨"TwoHeads", "clash", "(II)I"⟩, prog_1_method_29_code, (Option.some FieldType.int), 11, 1)
  | 27 => some (⟨"TwoHeads", "clause", "(I)I"⟩, prog_1_method_33_code, (Option.some FieldType.int), 11, 1)
  | 28 => some (⟨"TwoHeads", "copy", "(IIIII)I"⟩, prog_1_method_42_code, (Option.some FieldType.int), 11, 1)
  | 29 => some (⟨"TwoHeads", "council", "(IIII)I"⟩, prog_1_method_32_code, (Option.some FieldType.int), 11, 1)
  | 30 => some (⟨"TwoHeads", "count", "(I)I"⟩, prog_1_method_39_code, (Option.some FieldType.int), 11, 1)
  | 31 => some (⟨"TwoHeads", "crossed", "(II)I"⟩, prog_1_method_25_code, (Option.some FieldType.int), 11, 1)
  | 32 => some (⟨"TwoHeads", "elector", "(II)I"⟩, prog_1_method_28_code, (Option.some FieldType.int), 11, 1)
  | 33 => some (⟨"TwoHeads", "far", "(II)I"⟩, prog_1_method_3_code, (Option.some FieldType.int), 11, 1)
  | 34 => some (⟨"TwoHeads", "feed", "(IJ)I"⟩, prog_1_method_15_code, (Option.some FieldType.int), 11, 1)
  | 35 => some (⟨"TwoHeads", "felled", "(II)I"⟩, prog_1_method_20_code, (Option.some FieldType.int), 11, 1)
  | 36 => some (⟨"TwoHeads", "goTogether", "([II)Z"⟩, prog_1_method_57_code, (Option.some FieldType.boolean), 11, 0)
  | 37 => some (⟨"TwoHeads", "hang", "(II)I"⟩, prog_1_method_12_code, (Option.some FieldType.int), 11, 1)
  | 38 => some (⟨"TwoHeads", "has", "(II)Z"⟩, prog_1_method_55_code, (Option.some FieldType.boolean), 11, 0)
  | 39 => some (⟨"TwoHeads", "inForce", "(II)I"⟩, prog_1_method_21_code, (Option.some FieldType.int), 11, 1)
  | 40 => some (⟨"TwoHeads", "<init>", "()V"⟩, prog_1_method_1_code, none, 11, 2)
  | 41 => some (⟨"TwoHeads", "isAct", "(I)Z"⟩, prog_1_method_52_code, (Option.some FieldType.boolean), 11, 1)
  | 42 => some (⟨"TwoHeads", "isClause", "(I)Z"⟩, prog_1_method_53_code, (Option.some FieldType.boolean), 11, 1)
  | 43 => some (⟨"TwoHeads", "isDay", "(I)Z"⟩, prog_1_method_47_code, (Option.some FieldType.boolean), 11, 0)
  | 44 => some (⟨"TwoHeads", "isLand", "(I)Z"⟩, prog_1_method_46_code, (Option.some FieldType.boolean), 11, 0)
  | 45 => some (⟨"TwoHeads", "isOffice", "(I)Z"⟩, prog_1_method_49_code, (Option.some FieldType.boolean), 11, 0)
  | 46 => some (⟨"TwoHeads", "isPerson", "(I)Z"⟩, prog_1_method_51_code, (Option.some FieldType.boolean), 11, 1)
  | 47 => some (⟨"TwoHeads", "isSheet", "(I)Z"⟩, prog_1_method_50_code, (Option.some FieldType.boolean), 11, 0)
  | 48 => some (⟨"TwoHeads", "isSide", "(I)Z"⟩, prog_1_method_48_code, (Option.some FieldType.boolean), 11, 0)
  | 49 => some (⟨"TwoHeads", "isUnder", "(II)Z"⟩, prog_1_method_54_code, (Option.some FieldType.boolean), 11, 0)
  | 50 => some (⟨"TwoHeads", "isWithin", "(III)Z"⟩, prog_1_method_45_code, (Option.some FieldType.boolean), 11, 0)
  | 51 => some (⟨"TwoHeads", "journey", "(III)I"⟩, prog_1_method_38_code, (Option.some FieldType.int), 11, 1)
  | 52 => some (⟨"TwoHeads", "known", "(II)I"⟩, prog_1_method_24_code, (Option.some FieldType.int), 11, 1)
  | 53 => some (⟨"TwoHeads", "lift", "(II)I"⟩, prog_1_method_13_code, (Option.some FieldType.int), 11, 1)
  | 54 => some (⟨"TwoHeads", "office", "(II)I"⟩, prog_1_method_5_code, (Option.some FieldType.int), 11, 1)
  | 55 => some (⟨"TwoHeads", "officeTold", "(II)I"⟩, prog_1_method_7_code, (Option.some FieldType.int), 11, 1)
  | 56 => some (⟨"TwoHeads", "owed", "(II)J"⟩, prog_1_method_27_code, (Option.some FieldType.long), 11, 1)
  | 57 => some (⟨"TwoHeads", "pay", "(IIII)I"⟩, prog_1_method_26_code, (Option.some FieldType.int), 11, 1)
  | 58 => some (⟨"TwoHeads", "person", "(I)I"⟩, prog_1_method_4_code, (Option.some FieldType.int), 11, 1)
  | 59 => some (⟨"TwoHeads", "quarrels", "(I)I"⟩, prog_1_method_23_code, (Option.some FieldType.int), 11, 1)
  | 60 => some (⟨"TwoHeads", "road", "(III)I"⟩, prog_1_method_2_code, (Option.some FieldType.int), 11, 1)
  | 61 => some (⟨"TwoHeads", "rule", "(II)I"⟩, prog_1_method_17_code, (Option.some FieldType.int), 11, 1)
  | 62 => some (⟨"TwoHeads", "says", "(III)J"⟩, prog_1_method_18_code, (Option.some FieldType.long), 11, 1)
  | 63 => some (⟨"TwoHeads", "seat", "(II)I"⟩, prog_1_method_6_code, (Option.some FieldType.int), 11, 1)
  | 64 => some (⟨"TwoHeads", "seats", "(II)I"⟩, prog_1_method_31_code, (Option.some FieldType.int), 11, 1)
  | 65 => some (⟨"TwoHeads", "seatsRow", "(IIII)I"⟩, prog_1_method_43_code, (Option.some FieldType.int), 11, 1)
  | 66 => some (⟨"TwoHeads", "setApart", "([III)I"⟩, prog_1_method_58_code, (Option.some FieldType.int), 11, 0)
  | 67 => some (⟨"TwoHeads", "settling", "(II)I"⟩, prog_1_method_36_code, (Option.some FieldType.int), 11, 1)
  | 68 => some (⟨"TwoHeads", "sheet", "(III)I"⟩, prog_1_method_40_code, (Option.some FieldType.int), 11, 1)
  | 69 => some (⟨"TwoHeads", "side", "(II)I"⟩, prog_1_method_9_code, (Option.some FieldType.int), 11, 1)
  | 70 => some (⟨"TwoHeads", "sumOver", "([II)I"⟩, prog_1_method_56_code, (Option.some FieldType.int), 11, 0)
  | 71 => some (⟨"TwoHeads", "taken", "(II)I"⟩, prog_1_method_44_code, (Option.some FieldType.int), 11, 1)
  | 72 => some (⟨"TwoHeads", "text", "()I"⟩, prog_1_method_16_code, (Option.some FieldType.int), 11, 1)
  | 73 => some (⟨"TwoHeads", "turn", "(III)I"⟩, prog_1_method_8_code, (Option.some FieldType.int), 11, 1)
  | 74 => some (⟨"TwoHeads", "worth", "(III)I"⟩, prog_1_method_34_code, (Option.some FieldType.int), 11, 1)
  | 75 => some (⟨"TwoHeadsModel", "act", "(IIIII)I"⟩, prog_14_method_22_code, (Option.some FieldType.int), 12, 1)
  | 76 => some (⟨"TwoHeadsModel", "actTold", "(II)I"⟩, prog_14_method_28_code, (Option.some FieldType.int), 12, 1)
  | 77 => some (⟨"TwoHeadsModel", "acts", "(II)I"⟩, prog_14_method_57_code, (Option.some FieldType.int), 12, 1)
  | 78 => some (⟨"TwoHeadsModel", "against", "(II)I"⟩, prog_14_method_82_code, (Option.some FieldType.int), 12, 1)
  | 79 => some (⟨"TwoHeadsModel", "ahead", "(Z)Z"⟩, prog_14_method_42_code, (Option.some FieldType.boolean), 12, 1)
  | 80 => some (⟨"TwoHeadsModel", "ask", "(III)I"⟩, prog_14_method_50_code, (Option.some FieldType.int), 12, 1)
  | 81 => some (⟨"TwoHeadsModel", "both", "(III)I"⟩, prog_14_method_48_code, (Option.some FieldType.int), 12, 1)
  | 82 => some (⟨"TwoHeadsModel", "bought", "(I)I"⟩, prog_14_method_75_code, (Option.some FieldType.int), 12, 1)
  | 83 => some (⟨"TwoHeadsModel", "bound", "(II)I"⟩, prog_14_method_88_code, (Option.some FieldType.int), 12, 1)
  | 84 => some (⟨"TwoHeadsModel", "byRight", "(III)I"⟩, prog_14_method_63_code, (Option.some FieldType.int), 12, 1)
  | 85 => some (⟨"TwoHeadsModel", "canBuy", "(I)Z"⟩, prog_14_method_74_code, (Option.some FieldType.boolean), 12, 1)
  | 86 => some (⟨"TwoHeadsModel", "cell", "(III)I"⟩, prog_14_method_95_code, (Option.some FieldType.int), 12, 1)
  | 87 => some (⟨"TwoHeadsModel", "changed", "(III)I"⟩, prog_14_method_20_code, (Option.some FieldType.int), 12, 1)
  | 88 => some (⟨"TwoHeadsModel", "clash", "(II)I"⟩, prog_14_method_72_code, (Option.some FieldType.int), 12, 1)
  | 89 => some (⟨"TwoHeadsModel", "clause", "(I)I"⟩, prog_14_method_80_code, (Option.some FieldType.int), 12, 1)
  | 90 => some (⟨"TwoHeadsModel", "copy", "(IIIII)I"⟩, prog_14_method_96_code, (Option.some FieldType.int), 12, 1)
  | 91 => some (⟨"TwoHeadsModel", "council", "(IIII)I"⟩, prog_14_method_78_code, (Option.some FieldType.int), 12, 1)
  | 92 => some (⟨"TwoHeadsModel", "count", "(I)I"⟩, prog_14_method_92_code, (Option.some FieldType.int), 12, 1)
  | 93 => some (⟨"TwoHeadsModel", "crossed", "(II)I"⟩, prog_14_method_68_code, (Option.some FieldType.int), 12, 1)
  | 94 => some (⟨"TwoHeadsModel", "elector", "(II)I"⟩, prog_14_method_71_code, (Option.some FieldType.int), 12, 1)
  | 95 => some (⟨"TwoHeadsModel", "far", "(II)I"⟩, prog_14_method_8_code, (Option.some FieldType.int), 12, 1)
  | 96 => some (⟨"TwoHeadsModel", "feed", "(IJ)I"⟩, prog_14_method_30_code, (Option.some FieldType.int), 12, 1)
  | 97 => some (⟨"TwoHeadsModel", "felled", "(II)I"⟩, prog_14_method_58_code, (Option.some FieldType.int), 12, 1)
  | 98 => some (⟨"TwoHeadsModel", "findFar", "()V"⟩, prog_14_method_7_code, none, 12, 1)
  | 99 => some (⟨"TwoHeadsModel", "firmOf", "(II)I"⟩, prog_14_method_55_code, (Option.some FieldType.int), 12, 1)
  | 100 => some (⟨"TwoHeadsModel", "goTogether", "(I)Z"⟩, prog_14_method_85_code, (Option.some FieldType.boolean), 12, 1)
  | 101 => some (⟨"TwoHeadsModel", "goodBy", "(I)I"⟩, prog_14_method_56_code, (Option.some FieldType.int), 12, 1)
  | 102 => some (⟨"TwoHeadsModel", "goodOf", "(II)I"⟩, prog_14_method_54_code, (Option.some FieldType.int), 12, 1)
  | 103 => some (⟨"TwoHeadsModel", "hang", "(II)I"⟩, prog_14_method_24_code, (Option.some FieldType.int), 12, 1)
  | 104 => some (⟨"TwoHeadsModel", "hold", "(I)V"⟩, prog_14_method_41_code, none, 12, 1)
  | 105 => some (⟨"TwoHeadsModel", "in", "(III)Z"⟩, prog_14_method_1_code, (Option.some FieldType.boolean), 12, 1)
  | 106 => some (⟨"TwoHeadsModel", "inForce", "(II)I"⟩, prog_14_method_61_code, (Option.some FieldType.int), 12, 1)
  | 107 => some (⟨"TwoHeadsModel", "<init>", "()V"⟩, prog_14_method_2_code, none, 12, 2)
  | 108 => some (⟨"TwoHeadsModel", "isAct", "(I)Z"⟩, prog_14_method_21_code, (Option.some FieldType.boolean), 12, 1)
  | 109 => some (⟨"TwoHeadsModel", "isBetter", "(III)Z"⟩, prog_14_method_86_code, (Option.some FieldType.boolean), 12, 1)
  | 110 => some (⟨"TwoHeadsModel", "isClause", "(I)Z"⟩, prog_14_method_79_code, (Option.some FieldType.boolean), 12, 1)
  | 111 => some (⟨"TwoHeadsModel", "isDay", "(I)Z"⟩, prog_14_method_4_code, (Option.some FieldType.boolean), 12, 1)
  | 112 => some (⟨"TwoHeadsModel", "isDigit", "(I)Z"⟩, prog_14_method_32_code, (Option.some FieldType.boolean), 12, 1)
  | 113 => some (⟨"TwoHeadsModel", "isKey", "(I)Z"⟩, prog_14_method_36_code, (Option.some FieldType.boolean), 12, 1)
  | 114 => some (⟨"TwoHeadsModel", "isLand", "(I)Z"⟩, prog_14_method_3_code, (Option.some FieldType.boolean), 12, 1)
  | 115 => some (⟨"TwoHeadsModel", "isLetter", "(I)Z"⟩, prog_14_method_31_code, (Option.some FieldType.boolean), 12, 1)
  | 116 => some (⟨"TwoHeadsModel", "isOffice", "(I)Z"⟩, prog_14_method_10_code, (Option.some FieldType.boolean), 12, 1)
  | 117 => some (⟨"TwoHeadsModel", "isOn", "(II)Z"⟩, prog_14_method_59_code, (Option.some FieldType.boolean), 12, 1)
  | 118 => some (⟨"TwoHeadsModel", "isPerson", "(I)Z"⟩, prog_14_method_9_code, (Option.some FieldType.boolean), 12, 1)
  | 119 => some (⟨"TwoHeadsModel", "isSheet", "(I)Z"⟩, prog_14_method_93_code, (Option.some FieldType.boolean), 12, 1)
  | 120 => some (⟨"TwoHeadsModel", "isSide", "(I)Z"⟩, prog_14_method_5_code, (Option.some FieldType.boolean), 12, 1)
  | 121 => some (⟨"TwoHeadsModel", "isSign", "(I)Z"⟩, prog_14_method_37_code, (Option.some FieldType.boolean), 12, 1)
  | 122 => some (⟨"TwoHeadsModel", "isText", "()Z"⟩, prog_14_method_45_code, (Option.some FieldType.boolean), 12, 1)
  | 123 => some (⟨"TwoHeadsModel", "isTurn", "(III)Z"⟩, prog_14_method_15_code, (Option.some FieldType.boolean), 12, 1)
  | 124 => some (⟨"TwoHeadsModel", "isUnder", "(II)Z"⟩, prog_14_method_98_code, (Option.some FieldType.boolean), 12, 1)
  | 125 => some (⟨"TwoHeadsModel", "isWord", "(J)Z"⟩, prog_14_method_33_code, (Option.some FieldType.boolean), 12, 1)
  | 126 => some (⟨"TwoHeadsModel", "journey", "(III)I"⟩, prog_14_method_91_code, (Option.some FieldType.int), 12, 1)
  | 127 => some (⟨"TwoHeadsModel", "knew", "(II)Z"⟩, prog_14_method_67_code, (Option.some FieldType.boolean), 12, 1)
  | 128 => some (⟨"TwoHeadsModel", "known", "(II)I"⟩, prog_14_method_66_code, (Option.some FieldType.int), 12, 1)
  | 129 => some (⟨"TwoHeadsModel", "knownIn", "(II)I"⟩, prog_14_method_65_code, (Option.some FieldType.int), 12, 1)
  | 130 => some (⟨"TwoHeadsModel", "lastsOf", "(I)I"⟩, prog_14_method_27_code, (Option.some FieldType.int), 12, 1)
  | 131 => some (⟨"TwoHeadsModel", "lift", "(II)I"⟩, prog_14_method_25_code, (Option.some FieldType.int), 12, 1)
  | 132 => some (⟨"TwoHeadsModel", "namingOf", "(III)I"⟩, prog_14_method_60_code, (Option.some FieldType.int), 12, 1)
  | 133 => some (⟨"TwoHeadsModel", "next", "()V"⟩, prog_14_method_35_code, none, 12, 1)
  | 134 => some (⟨"TwoHeadsModel", "nextOrder", "()Z"⟩, prog_14_method_90_code, (Option.some FieldType.boolean), 12, 1)
  | 135 => some (⟨"TwoHeadsModel", "note", "(III)V"⟩, prog_14_method_16_code, none, 12, 1)
  | 136 => some (⟨"TwoHeadsModel", "office", "(II)I"⟩, prog_14_method_12_code, (Option.some FieldType.int), 12, 1)
  | 137 => some (⟨"TwoHeadsModel", "officeTold", "(II)I"⟩, prog_14_method_14_code, (Option.some FieldType.int), 12, 1)
  | 138 => some (⟨"TwoHeadsModel", "ones", "(I)I"⟩, prog_14_method_23_code, (Option.some FieldType.int), 12, 1)
  | 139 => some (⟨"TwoHeadsModel", "owed", "(II)J"⟩, prog_14_method_70_code, (Option.some FieldType.long), 12, 1)
  | 140 => some (⟨"TwoHeadsModel", "part", "()Z"⟩, prog_14_method_44_code, (Option.some FieldType.boolean), 12, 1)
  | 141 => some (⟨"TwoHeadsModel", "pay", "(IIII)I"⟩, prog_14_method_69_code, (Option.some FieldType.int), 12, 1)
  | 142 => some (⟨"TwoHeadsModel", "person", "(I)I"⟩, prog_14_method_11_code, (Option.some FieldType.int), 12, 1)
  | 143 => some (⟨"TwoHeadsModel", "priceOf", "(I)I"⟩, prog_14_method_73_code, (Option.some FieldType.int), 12, 1)
  | 144 => some (⟨"TwoHeadsModel", "put", "(I)V"⟩, prog_14_method_38_code, none, 12, 1)
  | 145 => some (⟨"TwoHeadsModel", "quarrels", "(I)I"⟩, prog_14_method_64_code, (Option.some FieldType.int), 12, 1)
  | 146 => some (⟨"TwoHeadsModel", "rank", "(I)I"⟩, prog_14_method_39_code, (Option.some FieldType.int), 12, 1)
  | 147 => some (⟨"TwoHeadsModel", "rankOf", "(I)I"⟩, prog_14_method_26_code, (Option.some FieldType.int), 12, 1)
  | 148 => some (⟨"TwoHeadsModel", "rightOf", "(III)I"⟩, prog_14_method_62_code, (Option.some FieldType.int), 12, 1)
  | 149 => some (⟨"TwoHeadsModel", "road", "(III)I"⟩, prog_14_method_6_code, (Option.some FieldType.int), 12, 1)
  | 150 => some (⟨"TwoHeadsModel", "rule", "(II)I"⟩, prog_14_method_47_code, (Option.some FieldType.int), 12, 1)
  | 151 => some (⟨"TwoHeadsModel", "ruleZero", "()V"⟩, prog_14_method_29_code, none, 12, 1)
  | 152 => some (⟨"TwoHeadsModel", "savedBy", "(I)I"⟩, prog_14_method_53_code, (Option.some FieldType.int), 12, 1)
  | 153 => some (⟨"TwoHeadsModel", "says", "(III)J"⟩, prog_14_method_51_code, (Option.some FieldType.long), 12, 1)
  | 154 => some (⟨"TwoHeadsModel", "seat", "(II)I"⟩, prog_14_method_13_code, (Option.some FieldType.int), 12, 1)
  | 155 => some (⟨"TwoHeadsModel", "seats", "(II)I"⟩, prog_14_method_76_code, (Option.some FieldType.int), 12, 1)
  | 156 => some (⟨"TwoHeadsModel", "seatsOf", "(III)I"⟩, prog_14_method_77_code, (Option.some FieldType.int), 12, 1)
  | 157 => some (⟨"TwoHeadsModel", "seatsRow", "(IIII)I"⟩, prog_14_method_97_code, (Option.some FieldType.int), 12, 1)
  | 158 => some (⟨"TwoHeadsModel", "settle", "(I)V"⟩, prog_14_method_40_code, none, 12, 1)
  | 159 => some (⟨"TwoHeadsModel", "settling", "(II)I"⟩, prog_14_method_87_code, (Option.some FieldType.int), 12, 1)
  | 160 => some (⟨"TwoHeadsModel", "sheet", "(III)I"⟩, prog_14_method_94_code, (Option.some FieldType.int), 12, 1)
  | 161 => some (⟨"TwoHeadsModel", "side", "(II)I"⟩, prog_14_method_19_code, (Option.some FieldType.int), 12, 1)
  | 162 => some (⟨"TwoHeadsModel", "sideOf", "(II)I"⟩, prog_14_method_18_code, (Option.some FieldType.int), 12, 1)
  | 163 => some (⟨"TwoHeadsModel", "signOf", "()I"⟩, prog_14_method_43_code, (Option.some FieldType.int), 12, 1)
  | 164 => some (⟨"TwoHeadsModel", "soundBy", "(I)I"⟩, prog_14_method_52_code, (Option.some FieldType.int), 12, 1)
  | 165 => some (⟨"TwoHeadsModel", "taken", "(II)I"⟩, prog_14_method_99_code, (Option.some FieldType.int), 12, 1)
  | 166 => some (⟨"TwoHeadsModel", "takersOf", "(I)I"⟩, prog_14_method_83_code, (Option.some FieldType.int), 12, 1)
  | 167 => some (⟨"TwoHeadsModel", "text", "()I"⟩, prog_14_method_46_code, (Option.some FieldType.int), 12, 1)
  | 168 => some (⟨"TwoHeadsModel", "turn", "(III)I"⟩, prog_14_method_17_code, (Option.some FieldType.int), 12, 1)
  | 169 => some (⟨"TwoHeadsModel", "undoneBy", "(II)I"⟩, prog_14_method_84_code, (Option.some FieldType.int), 12, 1)
  | 170 => some (⟨"TwoHeadsModel", "wonBy", "(I)I"⟩, prog_14_method_89_code, (Option.some FieldType.int), 12, 1)
  | 171 => some (⟨"TwoHeadsModel", "wordToken", "()V"⟩, prog_14_method_34_code, none, 12, 1)
  | 172 => some (⟨"TwoHeadsModel", "work", "(II)I"⟩, prog_14_method_49_code, (Option.some FieldType.int), 12, 1)
  | 173 => some (⟨"TwoHeadsModel", "worth", "(III)I"⟩, prog_14_method_81_code, (Option.some FieldType.int), 12, 1)
  | 174 => some (⟨"TwoHeads$Court", "addText", "(LTwoHeads$Formula;LTwoHeads$Formula;)I"⟩, prog_3_method_2_code, (Option.some FieldType.int), 1, 1)
  | 175 => some (⟨"TwoHeads$Court", "changedBy", "(III)I"⟩, prog_3_method_16_code, (Option.some FieldType.int), 1, 1)
  | 176 => some (⟨"TwoHeads$Court", "firmAmong", "(II)I"⟩, prog_3_method_9_code, (Option.some FieldType.int), 1, 1)
  | 177 => some (⟨"TwoHeads$Court", "forceOn", "(II)I"⟩, prog_3_method_11_code, (Option.some FieldType.int), 1, 1)
  | 178 => some (⟨"TwoHeads$Court", "goodAmong", "(II)I"⟩, prog_3_method_8_code, (Option.some FieldType.int), 1, 1)
  | 179 => some (⟨"TwoHeads$Court", "goodUnder", "(I)I"⟩, prog_3_method_7_code, (Option.some FieldType.int), 1, 1)
  | 180 => some (⟨"TwoHeads$Court", "hangingWithin", "(I)I"⟩, prog_3_method_10_code, (Option.some FieldType.int), 1, 1)
  | 181 => some (⟨"TwoHeads$Court", "<init>", "(LTwoHeads$Lands;LTwoHeads$People;LTwoHeads$Deeds;)V"⟩, prog_3_method_1_code, none, 1, 2)
  | 182 => some (⟨"TwoHeads$Court", "knewOf", "(II)Z"⟩, prog_3_method_15_code, (Option.some FieldType.boolean), 1, 1)
  | 183 => some (⟨"TwoHeads$Court", "knownFrom", "(II)I"⟩, prog_3_method_14_code, (Option.some FieldType.int), 1, 1)
  | 184 => some (⟨"TwoHeads$Court", "landOf", "(I)I"⟩, prog_3_method_3_code, (Option.some FieldType.int), 1, 1)
  | 185 => some (⟨"TwoHeads$Court", "namingOn", "(III)I"⟩, prog_3_method_13_code, (Option.some FieldType.int), 1, 1)
  | 186 => some (⟨"TwoHeads$Court", "rightful", "(III)I"⟩, prog_3_method_12_code, (Option.some FieldType.int), 1, 1)
  | 187 => some (⟨"TwoHeads$Court", "tellsApart", "(III)Z"⟩, prog_3_method_17_code, (Option.some FieldType.boolean), 1, 1)
  | 188 => some (⟨"TwoHeads$Court", "trueUnder", "(II)I"⟩, prog_3_method_6_code, (Option.some FieldType.int), 1, 1)
  | 189 => some (⟨"TwoHeads$Court", "valueIfHeld", "(IIII)I"⟩, prog_3_method_5_code, (Option.some FieldType.int), 1, 1)
  | 190 => some (⟨"TwoHeads$Court", "valueOf", "(III)I"⟩, prog_3_method_4_code, (Option.some FieldType.int), 1, 1)
  | 191 => some (⟨"TwoHeads$Deeds", "add", "(IIIII)I"⟩, prog_4_method_2_code, (Option.some FieldType.int), 2, 1)
  | 192 => some (⟨"TwoHeads$Deeds", "<init>", "()V"⟩, prog_4_method_1_code, none, 2, 2)
  | 193 => some (⟨"TwoHeads$Deeds", "lastsFor", "(I)I"⟩, prog_4_method_4_code, (Option.some FieldType.int), 2, 1)
  | 194 => some (⟨"TwoHeads$Deeds", "rankOf", "(I)I"⟩, prog_4_method_3_code, (Option.some FieldType.int), 2, 1)
  | 195 => some (⟨"TwoHeads$Deeds", "runsOn", "(II)Z"⟩, prog_4_method_5_code, (Option.some FieldType.boolean), 2, 1)
  | 196 => some (⟨"TwoHeads$Deeds", "tell", "(II)I"⟩, prog_4_method_6_code, (Option.some FieldType.int), 2, 1)
  | 197 => some (⟨"TwoHeads$Electors", "add", "(II)I"⟩, prog_5_method_2_code, (Option.some FieldType.int), 3, 1)
  | 198 => some (⟨"TwoHeads$Electors", "cheapest", "()I"⟩, prog_5_method_3_code, (Option.some FieldType.int), 3, 1)
  | 199 => some (⟨"TwoHeads$Electors", "<init>", "()V"⟩, prog_5_method_1_code, none, 3, 2)
  | 200 => some (⟨"TwoHeads$Envoys", "giveUp", "(III)V"⟩, prog_6_method_5_code, none, 4, 1)
  | 201 => some (⟨"TwoHeads$Envoys", "goOn", "(IIIII)V"⟩, prog_6_method_3_code, none, 4, 1)
  | 202 => some (⟨"TwoHeads$Envoys", "<init>", "(LTwoHeads$Lands;)V"⟩, prog_6_method_1_code, none, 4, 2)
  | 203 => some (⟨"TwoHeads$Envoys", "keep", "(I)V"⟩, prog_6_method_6_code, none, 4, 1)
  | 204 => some (⟨"TwoHeads$Envoys", "mayBeWon", "(III)I"⟩, prog_6_method_4_code, (Option.some FieldType.int), 4, 1)
  | 205 => some (⟨"TwoHeads$Envoys", "plan", "(II)V"⟩, prog_6_method_2_code, none, 4, 1)
  | 206 => some (⟨"TwoHeads$Formula", "<init>", "([I)V"⟩, prog_7_method_1_code, none, 5, 2)
  | 207 => some (⟨"TwoHeads$Formula", "joined", "(III)I"⟩, prog_7_method_3_code, (Option.some FieldType.int), 5, 0)
  | 208 => some (⟨"TwoHeads$Formula", "valueFor", "([I[I)I"⟩, prog_7_method_2_code, (Option.some FieldType.int), 5, 1)
  | 209 => some (⟨"TwoHeads$Lands", "addTurn", "(III)I"⟩, prog_8_method_4_code, (Option.some FieldType.int), 6, 1)
  | 210 => some (⟨"TwoHeads$Lands", "call", "(III)I"⟩, prog_8_method_10_code, (Option.some FieldType.int), 6, 1)
  | 211 => some (⟨"TwoHeads$Lands", "holdingToOne", "(I)I"⟩, prog_8_method_9_code, (Option.some FieldType.int), 6, 1)
  | 212 => some (⟨"TwoHeads$Lands", "<init>", "()V"⟩, prog_8_method_1_code, none, 6, 2)
  | 213 => some (⟨"TwoHeads$Lands", "lay", "(III)V"⟩, prog_8_method_2_code, none, 6, 1)
  | 214 => some (⟨"TwoHeads$Lands", "measure", "()V"⟩, prog_8_method_3_code, none, 6, 1)
  | 215 => some (⟨"TwoHeads$Lands", "sideIfTurned", "(IIII)I"⟩, prog_8_method_7_code, (Option.some FieldType.int), 6, 1)
  | 216 => some (⟨"TwoHeads$Lands", "sideOn", "(II)I"⟩, prog_8_method_6_code, (Option.some FieldType.int), 6, 1)
  | 217 => some (⟨"TwoHeads$Lands", "turnOn", "(II)I"⟩, prog_8_method_5_code, (Option.some FieldType.int), 6, 1)
  | 218 => some (⟨"TwoHeads$Lands", "within", "(II)I"⟩, prog_8_method_8_code, (Option.some FieldType.int), 6, 1)
  | 219 => some (⟨"TwoHeads$People", "<init>", "()V"⟩, prog_9_method_1_code, none, 7, 2)
  | 220 => some (⟨"TwoHeads$Reader", "advance", "()V"⟩, prog_10_method_24_code, none, 8, 1)
  | 221 => some (⟨"TwoHeads$Reader", "append", "(IJ)V"⟩, prog_10_method_2_code, none, 8, 1)
  | 222 => some (⟨"TwoHeads$Reader", "expect", "(I)V"⟩, prog_10_method_23_code, none, 8, 1)
  | 223 => some (⟨"TwoHeads$Reader", "fail", "()V"⟩, prog_10_method_25_code, none, 8, 1)
  | 224 => some (⟨"TwoHeads$Reader", "findNumber", "(I)I"⟩, prog_10_method_7_code, (Option.some FieldType.int), 8, 1)
  | 225 => some (⟨"TwoHeads$Reader", "findToken", "(I)I"⟩, prog_10_method_6_code, (Option.some FieldType.int), 8, 1)
  | 226 => some (⟨"TwoHeads$Reader", "findTokens", "()V"⟩, prog_10_method_4_code, none, 8, 1)
  | 227 => some (⟨"TwoHeads$Reader", "findWord", "(I)I"⟩, prog_10_method_8_code, (Option.some FieldType.int), 8, 1)
  | 228 => some (⟨"TwoHeads$Reader", "<init>", "()V"⟩, prog_10_method_1_code, none, 8, 2)
  | 229 => some (⟨"TwoHeads$Reader", "isDigit", "(B)Z"⟩, prog_10_method_13_code, (Option.some FieldType.boolean), 8, 0)
  | 230 => some (⟨"TwoHeads$Reader", "isLetter", "(B)Z"⟩, prog_10_method_12_code, (Option.some FieldType.boolean), 8, 0)
  | 231 => some (⟨"TwoHeads$Reader", "isSign", "(B)Z"⟩, prog_10_method_14_code, (Option.some FieldType.boolean), 8, 0)
  | 232 => some (⟨"TwoHeads$Reader", "keyFrom", "(I)I"⟩, prog_10_method_10_code, (Option.some FieldType.int), 8, 1)
  | 233 => some (⟨"TwoHeads$Reader", "mayOpen", "(I)Z"⟩, prog_10_method_22_code, (Option.some FieldType.boolean), 8, 1)
  | 234 => some (⟨"TwoHeads$Reader", "nameFrom", "(I)I"⟩, prog_10_method_9_code, (Option.some FieldType.int), 8, 1)
  | 235 => some (⟨"TwoHeads$Reader", "readBoth", "(I)V"⟩, prog_10_method_17_code, none, 8, 1)
  | 236 => some (⟨"TwoHeads$Reader", "readEither", "(I)V"⟩, prog_10_method_16_code, none, 8, 1)
  | 237 => some (⟨"TwoHeads$Reader", "readNot", "(I)V"⟩, prog_10_method_18_code, none, 8, 1)
  | 238 => some (⟨"TwoHeads$Reader", "readOne", "(I)V"⟩, prog_10_method_21_code, none, 8, 1)
  | 239 => some (⟨"TwoHeads$Reader", "readPart", "(I)LTwoHeads$Formula;"⟩, prog_10_method_15_code, (Option.some (FieldType.object "TwoHeads$Formula")), 8, 1)
  | 240 => some (⟨"TwoHeads$Reader", "readSum", "(I)V"⟩, prog_10_method_19_code, none, 8, 1)
  | 241 => some (⟨"TwoHeads$Reader", "readTape", "()I"⟩, prog_10_method_3_code, (Option.some FieldType.int), 8, 1)
  | 242 => some (⟨"TwoHeads$Reader", "readTerm", "(I)V"⟩, prog_10_method_20_code, none, 8, 1)
  | 243 => some (⟨"TwoHeads$Reader", "skipBlanks", "()V"⟩, prog_10_method_5_code, none, 8, 1)
  | 244 => some (⟨"TwoHeads$Reader", "spells", "(ILjava/lang/String;)Z"⟩, prog_10_method_11_code, (Option.some FieldType.boolean), 8, 1)
  | 245 => some (⟨"TwoHeads$Reader", "write", "(I)V"⟩, prog_10_method_26_code, none, 8, 1)
  | 246 => some (⟨"TwoHeads$Rents", "add", "(IIII)I"⟩, prog_11_method_2_code, (Option.some FieldType.int), 9, 1)
  | 247 => some (⟨"TwoHeads$Rents", "<init>", "()V"⟩, prog_11_method_1_code, none, 9, 2)
  | 248 => some (⟨"TwoHeads$Rents", "owedAgain", "(LTwoHeads$Court;II)J"⟩, prog_11_method_3_code, (Option.some FieldType.long), 9, 1)
  | _ => none
def am_cN (oc : Nat) (y : MethodName) (idx : Nat) : Bool := decide (am_lk oc idx = some (.methodLink (am_own oc) idx y)) || decide (am_lk oc idx = some (.methodLinkNest (am_own oc) idx y "TwoHeads"))
def am_np (y : MethodName) : Option Nat := (parseMethodDescriptor y.desc).map (fun d => d.parameters.length)
/-- one instruction: the raw one of the bytes, the resolved one of the table -/
def am_ck2 (oc : Nat) (raw res : Instr) : Bool := match res with
  | .getfield z => (match raw with
    | .getfield idx => (match vwCl[z / 64]? with
      | some q => decide (z % 64 < q.2.2) && decide (am_lk oc idx = some (.fieldLink (am_own oc) idx (q.2.1 (z % 64)).1 (q.2.1 (z % 64)).2.1 (q.2.1 (z % 64)).2.2.1))
      | none => false)
    | _ => false)
  | .putfield z => (match raw with
    | .putfield idx => (match vwCl[z / 64]? with
      | some q => decide (z % 64 < q.2.2) && decide (am_lk oc idx = some (.fieldLink (am_own oc) idx (q.2.1 (z % 64)).1 (q.2.1 (z % 64)).2.1 (q.2.1 (z % 64)).2.2.1))
      | none => false)
    | _ => false)
  | .new z => (match raw with
    | .new idx => (match vwCl[z]? with
      | some q => decide (am_lk oc idx = some (.classLink (am_own oc) idx q.1))
      | none => false)
    | _ => false)
  | .anewarray z => (match raw with
    | .anewarray idx => (decide (z = 4) && decide (am_lk oc idx = some (.classLink (am_own oc) idx RX5))) || (decide (z = 5) && decide (am_lk oc idx = some (.classLink (am_own oc) idx RX10)))
    | _ => false)
  | .multianewarray _ _ => (match raw with
    | .multianewarray idx n => decide (n = 2) && decide (am_lk oc idx = some (.classLink (am_own oc) idx "[[I"))
    | _ => false)
  | .getstatic z => (match raw with
    | .getstatic idx => decide (z < 3) && (decide (am_lk oc idx = some (.fieldLink (am_own oc) idx "TwoHeads" (am_stn z) "[I")) || decide (am_lk oc idx = some (.fieldLinkNest (am_own oc) idx "TwoHeads" (am_stn z) "[I" "TwoHeads")))
    | _ => false)
  | .ldc z => (match raw with
    | .ldc idx => decide (z < 11) && decide (idx = am_sti z) && decide (oc = 8)
    | _ => false)
  | .ldc_w z => (match raw with
    | .ldc_w idx => decide (am_lk oc idx = some (.constant (am_own oc) idx (Int32.ofNat z)))
    | _ => false)
  | .ldc2_w z => (match raw with
    | .ldc2_w idx => decide (am_lk oc idx = some (.constantLong (am_own oc) idx (Int64.ofNat z)))
    | _ => false)
  | .checkcast _ => (match raw with
    | .checkcast idx => decide (am_lk oc idx = some (.classLink (am_own oc) idx "[I"))
    | _ => false)
  | .invokedynamic z => (match raw with
    | .invokestatic idx => (decide (z = 0) && decide (am_lk oc idx = some (.methodLink (am_own oc) idx arraycopyName))) || (decide (z = 4) && decide (am_lk oc idx = some (.methodLink (am_own oc) idx Lib.Math.min.name)))
    | .invokevirtual idx => (decide (z = 1) && decide (am_lk oc idx = some (.methodLink (am_own oc) idx ⟨"[I", "clone", "()Ljava/lang/Object;"⟩))) || (decide (z = 2) && decide (am_lk oc idx = some (.methodLink (am_own oc) idx yJ0_length_8abf5))) || (decide (z = 3) && decide (am_lk oc idx = some (.methodLink (am_own oc) idx yJ0_charAt_5068e)))
    | _ => false)
  | _ => decide (raw = res)
def am_ck3 (oc : Nat) (raw res : Instr) : Bool := match res with
  | .invokevirtual z => (match raw with
    | .invokevirtual idx => (match am_Y (z / 256) with
      | some q => am_cN oc q.1 idx && decide (am_np q.1 = some (z / 16 % 16 - 1)) && decide (0 < z / 16 % 16) && decide (q.2.2.2.2 = 1) && decide (q.2.2.2.1 = z % 16) && decide (z % 16 < 13) && decide (¬ z / 256 = 5) && decide (¬ z / 256 = 4) && decide (¬ z / 256 = 0)
      | none => false)
    | _ => false)
  | .invokestatic z => (match raw with
    | .invokestatic idx => (match am_Y (z / 256) with
      | some q => am_cN oc q.1 idx && decide (am_np q.1 = some (z / 16 % 16)) && decide (q.2.2.2.2 = 0) && decide (¬ z / 256 = 5) && decide (¬ z / 256 = 4) && decide (¬ z / 256 = 0)
      | none => false)
    | _ => false)
  | .invokespecial z => (match raw with
    | .invokespecial idx => (match am_Y (z / 256) with
      | some q => am_cN oc q.1 idx && decide (am_np q.1 = some (z / 16 % 16 - 1)) && decide (0 < z / 16 % 16) && decide (q.2.2.2.2 = 2) && decide (¬ z / 256 = 5) && decide (¬ z / 256 = 4) && (decide (¬ z / 256 = 0) || decide (am_lk oc idx = some (.methodLink (am_own oc) idx Lib.objectInit)))
      | none => false)
    | _ => false)
  | _ => false
def am_isR (ret : Option FieldType) : Bool := match ret with
  | some (.object _) => true
  | some (.array _) => true
  | _ => false
def am_ck5 (isB : Bool) (ret : Option FieldType) (res : Instr) : Bool := match res with
  | .ireturn => if isB = true then decide (ret = some .boolean) else decide (ret = some .int)
  | .lreturn => decide (ret = some .long)
  | .areturn => am_isR ret
  | .return_ => decide (ret = none)
  | _ => false
def am_ck (oc : Nat) (isB : Bool) (ret : Option FieldType) (raw res : Instr) : Bool := match am_kind res with
  | 0 => decide (raw = res)
  | 1 => decide (raw = res)
  | 2 => am_ck2 oc raw res
  | 3 => am_ck3 oc raw res
  | 4 => am_ck3 oc raw res
  | 5 => am_ck3 oc raw res
  | _ => decide (raw = res) && am_ck5 isB ret res
def am_ckp (oc : Nat) (ret : Option FieldType) (M : am_M) (bytes : ByteArray) (pc : Nat) : Bool := match am_fi M pc with
  | none => true
  | some (res, n) => (match decode bytes pc with
    | .ok (raw, n') => decide (n = n') && (am_isw raw || decide (n = am_ln raw)) && am_ck oc M.2.1 ret raw res
    | .error _ => false)
def am_ckM (oc : Nat) (ret : Option FieldType) (M : am_M) (bytes : ByteArray) (a b : Nat) : Bool := (List.range b).all (fun i => am_ckp oc ret M bytes (a + i))
theorem am_fi_lt {M : am_M} {pc : Nat} {q : Instr × Nat} (h : am_fi M pc = some q) : pc < 16 * M.2.2.length := by
  unfold am_fi at h
  split at h
  · next row hr =>
    have := (List.getElem?_eq_some_iff.mp hr).1
    omega
  · cases h
theorem am_ckM_at {oc : Nat} {ret : Option FieldType} {M : am_M} {bytes : ByteArray} (h : am_ckM oc ret M bytes 0 (16 * M.2.2.length) = true) {pc n : Nat} {res : Instr} (hf : am_fi M pc = some (res, n)) : ∃ raw, decode bytes pc = .ok (raw, n) ∧ (am_isw raw = true ∨ n = am_ln raw) ∧ am_ck oc M.2.1 ret raw res = true := by
  have h1 := List.all_eq_true.mp h pc (List.mem_range.mpr (am_fi_lt hf))
  rw [Nat.zero_add] at h1
  unfold am_ckp at h1
  rw [hf] at h1
  dsimp only at h1
  split at h1
  · next raw n' hd =>
    simp only [Bool.and_eq_true, Bool.or_eq_true, decide_eq_true_eq] at h1
    obtain ⟨⟨rfl, h2⟩, h3⟩ := h1
    exact ⟨raw, hd, h2, h3⟩
  · cases h1
theorem am_ckM_app {oc : Nat} {ret : Option FieldType} {M : am_M} {bytes : ByteArray} {a b c : Nat} (h1 : am_ckM oc ret M bytes a b = true) (h2 : am_ckM oc ret M bytes (a + b) c = true) : am_ckM oc ret M bytes a (b + c) = true := by
  refine List.all_eq_true.mpr (fun i hi => ?_)
  have hi := List.mem_range.mp hi
  by_cases hb : i < b
  · exact List.all_eq_true.mp h1 i (List.mem_range.mpr hb)
  · have := List.all_eq_true.mp h2 (i - b) (List.mem_range.mpr (by omega))
    rw [show a + b + (i - b) = a + i by omega] at this
    exact this
/-- what is known of method k -/
def am_F (k : Nat) (M : am_M) (nL : Nat) : Prop := ∃ (y : MethodName) (bytes : ByteArray) (ret : Option FieldType) (oc fl : Nat), am_Y k = some (y, bytes, ret, oc, fl) ∧ plainName y.cls = true ∧ Cond.code y bytes nL ret ∈ am_G ∧ Cond.initialized y.cls ∈ am_G ∧ (y.cls ≠ "java/lang/invoke/MethodHandle" ∧ y.cls ≠ "java/lang/invoke/VarHandle") ∧ nL ≤ 21 ∧ y.cls = am_own oc ∧ am_ckM oc ret M bytes 0 (16 * M.2.2.length) = true ∧ (M.1 < 13 → y.name = "<init>" ∧ y.cls = am_own M.1) ∧ ((fl = 0 ∧ Cond.static y ∈ am_G) ∨ (fl = 1 ∧ Cond.instanceMethod y ∈ am_G ∧ Cond.selects y.cls y y ∈ am_G) ∨ (fl = 2 ∧ Cond.instanceMethod y ∈ am_G ∧ y.name = "<init>" ∧ ret = none))
end
section
/-! ===== cells are made and written, never taken away; types of arrays stay ===== -/
def am_wfc (c : am_C) : Prop := match c with
  | .inl (t, _) => t = 0 ∨ t = 1 ∨ t = 2
  | .inr (.inl (t, _)) => t = 3 ∨ t = 4 ∨ t = 5
  | .inr (.inr _) => True
def am_wf (h : am_H) : Prop := ∀ (k : Nat) (c : am_C), h[k]? = some c → am_wfc c
theorem am_wf.hok {h : am_H} (w : am_wf h) : am_hok h := fun k t xs e => w k _ e
theorem am_wf.hty {h : am_H} (w : am_wf h) : ∀ (k t : Nat) (xs : List Int32), h[k]? = some (.inl (t, xs)) → t = 0 ∨ t = 1 ∨ t = 2 := fun k t xs e => w k _ e
def am_gr (h h' : am_H) : Prop := h.length ≤ h'.length ∧ am_sl0 h ≤ am_sl0 h' ∧ (am_wf h → am_wf h')
theorem am_gr.refl (h : am_H) : am_gr h h := ⟨Nat.le_refl _, Nat.le_refl _, fun w => w⟩
theorem am_gr.trans {a b c : am_H} (x : am_gr a b) (y : am_gr b c) : am_gr a c := ⟨Nat.le_trans x.1 y.1, Nat.le_trans x.2.1 y.2.1, fun w => y.2.2 (x.2.2 w)⟩
theorem am_set_self {α : Type} {l : List α} {k : Nat} {v : α} (h : l[k]? = some v) : l.set k v = l := by
  apply List.ext_getElem?
  intro i
  rw [List.getElem?_set]
  split
  · next e =>
    subst e
    split
    · exact h.symm
    · next hl => rw [List.getElem?_eq_none (by omega)]
  · rfl
theorem am_gr.set {h : am_H} {k : Nat} {c c' : am_C} (e : h[k]? = some c) (z : am_csz c' = am_csz c) (w : am_wfc c → am_wfc c') : am_gr h (h.set k c') := by
  refine ⟨by rw [List.length_set]; exact Nat.le_refl _, ?_, fun hw j d hj => ?_⟩
  · unfold am_sl0
    rw [List.map_set, am_set_self (by rw [List.getElem?_map, e, z]; rfl)]
    exact Nat.le_refl _
  · rw [List.getElem?_set] at hj
    split at hj
    · next ek =>
      split at hj
      · cases hj; exact w (hw k c e)
      · cases hj
    · exact hw j d hj
theorem am_gr.app {h g : am_H} (w : ∀ c ∈ g, am_wfc c) : am_gr h (h ++ g) := by
  refine ⟨by rw [List.length_append]; omega, by rw [am_sl0_app]; omega, fun hw j d hj => ?_⟩
  by_cases hl : j < h.length
  · rw [List.getElem?_append_left hl] at hj
    exact hw j d hj
  · rw [List.getElem?_append_right (by omega)] at hj
    exact w d (List.mem_of_getElem? hj)
theorem am_nt_lt {t : ArrayType} {k : Nat} (h : am_nt t = some k) : k = 0 ∨ k = 1 ∨ k = 2 := by
  cases t <;> cases h <;> simp
set_option maxHeartbeats 4000000 in
theorem am_heap_gr {ro : Nat → Option (List Int32)} {cn : Nat} {i : Instr} {st st' : List Value} {h h' : am_H} (e : am_heap ro cn i st h = some (st', h')) : am_gr h h' := by
  unfold am_heap at e
  split at e
  · -- getfield
    unfold am_getf at e
    split at e
    · split at e
      · split at e
        · split at e
          · cases e; exact am_gr.refl _
          · cases e
        · cases e
      · cases e
    · cases e
  · -- putfield
    unfold am_putf at e
    split at e
    · split at e
      · next ci fs hh =>
        split at e
        · cases e; exact am_gr.set hh (by simp [am_csz]) (fun w => w)
        · cases e
      · cases e
    · cases e
  · -- iaload
    unfold am_ial at e
    split at e
    · split at e
      · split at e
        · split at e
          · cases e; exact am_gr.refl _
          · cases e
        · cases e
      · split at e
        · split at e
          · cases e; exact am_gr.refl _
          · cases e
        · cases e
    · cases e
  · -- baload
    unfold am_bal at e
    split at e
    · split at e
      · split at e
        · split at e
          · cases e; exact am_gr.refl _
          · cases e
        · cases e
      · cases e
    · cases e
  · -- aaload
    unfold am_aal at e
    split at e
    · split at e
      · split at e
        · cases e; exact am_gr.refl _
        · cases e
      · cases e
    · cases e
  · -- iastore
    unfold am_ias at e
    split at e
    · split at e
      · next xs hh =>
        split at e
        · next ys hy => cases e; obtain ⟨-, rfl⟩ := am_up_some hy; exact am_gr.set hh (by simp [am_csz]) (fun w => w)
        · cases e
      · cases e
    · cases e
  · -- bastore
    unfold am_bas at e
    split at e
    · split at e
      · next t xs hh =>
        split at e
        · split at e
          · next ys hy => cases e; obtain ⟨-, rfl⟩ := am_up_some hy; exact am_gr.set hh (by simp [am_csz]) (fun w => w)
          · cases e
        · cases e
      · cases e
    · cases e
  · -- aastore
    unfold am_aas at e
    split at e
    · split at e
      · next t xs hh =>
        split at e
        · split at e
          · split at e
            · next ys hy => cases e; obtain ⟨-, rfl⟩ := am_upr_some hy; exact am_gr.set hh (by simp [am_csz]) (fun w => w)
            · cases e
          · cases e
        · cases e
      · cases e
    · cases e
  · -- arraylength
    unfold am_len at e
    split at e
    · split at e
      · split at e
        · cases e; exact am_gr.refl _
        · cases e; exact am_gr.refl _
        · cases e
      · split at e
        · split at e
          · cases e; exact am_gr.refl _
          · cases e
        · cases e
    · cases e
  · -- new
    unfold am_new at e
    cases e
    exact am_gr.app (fun c hc => by rw [List.mem_singleton.mp hc]; exact trivial)
  · -- newarray
    unfold am_newa at e
    split at e
    · split at e
      · next k hk =>
        split at e
        · cases e
        · cases e
          exact am_gr.app (fun c hc => by rw [List.mem_singleton.mp hc]; exact am_nt_lt hk)
      · cases e
    · cases e
  · -- anewarray
    unfold am_anew at e
    split at e
    · split at e
      · cases e
      · next z _ n r hn =>
        cases e
        refine am_gr.app (fun c hc => ?_)
        rw [List.mem_singleton.mp hc]
        have hz : z = 4 ∨ z = 5 := Classical.byContradiction fun q => hn (Or.inr q)
        exact Or.inr hz
    · cases e
  · -- multianewarray
    unfold am_mna at e
    split at e
    · split at e
      · cases e
      · cases e
        rw [List.append_assoc]
        refine am_gr.app (fun c hc => ?_)
        rcases List.mem_append.mp hc with hc | hc
        · rw [List.mem_singleton.mp hc]; exact Or.inl rfl
        · rw [(List.mem_replicate.mp hc).2]; exact Or.inl rfl
    · cases e
  · cases e; exact am_gr.refl _
  · cases e; exact am_gr.refl _
  · cases e; exact am_gr.refl _
  · cases e; exact am_gr.refl _
  · -- checkcast
    split at e
    · split at e
      · cases e; exact am_gr.refl _
      · cases e
    · cases e
  · -- arraycopy
    unfold am_acp at e
    split at e
    · split at e
      · split at e
        · next ys hy =>
          split at e
          · cases e
          · next hn =>
            cases e
            refine am_gr.set hy ?_ (fun w => w)
            exact am_cpy_len (Nat.le_of_not_lt fun q => hn (Or.inr (Or.inr (Or.inr (Or.inl q))))) (Nat.le_of_not_lt fun q => hn (Or.inr (Or.inr (Or.inr (Or.inr (Or.inl q))))))
        · cases e
      · cases e
    · cases e
  · -- clone
    unfold am_cln at e
    split at e
    · split at e
      · split at e
        · cases e
        · cases e
          exact am_gr.app (fun c hc => by rw [List.mem_singleton.mp hc]; exact Or.inl rfl)
      · cases e
    · cases e
  · unfold am_slen at e
    split at e
    · split at e
      · cases e; exact am_gr.refl _
      · cases e
    · cases e
  · unfold am_sat at e
    split at e
    · split at e
      · split at e
        · cases e; exact am_gr.refl _
        · cases e
      · cases e
    · cases e
  · unfold am_mmin at e
    split at e
    · split at e
      · cases e
      · cases e; exact am_gr.refl _
    · cases e
  · cases e
theorem am_cl_h {md z pc : Nat} {L : am_L} {st : List Value} {h : am_H} {o : am_O} (e : am_cl md z pc L st h = some o) : ∃ as rest, am_pop (z / 16 % 16) [] st = some (as, rest) ∧ am_w rest ≤ 8 ∧ o = .inr (.inl (z / 256, as, (pc + 3, L, rest, h))) ∧ (md = 1 → ∃ b As ci fs, as = .ref b :: As ∧ h[b]? = some (.inr (.inr (ci, fs))) ∧ ci = z % 16) ∧ (md ≠ 0 → ∃ b As, as = .ref b :: As) := by
  unfold am_cl at e
  split at e
  · next as rest hp =>
    split at e
    · next hw =>
      split at e
      · cases e; exact ⟨as, rest, hp, hw, rfl, fun q => by omega, fun q => absurd rfl q⟩
      · split at e
        · next b As =>
          split at e
          · next ci fs hh =>
            split at e
            · next hc => cases e; exact ⟨_, rest, hp, hw, rfl, fun _ => ⟨b, As, ci, fs, rfl, hh, hc⟩, fun _ => ⟨b, As, rfl⟩⟩
            · cases e
          · cases e
        · cases e
      · next h0 h1 =>
        split at e
        · next b As => cases e; exact ⟨_, rest, hp, hw, rfl, fun q => absurd q h1, fun _ => ⟨b, As, rfl⟩⟩
        · cases e
    · cases e
  · cases e
/-- what one step is -/
theorem am_one_cases {ro : Nat → Option (List Int32)} {M : am_M} {pc : Nat} {L : am_L} {st : List Value} {h : am_H} {o : am_O} (e : am_one ro M (pc, L, st, h) = some o) : ∃ i n, am_fi M pc = some (i, n) ∧
    ((am_kind i = 0 ∧ ∃ L' st', am_pure i L st = some (L', st') ∧ o = .inl (pc + n, L', st', h)) ∨ (am_kind i = 1 ∧ ∃ pc' st', am_br i pc st = some (pc', st') ∧ o = .inl (pc', L, st', h)) ∨ (am_kind i = 2 ∧ ∃ st' h', am_heap ro M.1 i st h = some (st', h') ∧ o = .inl (pc + n, L, st', h')) ∨
     (am_kind i = 3 ∧ am_cl 1 (am_cz i) pc L st h = some o) ∨ (am_kind i = 4 ∧ am_cl 0 (am_cz i) pc L st h = some o) ∨ (am_kind i = 5 ∧ am_cl 2 (am_cz i) pc L st h = some o) ∨ (6 ≤ am_kind i ∧ ∃ v, am_rt M i st = some v ∧ o = .inr (.inr v))) := by
  have e : am_onx ro M pc L st h = some o := e
  unfold am_onx at e
  split at e
  · cases e
  · next i n hf =>
    refine ⟨i, n, hf, ?_⟩
    split at e
    · next hk =>
      split at e
      · next L' st' hp => cases e; exact Or.inl ⟨hk, L', st', hp, rfl⟩
      · cases e
    · next hk =>
      split at e
      · next pc' st' hp => cases e; exact Or.inr (Or.inl ⟨hk, pc', st', hp, rfl⟩)
      · cases e
    · next hk =>
      split at e
      · next st' h' hp => cases e; exact Or.inr (Or.inr (Or.inl ⟨hk, st', h', hp, rfl⟩))
      · cases e
    · next hk => exact Or.inr (Or.inr (Or.inr (Or.inl ⟨hk, e⟩)))
    · next hk => exact Or.inr (Or.inr (Or.inr (Or.inr (Or.inl ⟨hk, e⟩))))
    · next hk => exact Or.inr (Or.inr (Or.inr (Or.inr (Or.inr (Or.inl ⟨hk, e⟩)))))
    · next h0 h1 h2 h3 h4 h5 =>
      split at e
      · next v hv => cases e; exact Or.inr (Or.inr (Or.inr (Or.inr (Or.inr (Or.inr ⟨by have a0 : am_kind i ≠ 0 := h0; have a1 : am_kind i ≠ 1 := h1; have a2 : am_kind i ≠ 2 := h2; have a3 : am_kind i ≠ 3 := h3; have a4 : am_kind i ≠ 4 := h4; have a5 : am_kind i ≠ 5 := h5; omega, v, hv, rfl⟩)))))
      · cases e
theorem am_ev_gr {ro : Nat → Option (List Int32)} {call : Nat → List Value → am_H → Option am_An} {M : am_M} (hc : ∀ k as h v h1, call k as h = some (v, h1) → am_gr h h1) : ∀ (n pc : Nat) (L : am_L) (st : List Value) (h : am_H) (v : Option Value) (h1 : am_H), am_ev ro call M n (pc, L, st, h) = some (v, h1) → am_gr h h1 := by
  intro n
  induction n with
  | zero => intro pc L st h v h1 e; simp [am_ev] at e
  | succ n ih =>
    intro pc L st h v h1 e
    unfold am_ev at e
    cases ho : am_one ro M (pc, L, st, h) with
    | none => rw [ho] at e; simp at e
    | some o =>
      rw [ho] at e
      obtain ⟨i, n2, hf, hcs⟩ := am_one_cases ho
      rcases hcs with ⟨-, L', st', -, rfl⟩ | ⟨-, pc', st', -, rfl⟩ | ⟨-, st', h', hh, rfl⟩ | ⟨-, hh⟩ | ⟨-, hh⟩ | ⟨-, hh⟩ | ⟨-, v', -, rfl⟩
      · exact ih _ _ _ _ _ _ e
      · exact ih _ _ _ _ _ _ e
      · exact (am_heap_gr hh).trans (ih _ _ _ _ _ _ e)
      all_goals first
        | (obtain ⟨as, rest, -, -, rfl, -, -⟩ := am_cl_h hh
           dsimp only at e
           split at e
           · next v2 h2 hcl => exact (hc _ _ _ _ _ hcl).trans (ih _ _ _ _ _ _ e)
           · cases e)
        | (cases e; exact am_gr.refl _)
theorem am_run_gr {ro : Nat → Option (List Int32)} : ∀ (d n k : Nat) (as : List Value) (h : am_H) (v : Option Value) (h1 : am_H), am_run ro d n k as h = some (v, h1) → am_gr h h1 := by
  intro d
  induction d with
  | zero => intro n k as h v h1 e; simp [am_run] at e
  | succ d ih =>
    intro n k as h v h1 e
    unfold am_run at e
    split at e
    · split at e
      · exact am_ev_gr (fun k as h v h1 hr => ih n k as h v h1 hr) _ _ _ _ _ _ _ e
      · cases e
    · cases e
end
section
/-! ===== what is known of each class (by wip/whole/gen_classes.py) ===== -/
theorem am_wsT {ws : List Cond} {ps : List Nat} (h : ws = ps.filterMap (fun i => lw_tbl[i]?)) (hg : ws.all goodWord = true) : ∀ w ∈ ws, w ∈ am_T := by
  intro w hw
  have h1 := List.all_eq_true.mp hg w hw
  rw [h] at hw
  obtain ⟨i, -, hi⟩ := List.mem_filterMap.mp hw
  exact am_inT (am_inG hi h1)
def am_CF (ci : Nat) (C : String) (T : u_T) (N : Nat) : Prop := (∀ w ∈ u_ws C T N, w ∈ am_T) ∧ (∀ k, k < N → parseFieldDescriptor (T k).2.2.1 = some (am_fty ci k)) ∧ (∀ a, a < N → ∀ b, b < N → a ≠ b → (T a).2.1 ≠ (T b).2.1) ∧ Cond.instantiable C N ∈ am_T ∧ Cond.initialized C ∈ am_T ∧ (∀ k, k < N → defaultValue (am_fty ci k) = am_dfv (am_fty ci k)) ∧ am_own ci = C ∧ (∀ k, k < N → (T k).1 = C) ∧ ci < 13
theorem am_cf_0 : am_CF 0 RX0 TX0 4 := ⟨am_wsT (ps := [403, 405, 407, 409]) (by decide +kernel) (by decide +kernel), tyX0_ok, nmX0, am_inT (am_inG (i := 390) (by decide +kernel) rfl), am_inT (am_inG (i := 103) (by decide +kernel) rfl), by decide +kernel, rfl, by decide +kernel, by decide⟩
theorem am_cf_1 : am_CF 1 RX1 TX1 9 := ⟨am_wsT (ps := [275, 277, 279, 281, 283, 285, 287, 289, 291]) (by decide +kernel) (by decide +kernel), tyX1_ok, nmX1, am_inT (am_inG (i := 244) (by decide +kernel) rfl), am_inT (am_inG (i := 98) (by decide +kernel) rfl), by decide +kernel, rfl, by decide +kernel, by decide⟩
theorem am_cf_2 : am_CF 2 RX2 TX2 8 := ⟨am_wsT (ps := [226, 228, 230, 232, 234, 236, 238, 240]) (by decide +kernel) (by decide +kernel), tyX2_ok, nmX2, am_inT (am_inG (i := 200) (by decide +kernel) rfl), am_inT (am_inG (i := 97) (by decide +kernel) rfl), by decide +kernel, rfl, by decide +kernel, by decide⟩
theorem am_cf_3 : am_CF 3 RX3 TX3 4 := ⟨am_wsT (ps := [380, 382, 384, 386]) (by decide +kernel) (by decide +kernel), tyX3_ok, nmX3, am_inT (am_inG (i := 368) (by decide +kernel) rfl), am_inT (am_inG (i := 102) (by decide +kernel) rfl), by decide +kernel, rfl, by decide +kernel, by decide⟩
theorem am_cf_4 : am_CF 4 RX4 TX4 5 := ⟨am_wsT (ps := [426, 428, 430, 432, 434]) (by decide +kernel) (by decide +kernel), tyX4_ok, nmX4, am_inT (am_inG (i := 413) (by decide +kernel) rfl), am_inT (am_inG (i := 104) (by decide +kernel) rfl), by decide +kernel, rfl, by decide +kernel, by decide⟩
theorem am_cf_5 : am_CF 5 RX5 TX5 1 := ⟨am_wsT (ps := [257]) (by decide +kernel) (by decide +kernel), tyX5_ok, nmX5, am_inT (am_inG (i := 251) (by decide +kernel) rfl), am_inT (am_inG (i := 99) (by decide +kernel) rfl), by decide +kernel, rfl, by decide +kernel, by decide⟩
theorem am_cf_6 : am_CF 6 RX6 TX6 8 := ⟨am_wsT (ps := [157, 159, 161, 163, 165, 167, 169, 171]) (by decide +kernel) (by decide +kernel), tyX6_ok, nmX6, am_inT (am_inG (i := 121) (by decide +kernel) rfl), am_inT (am_inG (i := 92) (by decide +kernel) rfl), by decide +kernel, rfl, by decide +kernel, by decide⟩
theorem am_cf_7 : am_CF 7 RX7 TX7 4 := ⟨am_wsT (ps := [190, 192, 194, 196]) (by decide +kernel) (by decide +kernel), tyX7_ok, nmX7, am_inT (am_inG (i := 176) (by decide +kernel) rfl), am_inT (am_inG (i := 96) (by decide +kernel) rfl), by decide +kernel, rfl, by decide +kernel, by decide⟩
theorem am_cf_8 : am_CF 8 RX8 TX8 13 := ⟨am_wsT (ps := [339, 341, 343, 345, 347, 349, 351, 353, 355, 357, 359, 361, 363]) (by decide +kernel) (by decide +kernel), tyX8_ok, nmX8, am_inT (am_inG (i := 318) (by decide +kernel) rfl), am_inT (am_inG (i := 101) (by decide +kernel) rfl), by decide +kernel, rfl, by decide +kernel, by decide⟩
theorem am_cf_9 : am_CF 9 RX9 TX9 5 := ⟨am_wsT (ps := [306, 308, 310, 312, 314]) (by decide +kernel) (by decide +kernel), tyX9_ok, nmX9, am_inT (am_inG (i := 295) (by decide +kernel) rfl), am_inT (am_inG (i := 100) (by decide +kernel) rfl), by decide +kernel, rfl, by decide +kernel, by decide⟩
theorem am_cf_10 : am_CF 10 RX10 TX10 3 := ⟨am_wsT (ps := [450, 452, 454]) (by decide +kernel) (by decide +kernel), tyX10_ok, nmX10, am_inT (am_inG (i := 439) (by decide +kernel) rfl), am_inT (am_inG (i := 105) (by decide +kernel) rfl), by decide +kernel, rfl, by decide +kernel, by decide⟩
theorem am_cf_11 : am_CF 11 RX11 TX11 10 := ⟨am_wsT (ps := [467, 469, 471, 473, 475, 477, 479, 481, 483, 485]) (by decide +kernel) (by decide +kernel), tyX11_ok, nmX11, am_inT (am_inG (i := 113) (by decide +kernel) rfl), am_inT (am_inG (i := 91) (by decide +kernel) rfl), by decide +kernel, rfl, by decide +kernel, by decide⟩
theorem am_cf_12 : am_CF 12 RX12 TX12 59 := ⟨am_wsT (ps := [1177, 1179, 1181, 1183, 1185, 1187, 1189, 1191, 1193, 1195, 1197, 1199, 1201, 1203, 1205, 1207, 1209, 1211, 1213, 1215, 1217, 1219, 1221, 1223, 1225, 1227, 1229, 1231, 1233, 1235, 1237, 1239, 1241, 1243, 1245, 1247, 1249, 1251, 1253, 1255, 1257, 1259, 1261, 1263, 1265, 1267, 1269, 1271, 1273, 1275, 1277, 1279, 1281, 1283, 1285, 1287, 1289, 1291, 1293]) (by decide +kernel) (by decide +kernel), tyX12_ok, nmX12, am_inT (am_inG (i := 1109) (by decide +kernel) rfl), am_inT (am_inG (i := 106) (by decide +kernel) rfl), by decide +kernel, rfl, by decide +kernel, by decide⟩
theorem am_cls : ∀ (ci : Nat) (q : vw_C), vwCl[ci]? = some q → am_CF ci q.1 q.2.1 q.2.2
  | 0, q, h => by cases h; exact am_cf_0
  | 1, q, h => by cases h; exact am_cf_1
  | 2, q, h => by cases h; exact am_cf_2
  | 3, q, h => by cases h; exact am_cf_3
  | 4, q, h => by cases h; exact am_cf_4
  | 5, q, h => by cases h; exact am_cf_5
  | 6, q, h => by cases h; exact am_cf_6
  | 7, q, h => by cases h; exact am_cf_7
  | 8, q, h => by cases h; exact am_cf_8
  | 9, q, h => by cases h; exact am_cf_9
  | 10, q, h => by cases h; exact am_cf_10
  | 11, q, h => by cases h; exact am_cf_11
  | 12, q, h => by cases h; exact am_cf_12
  | (n + 13), q, h => by cases (show none = some q from h)
end
section
/-! ===== a step of the abstract machine is one of the machine ===== -/
section AmCk
variable {oc : Nat} {raw : Instr} {z : Nat}
theorem am_ck_getf (h : am_ck2 oc raw (.getfield z) = true) : ∃ idx q, raw = .getfield idx ∧ vwCl[z / 64]? = some q ∧ z % 64 < q.2.2 ∧ am_lk oc idx = some (.fieldLink (am_own oc) idx (q.2.1 (z % 64)).1 (q.2.1 (z % 64)).2.1 (q.2.1 (z % 64)).2.2.1) := by
  simp only [am_ck2] at h
  split at h
  · next idx =>
    split at h
    · next q hq =>
      simp only [Bool.and_eq_true, decide_eq_true_eq] at h
      exact ⟨idx, q, rfl, hq, h.1, h.2⟩
    · cases h
  · cases h
theorem am_ck_putf (h : am_ck2 oc raw (.putfield z) = true) : ∃ idx q, raw = .putfield idx ∧ vwCl[z / 64]? = some q ∧ z % 64 < q.2.2 ∧ am_lk oc idx = some (.fieldLink (am_own oc) idx (q.2.1 (z % 64)).1 (q.2.1 (z % 64)).2.1 (q.2.1 (z % 64)).2.2.1) := by
  simp only [am_ck2] at h
  split at h
  · next idx =>
    split at h
    · next q hq =>
      simp only [Bool.and_eq_true, decide_eq_true_eq] at h
      exact ⟨idx, q, rfl, hq, h.1, h.2⟩
    · cases h
  · cases h
theorem am_ck_new (h : am_ck2 oc raw (.new z) = true) : ∃ idx q, raw = .new idx ∧ vwCl[z]? = some q ∧ am_lk oc idx = some (.classLink (am_own oc) idx q.1) := by
  simp only [am_ck2] at h
  split at h
  · next idx =>
    split at h
    · next q hq => exact ⟨idx, q, rfl, hq, of_decide_eq_true h⟩
    · cases h
  · cases h
theorem am_ck_anew (h : am_ck2 oc raw (.anewarray z) = true) : ∃ idx, raw = .anewarray idx ∧ ((z = 4 ∧ am_lk oc idx = some (.classLink (am_own oc) idx RX5)) ∨ (z = 5 ∧ am_lk oc idx = some (.classLink (am_own oc) idx RX10))) := by
  simp only [am_ck2] at h
  split at h
  · next idx =>
    simp only [Bool.and_eq_true, Bool.or_eq_true, decide_eq_true_eq] at h
    exact ⟨idx, rfl, h⟩
  · cases h
theorem am_ck_mna {a b : Nat} (h : am_ck2 oc raw (.multianewarray a b) = true) : ∃ idx, raw = .multianewarray idx 2 ∧ am_lk oc idx = some (.classLink (am_own oc) idx "[[I") := by
  simp only [am_ck2] at h
  split at h
  · next idx n =>
    simp only [Bool.and_eq_true, decide_eq_true_eq] at h
    exact ⟨idx, by rw [h.1], h.2⟩
  · cases h
theorem am_ck_gst (h : am_ck2 oc raw (.getstatic z) = true) : ∃ idx, raw = .getstatic idx ∧ z < 3 ∧ (am_lk oc idx = some (.fieldLink (am_own oc) idx "TwoHeads" (am_stn z) "[I") ∨ am_lk oc idx = some (.fieldLinkNest (am_own oc) idx "TwoHeads" (am_stn z) "[I" "TwoHeads")) := by
  simp only [am_ck2] at h
  split at h
  · next idx =>
    simp only [Bool.and_eq_true, Bool.or_eq_true, decide_eq_true_eq] at h
    exact ⟨idx, rfl, h⟩
  · cases h
theorem am_ck_ldc (h : am_ck2 oc raw (.ldc z) = true) : raw = .ldc (am_sti z) ∧ z < 11 ∧ oc = 8 := by
  simp only [am_ck2] at h
  split at h
  · next idx =>
    simp only [Bool.and_eq_true, decide_eq_true_eq] at h
    exact ⟨by rw [h.1.2], h.1.1, h.2⟩
  · cases h
theorem am_ck_ldcw (h : am_ck2 oc raw (.ldc_w z) = true) : ∃ idx, raw = .ldc_w idx ∧ am_lk oc idx = some (.constant (am_own oc) idx (Int32.ofNat z)) := by
  simp only [am_ck2] at h
  split at h
  · next idx => exact ⟨idx, rfl, of_decide_eq_true h⟩
  · cases h
theorem am_ck_ldc2 (h : am_ck2 oc raw (.ldc2_w z) = true) : ∃ idx, raw = .ldc2_w idx ∧ am_lk oc idx = some (.constantLong (am_own oc) idx (Int64.ofNat z)) := by
  simp only [am_ck2] at h
  split at h
  · next idx => exact ⟨idx, rfl, of_decide_eq_true h⟩
  · cases h
theorem am_ck_cst (h : am_ck2 oc raw (.checkcast z) = true) : ∃ idx, raw = .checkcast idx ∧ am_lk oc idx = some (.classLink (am_own oc) idx "[I") := by
  simp only [am_ck2] at h
  split at h
  · next idx => exact ⟨idx, rfl, of_decide_eq_true h⟩
  · cases h
theorem am_ck_dyn (h : am_ck2 oc raw (.invokedynamic z) = true) : ∃ idx, (raw = .invokestatic idx ∧ ((z = 0 ∧ am_lk oc idx = some (.methodLink (am_own oc) idx arraycopyName)) ∨ (z = 4 ∧ am_lk oc idx = some (.methodLink (am_own oc) idx Lib.Math.min.name)))) ∨ (raw = .invokevirtual idx ∧ ((z = 1 ∧ am_lk oc idx = some (.methodLink (am_own oc) idx ⟨"[I", "clone", "()Ljava/lang/Object;"⟩)) ∨ (z = 2 ∧ am_lk oc idx = some (.methodLink (am_own oc) idx yJ0_length_8abf5)) ∨ (z = 3 ∧ am_lk oc idx = some (.methodLink (am_own oc) idx yJ0_charAt_5068e)))) := by
  simp only [am_ck2] at h
  split at h
  · next idx =>
    simp only [Bool.and_eq_true, Bool.or_eq_true, decide_eq_true_eq] at h
    exact ⟨idx, Or.inl ⟨rfl, h⟩⟩
  · next idx =>
    simp only [Bool.and_eq_true, Bool.or_eq_true, decide_eq_true_eq] at h
    refine ⟨idx, Or.inr ⟨rfl, ?_⟩⟩
    rcases h with (h | h) | h
    · exact Or.inl h
    · exact Or.inr (Or.inl h)
    · exact Or.inr (Or.inr h)
  · cases h
end AmCk
theorem am_isw_kind {i : Instr} (h : am_isw i = true) : am_kind i = 1 := by
  cases i <;> first | rfl | cases h
theorem am_T_G {w : Cond} (h : w ∈ am_T) (hg : goodWord w = true) (hn : ∀ v ∈ am_nest, goodWord v = false) : w ∈ am_G := by
  rcases List.mem_append.mp h with h | h
  · exact h
  · rw [hn w h] at hg; cases hg
theorem am_nest_bad : ∀ v ∈ am_nest, goodWord v = false := by decide +kernel
theorem am_w_sys : (Cond.native arraycopyName ∈ am_T ∧ Cond.static arraycopyName ∈ am_T ∧ Cond.initialized "java/lang/System" ∈ am_T) := ⟨am_inT (am_inG (i := 137) (by decide +kernel) rfl), am_inT (am_inG (i := 136) (by decide +kernel) rfl), am_inT (am_inG (i := 94) (by decide +kernel) rfl)⟩
theorem am_w_cln : (Cond.sameMethod "[I" "java/lang/Object" "clone" "()Ljava/lang/Object;" ∈ am_T ∧ Cond.native ⟨"java/lang/Object", "clone", "()Ljava/lang/Object;"⟩ ∈ am_T ∧ Cond.instanceMethod ⟨"java/lang/Object", "clone", "()Ljava/lang/Object;"⟩ ∈ am_T ∧ Cond.selects "[I" ⟨"[I", "clone", "()Ljava/lang/Object;"⟩ ⟨"java/lang/Object", "clone", "()Ljava/lang/Object;"⟩ ∈ am_T ∧ Cond.castable "[I" "java/lang/Cloneable" ∈ am_T) := ⟨am_inT (am_inG (i := 805) (by decide +kernel) rfl), am_inT (am_inG (i := 806) (by decide +kernel) rfl), am_inT (am_inG (i := 807) (by decide +kernel) rfl), am_inT (am_inG (i := 808) (by decide +kernel) rfl), am_inN 7 rfl⟩
theorem am_w_arr {t : ArrayType} {k : Nat} (h : am_nt t = some k) : Cond.arrayClass (newarray.typeOf t) ∈ am_T := by
  cases t <;> cases h
  · exact am_inT (am_inG (i := 1296) (by decide +kernel) rfl)
  · exact am_inT (am_inG (i := 366) (by decide +kernel) rfl)
  · exact am_inT (am_inG (i := 174) (by decide +kernel) rfl)
theorem am_gr_set {h : am_H} {k : Nat} {c c' : am_C} (e : h[k]? = some c) (z : am_csz c' = am_csz c) : (h.set k c').length = h.length ∧ am_sl0 (h.set k c') = am_sl0 h := by
  refine ⟨List.length_set, ?_⟩
  unfold am_sl0
  rw [List.map_set, am_set_self (by rw [List.getElem?_map, e, z]; rfl)]
theorem am_putf_len {cn z : Nat} {st st' : List Value} {h h' : am_H} (e : am_putf cn z st h = some (st', h')) : h'.length = h.length ∧ am_sl0 h' = am_sl0 h := by
  unfold am_putf at e
  split at e
  · split at e
    · next hh =>
      split at e
      · cases e; exact am_gr_set hh (by simp [am_csz])
      · cases e
    · cases e
  · cases e
theorem am_ias_len {st st' : List Value} {h h' : am_H} (e : am_ias st h = some (st', h')) : h'.length = h.length ∧ am_sl0 h' = am_sl0 h := by
  unfold am_ias at e
  split at e
  · split at e
    · next hh =>
      split at e
      · next hy => cases e; obtain ⟨-, rfl⟩ := am_up_some hy; exact am_gr_set hh (by simp [am_csz])
      · cases e
    · cases e
  · cases e
theorem am_bas_len {st st' : List Value} {h h' : am_H} (e : am_bas st h = some (st', h')) : h'.length = h.length ∧ am_sl0 h' = am_sl0 h := by
  unfold am_bas at e
  split at e
  · split at e
    · next hh =>
      split at e
      · split at e
        · next hy => cases e; obtain ⟨-, rfl⟩ := am_up_some hy; exact am_gr_set hh (by simp [am_csz])
        · cases e
      · cases e
    · cases e
  · cases e
theorem am_aas_len {st st' : List Value} {h h' : am_H} (e : am_aas st h = some (st', h')) : h'.length = h.length ∧ am_sl0 h' = am_sl0 h := by
  unfold am_aas at e
  split at e
  · split at e
    · next hh =>
      split at e
      · split at e
        · split at e
          · next hy => cases e; obtain ⟨-, rfl⟩ := am_upr_some hy; exact am_gr_set hh (by simp [am_csz])
          · cases e
        · cases e
      · cases e
    · cases e
  · cases e
theorem am_acp_len {st st' : List Value} {h h' : am_H} (e : am_acp st h = some (st', h')) : h'.length = h.length ∧ am_sl0 h' = am_sl0 h := by
  unfold am_acp at e
  split at e
  · split at e
    · split at e
      · next hy =>
        split at e
        · cases e
        · next hn => cases e; exact am_gr_set hy (am_cpy_len (Nat.le_of_not_lt fun q => hn (Or.inr (Or.inr (Or.inr (Or.inl q))))) (Nat.le_of_not_lt fun q => hn (Or.inr (Or.inr (Or.inr (Or.inr (Or.inl q)))))))
      · cases e
    · cases e
  · cases e
theorem am_new_len {z : Nat} {q : vw_C} {st st' : List Value} {h h' : am_H} (e : am_new z st h = some (st', h')) (hq : vwCl[z]? = some q) : h'.length - h.length = 1 ∧ am_sl0 h' - am_sl0 h = q.2.2 := by
  unfold am_new at e
  cases e
  have hN : am_nf z = q.2.2 := by unfold am_nf; rw [hq]
  refine ⟨by rw [List.length_append]; simp, ?_⟩
  rw [am_sl0_app]
  simp [am_sl0, am_csz, hN]
theorem am_newa_len {t : ArrayType} {st st' : List Value} {h h' : am_H} (e : am_newa t st h = some (st', h')) : h'.length - h.length = 1 ∧ ∃ k, am_nt t = some k := by
  unfold am_newa at e
  split at e
  · split at e
    · next k hk =>
      split at e
      · cases e
      · cases e; exact ⟨by rw [List.length_append]; simp, k, hk⟩
    · cases e
  · cases e
theorem am_anew_len {z : Nat} {st st' : List Value} {h h' : am_H} (e : am_anew z st h = some (st', h')) : h'.length - h.length = 1 := by
  unfold am_anew at e
  split at e
  · split at e
    · cases e
    · cases e; rw [List.length_append]; simp
  · cases e
theorem am_cln_len {st st' : List Value} {h h' : am_H} (e : am_cln st h = some (st', h')) : h'.length - h.length = 1 := by
  unfold am_cln at e
  split at e
  · split at e
    · split at e
      · cases e
      · cases e; rw [List.length_append]; simp
    · cases e
  · cases e
section AmStep
variable {p : Program} {l : Launch} {e : Env} {R : Room} {s : State} {m : MethodId} {args : Array Value} {below : List Frame} {meth : Method} {c : Code} {H : Heap} {locs : List Loc} {Q : State → Prop} {cc : ByteArray} {pc pc' nL oc : Nat} {ret : Option FieldType} {M : am_M} {ls : Array Slot} {ad adV : Nat → Nat} {D : va_G} {kA : Nat → ClassId} {sz0 : Nat} {H00 : Heap} {h h' : am_H} {st st' : List Value} {ro : Nat → Option (List Int32)} {L L' : am_L} {n0 s0 : Nat}
set_option maxHeartbeats 4000000 in
theorem am_stepW (hx : p.tables.exec = Jvm.exec) (hb : c.code = cc) (hml : c.maxLocals = nL) (hown : s.vm.findClass (am_own oc) = some m.cls) (hT : ∀ w ∈ am_T, w.before args s = true) (hwd : am_Wd D kA ad adV sz0 H00 ro s) (hF : am_Fx ad sz0 H00) (hck : am_ckM oc ret M cc 0 (16 * M.2.2.length) = true) (hin : M.1 < 13 → meth.name = "<init>" ∧ am_own oc = am_own M.1) (hfr : 4 ≤ R.frames) (hlo : 141 ≤ R.locals)
    (hn0 : n0 ≤ h.length) (hs0 : s0 ≤ am_sl0 h) (hR : am_RH D kA ad sz0 H00 h H) (hl : ∀ q ∈ locs, sz0 ≤ q.base) (hlh : am_lh ls nL ad L) (hwf : am_wf h)
    (hone : am_one ro M (pc, L, st, h) = some (.inl (pc', L', st', h'))) (hrm : h'.length - n0 ≤ R.cells ∧ am_sl0 h' - s0 ≤ R.slots) (hlt : h'.length < am_RO)
    (kk : ∀ (H1 : Heap) (locs1 : List Loc) (ls1 : Array Slot), am_RH D kA ad sz0 H00 h' H1 → (∀ q ∈ locs1, sz0 ≤ q.base) → am_lh ls1 nL ad L' → W p l e R s m args below meth c H1 locs1 (h'.length - n0) (am_sl0 h' - s0) Q (F0 m pc' ls1 (st'.map (am_v ad)))) : W p l e R s m args below meth c H locs (h.length - n0) (am_sl0 h - s0) Q (F0 m pc ls (st.map (am_v ad))) := by
  obtain ⟨i, n, hf, hcs⟩ := am_one_cases hone
  obtain ⟨raw, hd, hln, hk⟩ := am_ckM_at hck hf
  have had := hF.2
  have hK := hwd.1.1
  have hG : ∀ w ∈ am_G, w.before args s = true := fun w hw => hT w (am_inT hw)
  rcases hcs with ⟨hk0, L1, st1, hp, ho⟩ | ⟨hk0, pc1, st1, hp, ho⟩ | ⟨hk0, st1, h1, hp, ho⟩ | ⟨hk0, hp⟩ | ⟨hk0, hp⟩ | ⟨hk0, hp⟩ | ⟨hk0, v, hp, ho⟩
  · cases ho
    simp only [am_ck, hk0] at hk
    have hraw := of_decide_eq_true hk
    subst hraw
    refine am_s_pure hx hb hd ?_ hp hlh (fun ls1 hl1 => kk H locs ls1 hR hl hl1)
    rcases hln with hln | hln
    · rw [am_isw_kind hln] at hk0; cases hk0
    · exact hln
  · cases ho
    simp only [am_ck, hk0] at hk
    have hraw := of_decide_eq_true hk
    subst hraw
    exact am_s_br hx hb hd hln hp (kk H locs ls hR hl hlh)
  · cases ho
    simp only [am_ck, hk0] at hk
    have hgr := am_heap_gr hp
    have hle : h.length < am_RO := Nat.lt_of_le_of_lt hgr.1 hlt
    have e1 : h'.length - n0 = (h.length - n0) + (h'.length - h.length) := by have := hgr.1; omega
    have e2 : am_sl0 h' - s0 = (am_sl0 h - s0) + (am_sl0 h' - am_sl0 h) := by have := hgr.2.1; omega
    have hsame : h' = h → (am_isw raw = true ∨ n = am_ln raw) → True := fun _ _ => trivial
    unfold am_heap at hp
    split at hp
    · -- getfield
      obtain ⟨idx, ⟨C, T, N⟩, rfl, hq, hz, hlk⟩ := am_ck_getf hk
      obtain ⟨f1, f2, f3, f4, f5, f6, f7, f8, f9⟩ := am_cls _ _ hq
      have hn : n = 3 := hln.resolve_left (by intro q; cases q)
      subst hn
      exact am_s_getf hx hb hT had (Nat.le_of_lt hle) hown hK hR hq f1 hz (am_lk_in hlk) hd hp (fun eq => by rw [eq] at kk; exact kk H locs ls hR hl hlh)
    · -- putfield
      obtain ⟨idx, ⟨C, T, N⟩, rfl, hq, hz, hlk⟩ := am_ck_putf hk
      obtain ⟨f1, f2, f3, f4, f5, f6, f7, f8, f9⟩ := am_cls _ _ hq
      have hn : n = 3 := hln.resolve_left (by intro q; cases q)
      subst hn
      have hlen : h'.length = h.length ∧ am_sl0 h' = am_sl0 h := am_putf_len hp
      rw [hlen.1, hlen.2] at kk
      refine am_s_putf hx hb hT had (Nat.le_of_lt hle) hown hK hR hq f1 hz (am_lk_in hlk) f2 f3 (fun ec => ?_) hl hd hp (fun H1 locs1 hR1 hl1 => kk H1 locs1 ls hR1 hl1 hlh)
      obtain ⟨g1, g2⟩ := hin (by rw [ec]; exact f9)
      exact ⟨g1, by rw [g2, ec, f7]; exact f8 _ hz⟩
    · -- iaload
      have hraw := of_decide_eq_true hk
      subst hraw
      have hn : n = 1 := hln.resolve_left (by intro q; cases q)
      subst hn
      exact am_s_ial hx hb had hK hwd.2.1 hR hd hp (fun eq => by rw [eq] at kk; exact kk H locs ls hR hl hlh)
    · -- baload
      have hraw := of_decide_eq_true hk
      subst hraw
      have hn : n = 1 := hln.resolve_left (by intro q; cases q)
      subst hn
      exact am_s_bal hx hb had (Nat.le_of_lt hle) hK hR hd hp (fun eq => by rw [eq] at kk; exact kk H locs ls hR hl hlh)
    · -- aaload
      have hraw := of_decide_eq_true hk
      subst hraw
      have hn : n = 1 := hln.resolve_left (by intro q; cases q)
      subst hn
      exact am_s_aal hx hb had (Nat.le_of_lt hle) hwf.hok hK hR hd hp (fun eq => by rw [eq] at kk; exact kk H locs ls hR hl hlh)
    · -- iastore
      have hraw := of_decide_eq_true hk
      subst hraw
      have hn : n = 1 := hln.resolve_left (by intro q; cases q)
      subst hn
      have hlen : h'.length = h.length ∧ am_sl0 h' = am_sl0 h := am_ias_len hp
      rw [hlen.1, hlen.2] at kk
      exact am_s_ias hx hb had (Nat.le_of_lt hle) hK hR hl hd hp (fun H1 locs1 hR1 hl1 => kk H1 locs1 ls hR1 hl1 hlh)
    · -- bastore
      have hraw := of_decide_eq_true hk
      subst hraw
      have hn : n = 1 := hln.resolve_left (by intro q; cases q)
      subst hn
      have hlen : h'.length = h.length ∧ am_sl0 h' = am_sl0 h := am_bas_len hp
      rw [hlen.1, hlen.2] at kk
      exact am_s_bas hx hb had (Nat.le_of_lt hle) hK hR hl hd hp (fun H1 locs1 hR1 hl1 => kk H1 locs1 ls hR1 hl1 hlh)
    · -- aastore
      have hraw := of_decide_eq_true hk
      subst hraw
      have hn : n = 1 := hln.resolve_left (by intro q; cases q)
      subst hn
      have hlen : h'.length = h.length ∧ am_sl0 h' = am_sl0 h := am_aas_len hp
      rw [hlen.1, hlen.2] at kk
      exact am_s_aas hx hb had (Nat.le_of_lt hle) hK hR hl hd hp (fun H1 locs1 hR1 hl1 => kk H1 locs1 ls hR1 hl1 hlh)
    · -- arraylength
      have hraw := of_decide_eq_true hk
      subst hraw
      have hn : n = 1 := hln.resolve_left (by intro q; cases q)
      subst hn
      exact am_s_len hx hb had hwf.hok hwf.hty hK hwd.2.1 hR hd hp (fun eq => by rw [eq] at kk; exact kk H locs ls hR hl hlh)
    · -- new
      obtain ⟨idx, ⟨C, T, N⟩, rfl, hq, hlk⟩ := am_ck_new hk
      obtain ⟨f1, f2, f3, f4, f5, f6, f7, f8, f9⟩ := am_cls _ _ hq
      have hn : n = 3 := hln.resolve_left (by intro q; cases q)
      subst hn
      have hlen := am_new_len hp hq
      rw [e1, e2, hlen.1, hlen.2] at kk
      rw [e1, e2, hlen.1, hlen.2] at hrm
      exact am_s_new hx hb hT had hle hown hK hR hq f1 (am_lk_in hlk) f4 f5 f2 f6 hrm.1 hrm.2 hd hp (fun H1 hR1 => kk H1 locs ls hR1 hl hlh)
    · -- newarray
      have hraw := of_decide_eq_true hk
      subst hraw
      have hn : n = 2 := hln.resolve_left (by intro q; cases q)
      subst hn
      obtain ⟨hlen, k, hkt⟩ := am_newa_len hp
      rw [e1, e2, hlen] at kk
      rw [e1, e2, hlen] at hrm
      exact am_s_newa hx hb hT had hle hK hR (am_w_arr hkt) hrm.1 hrm.2 hd hp (fun H1 hR1 => kk H1 locs ls hR1 hl hlh)
    · -- anewarray
      obtain ⟨idx, rfl, hlk⟩ := am_ck_anew hk
      have hn : n = 3 := hln.resolve_left (by intro q; cases q)
      subst hn
      have hlen := am_anew_len hp
      rw [e1, e2, hlen] at kk
      rw [e1, e2, hlen] at hrm
      rcases hlk with ⟨rfl, hlk⟩ | ⟨rfl, hlk⟩
      · exact am_s_anew hx hb hT had hle hown hK hR rfl (am_lk_in hlk) hwd.1.2.2.1 hrm.1 hrm.2 hd hp (fun H1 hR1 => kk H1 locs ls hR1 hl hlh)
      · exact am_s_anew hx hb hT had hle hown hK hR rfl (am_lk_in hlk) hwd.1.2.2.2 hrm.1 hrm.2 hd hp (fun H1 hR1 => kk H1 locs ls hR1 hl hlh)
    · -- multianewarray
      obtain ⟨idx, rfl, hlk⟩ := am_ck_mna hk
      have hn : n = 4 := hln.resolve_left (by intro q; cases q)
      subst hn
      rw [e1, e2] at kk
      rw [e1, e2] at hrm
      exact am_s_mna hx hb hT hown (am_lk_in hlk) had hlt hK hwd.1.2.1 hR hl hrm.1 hrm.2 hd hp (fun H1 locs1 hR1 hl1 => kk H1 locs1 ls hR1 hl1 hlh)
    · -- getstatic
      obtain ⟨idx, rfl, hz, hlk⟩ := am_ck_gst hk
      have hn : n = 3 := hln.resolve_left (by intro q; cases q)
      subst hn
      cases hp
      refine am_s_gst (host := "TwoHeads") hx hb hown hwd hF hR hz ?_ hd (kk H locs ls hR hl hlh)
      rcases hlk with hlk | hlk
      · exact Or.inl (hT _ (am_lk_in hlk))
      · exact Or.inr (hT _ (am_lk_in hlk))
    · -- ldc
      obtain ⟨rfl, hz, rfl⟩ := am_ck_ldc hk
      have hn : n = 2 := hln.resolve_left (by intro q; cases q)
      subst hn
      cases hp
      exact am_s_ldc hx hb hown hwd hz hd (kk H locs ls hR hl hlh)
    · -- ldc_w
      obtain ⟨idx, rfl, hlk⟩ := am_ck_ldcw hk
      have hn : n = 3 := hln.resolve_left (by intro q; cases q)
      subst hn
      cases hp
      exact lv_ldcw hx hb hown (hT _ (am_lk_in hlk)) hd (kk H locs ls hR hl hlh)
    · -- ldc2_w
      obtain ⟨idx, rfl, hlk⟩ := am_ck_ldc2 hk
      have hn : n = 3 := hln.resolve_left (by intro q; cases q)
      subst hn
      cases hp
      exact lv_ldc2 hx hb hown (hT _ (am_lk_in hlk)) hd (kk H locs ls hR hl hlh)
    · -- checkcast
      obtain ⟨idx, rfl, hlk⟩ := am_ck_cst hk
      have hn : n = 3 := hln.resolve_left (by intro q; cases q)
      subst hn
      exact am_s_cst (ro := ro) (nL := 0) (z := 0) hx hb hT hown (am_lk_in hlk) had (Nat.le_of_lt hle) hK hR hd hp (fun eq => by rw [eq] at kk; exact kk H locs ls hR hl hlh)
    · -- arraycopy
      obtain ⟨idx, ⟨rfl, hlk⟩ | ⟨rfl, hlk⟩⟩ := am_ck_dyn hk
      · have hn : n = 3 := hln.resolve_left (by intro q; cases q)
        subst hn
        rcases hlk with ⟨-, hlk⟩ | ⟨hz, -⟩
        · have hlen : h'.length = h.length ∧ am_sl0 h' = am_sl0 h := am_acp_len hp
          rw [hlen.1, hlen.2] at kk
          exact am_s_acp hx hb (hml.trans hlh.1.symm) hT hown (am_lk_in hlk) am_w_sys.1 am_w_sys.2.1 am_w_sys.2.2 had (Nat.le_of_lt hle) hK hR hl (by omega) (by omega) hd hp (fun H1 locs1 hR1 hl1 => kk H1 locs1 ls hR1 hl1 hlh)
        · cases hz
      · rcases hlk with ⟨hz, -⟩ | ⟨hz, -⟩ | ⟨hz, -⟩ <;> cases hz
    · -- clone
      obtain ⟨idx, ⟨rfl, hlk⟩ | ⟨rfl, hlk⟩⟩ := am_ck_dyn hk
      · rcases hlk with ⟨hz, -⟩ | ⟨hz, -⟩ <;> cases hz
      · have hn : n = 3 := hln.resolve_left (by intro q; cases q)
        subst hn
        rcases hlk with ⟨-, hlk⟩ | ⟨hz, -⟩ | ⟨hz, -⟩
        · have hlen := am_cln_len hp
          rw [e1, e2, hlen] at kk
          rw [e1, e2, hlen] at hrm
          exact am_s_cln hx hb (hml.trans hlh.1.symm) hT hown (am_lk_in hlk) am_w_cln.1 am_w_cln.2.1 am_w_cln.2.2.1 am_w_cln.2.2.2.1 am_w_cln.2.2.2.2 had hle hK hR (by omega) (by omega) hrm.1 hrm.2 hd hp (fun H1 hR1 => kk H1 locs ls hR1 hl hlh)
        · cases hz
        · cases hz
    · -- length
      obtain ⟨idx, ⟨rfl, hlk⟩ | ⟨rfl, hlk⟩⟩ := am_ck_dyn hk
      · rcases hlk with ⟨hz, -⟩ | ⟨hz, -⟩ <;> cases hz
      · have hn : n = 3 := hln.resolve_left (by intro q; cases q)
        subst hn
        rcases hlk with ⟨hz, -⟩ | ⟨-, hlk⟩ | ⟨hz, -⟩
        · cases hz
        · have hle2 : h.length - n0 ≤ R.cells ∧ am_sl0 h - s0 ≤ R.slots := by omega
          exact am_s_str hx hb hml hlh.1 hG hown hwd hF hR hfr hlo hle2 (Or.inl ⟨hd, am_T_G (am_lk_in hlk) rfl am_nest_bad, hp⟩) (fun eq => by rw [eq] at kk; exact kk H locs ls hR hl hlh)
        · cases hz
    · -- charAt
      obtain ⟨idx, ⟨rfl, hlk⟩ | ⟨rfl, hlk⟩⟩ := am_ck_dyn hk
      · rcases hlk with ⟨hz, -⟩ | ⟨hz, -⟩ <;> cases hz
      · have hn : n = 3 := hln.resolve_left (by intro q; cases q)
        subst hn
        rcases hlk with ⟨hz, -⟩ | ⟨hz, -⟩ | ⟨-, hlk⟩
        · cases hz
        · cases hz
        · have hle2 : h.length - n0 ≤ R.cells ∧ am_sl0 h - s0 ≤ R.slots := by omega
          exact am_s_str hx hb hml hlh.1 hG hown hwd hF hR hfr hlo hle2 (Or.inr ⟨hd, am_T_G (am_lk_in hlk) rfl am_nest_bad, hp⟩) (fun eq => by rw [eq] at kk; exact kk H locs ls hR hl hlh)
    · -- min
      obtain ⟨idx, ⟨rfl, hlk⟩ | ⟨rfl, hlk⟩⟩ := am_ck_dyn hk
      · have hn : n = 3 := hln.resolve_left (by intro q; cases q)
        subst hn
        rcases hlk with ⟨hz, -⟩ | ⟨-, hlk⟩
        · cases hz
        · have hle2 : h.length - n0 ≤ R.cells ∧ am_sl0 h - s0 ≤ R.slots := by omega
          exact am_s_min hx hb hml hlh.1 hG hown (am_T_G (am_lk_in hlk) rfl am_nest_bad) (by omega) (by omega) hle2 hd hp (fun eq => by rw [eq] at kk; exact kk H locs ls hR hl hlh)
      · rcases hlk with ⟨hz, -⟩ | ⟨hz, -⟩ | ⟨hz, -⟩ <;> cases hz
    · cases hp
  · obtain ⟨as, rest, -, -, ho, -, -⟩ := am_cl_h hp
    cases ho
  · obtain ⟨as, rest, -, -, ho, -, -⟩ := am_cl_h hp
    cases ho
  · obtain ⟨as, rest, -, -, ho, -, -⟩ := am_cl_h hp
    cases ho
  · cases ho
end AmStep
end
section
/-! ===== calls; a run of the abstract machine is one of the machine ===== -/
def am_rm (d mc ms : Nat) : Room := { frames := d + 4, cells := mc, slots := ms, locals := 40 * d + 200 }
def am_Pc (D : va_G) (kA : Nat → ClassId) (ad adV : Nat → Nat) (sz0 : Nat) (H00 : Heap) (ro : Nat → Option (List Int32)) (as : List Value) (h : am_H) : Array Value → State → Prop := fun v U => v = (as.map (am_v ad)).toArray ∧ am_Wd D kA ad adV sz0 H00 ro U ∧ am_RH D kA ad sz0 H00 h U.heap
def am_Qc (D : va_G) (kA : Nat → ClassId) (ad : Nat → Nat) (sz0 : Nat) (H00 : Heap) (v : Option Value) (h1 : am_H) : Array Value → State → Outcome → State → Prop := fun _ _ o t => o = .returned (v.map (am_v ad)) ∧ am_RH D kA ad sz0 H00 h1 t.heap
theorem am_blind {D : va_G} {kA : Nat → ClassId} {ad adV : Nat → Nat} {sz0 : Nat} {H00 : Heap} {ro : Nat → Option (List Int32)} {as : List Value} {h : am_H} : FrameBlind (am_Pc D kA ad adV sz0 H00 ro as h) := fun a U g mk q => ⟨q.1, am_Wd.warm (s := U) (State.WarmedH.refl U) q.2.1, q.2.2⟩
theorem am_pop_spec : ∀ (n : Nat) (acc st as rest : List Value), am_pop n acc st = some (as, rest) → ∃ xs, st = xs ++ rest ∧ as = xs.reverse ++ acc ∧ xs.length = n := by
  intro n
  induction n with
  | zero =>
    intro acc st as rest e
    simp only [am_pop, Option.some.injEq, Prod.mk.injEq] at e
    exact ⟨[], by rw [e.2]; rfl, by rw [e.1]; rfl, rfl⟩
  | succ n ih =>
    intro acc st as rest e
    cases st with
    | nil => simp [am_pop] at e
    | cons v st =>
      simp only [am_pop] at e
      obtain ⟨xs, h1, h2, h3⟩ := ih _ _ _ _ e
      exact ⟨v :: xs, by rw [h1]; rfl, by rw [h2]; simp, by simp [h3]⟩
theorem am_pop_st {n : Nat} {st as rest : List Value} (e : am_pop n [] st = some (as, rest)) : st = as.reverse ++ rest ∧ as.length = n := by
  obtain ⟨xs, h1, h2, h3⟩ := am_pop_spec _ _ _ _ _ e
  rw [List.append_nil] at h2
  subst h2
  exact ⟨by rw [List.reverse_reverse]; exact h1, by simp [h3]⟩
section AmCont
variable {p : Program} {l : Launch} {e : Env} {R : Room} {s : State} {m : MethodId} {args : Array Value} {below : List Frame} {meth : Method} {c : Code} {H : Heap} {locs : List Loc} {Q : State → Prop} {cc : ByteArray} {pc nL oc : Nat} {ls : Array Slot} {ad adV : Nat → Nat} {D : va_G} {kA : Nat → ClassId} {sz0 : Nat} {H00 : Heap} {h h1 : am_H} {st : List Value} {ro : Nat → Option (List Int32)} {cells slots mc ms : Nat} {v : Option Value} {st0 rest : List Value} {a : Array Value}
theorem am_contW (hr : va_Run p l e R s m args below meth c H locs cells slots mc ms (F0 m pc ls st0) rest (am_Qc D kA ad sz0 H00 v h1 a) (fun q => sz0 ≤ q)) (hl : ∀ q ∈ locs, sz0 ≤ q.base)
    (kk : ∀ (H1 : Heap) (locs1 : List Loc), am_RH D kA ad sz0 H00 h1 H1 → (∀ q ∈ locs1, sz0 ≤ q.base) → W p l e R s m args below meth c H1 locs1 (cells + mc) (slots + ms) Q (F0 m (pc + 3) ls ((v.map (am_v ad)).toList ++ rest))) : W p l e R s m args below meth c H locs cells slots Q (F0 m pc ls st0) := by
  intro T hT X
  obtain ⟨w, st₀, t, T', L, h0, X', hL, e1, e2, ⟨hq1, hq2⟩, stp⟩ := hr T hT X
  cases hq1
  obtain ⟨t2, a1, b1⟩ := kk t.heap (locs ++ L) hq2 (fun q hq => by
    rcases List.mem_append.mp hq with hq | hq
    · exact hl q hq
    · exact hL q hq) T' e1 X'
  exact ⟨t2, stp t2 a1, b1⟩
/-- a call of a method of which the contract stands -/
theorem am_callW (hx : p.tables.exec = Jvm.exec) (hb : c.code = cc) (hml : c.maxLocals = nL) (hown : s.vm.findClass (am_own oc) = some m.cls) (hT : ∀ w ∈ am_T, w.before args s = true) (hwd : am_Wd D kA ad adV sz0 H00 ro s) (hF : am_Fx ad sz0 H00) (hR : am_RH D kA ad sz0 H00 h H) (hl : ∀ q ∈ locs, sz0 ≤ q.base) (hls : ls.size = nL) (hlen : h.length ≤ am_RO)
    {d n k z idx mL : Nat} {M : am_M} {y : MethodName} {bytes : ByteArray} {ret : Option FieldType} {ok fl : Nat} {as rst : List Value} (hfr : d + 5 ≤ R.frames) (hlo : 40 * (d + 1) + 200 ≤ R.locals)
    (hfact : am_F k M mL) (hY : am_Y k = some (y, bytes, ret, ok, fl)) (hM : Met l y (Cond.code y bytes mL ret :: am_G) (am_rm d mc ms) (am_Pc D kA ad adV sz0 H00 ro as h) (am_Qc D kA ad sz0 H00 v h1) mc ms (fun q => sz0 ≤ q))
    (hpop : st = as.reverse ++ rst) (hw : am_w rst ≤ 8) (hrm : cells + mc ≤ R.cells ∧ slots + ms ≤ R.slots) (hcN : am_cN oc y idx = true)
    (hkind : (fl = 0 ∧ decode cc pc = .ok (.invokestatic idx, 3) ∧ am_np y = some as.length) ∨ (fl = 1 ∧ decode cc pc = .ok (.invokevirtual idx, 3) ∧ ∃ b As ci fs, as = .ref b :: As ∧ am_np y = some As.length ∧ h[b]? = some (.inr (.inr (ci, fs))) ∧ ci = ok ∧ ok < 13) ∨ (fl = 2 ∧ decode cc pc = .ok (.invokespecial idx, 3) ∧ ∃ b As, as = .ref b :: As ∧ am_np y = some As.length))
    (kk : ∀ (H1 : Heap) (locs1 : List Loc), am_RH D kA ad sz0 H00 h1 H1 → (∀ q ∈ locs1, sz0 ≤ q.base) → W p l e R s m args below meth c H1 locs1 (cells + mc) (slots + ms) Q (F0 m (pc + 3) ls ((v.map (am_v ad)).toList ++ rst.map (am_v ad)))) : W p l e R s m args below meth c H locs cells slots Q (F0 m pc ls (st.map (am_v ad))) := by
  obtain ⟨y2, b2, r2, o2, fl2, hY2, hpn, hcode, hini, hhan, hnL, hcls, -, -, hfl⟩ := hfact
  rw [hY] at hY2
  cases hY2
  have hG : ∀ w ∈ am_G, w.before args s = true := fun w hw => hT w (am_inT hw)
  have S : CallFix p m c cc nL s args am_G (am_own oc) := ⟨hx, hb, hml, hown, hG⟩
  have hRR : (am_rm d mc ms).frames + 1 ≤ R.frames ∧ 8 + (mL + 11) + (am_rm d mc ms).locals ≤ R.locals := ⟨by show d + 4 + 1 ≤ _; omega, by show 8 + (mL + 11) + (40 * d + 200) ≤ _; omega⟩
  have hPc : ∀ U : State, U.heap = H → s.WarmedH U.vm → am_Pc D kA ad adV sz0 H00 ro as h (as.map (am_v ad)).toArray U := fun U hu hW => ⟨rfl, hwd.warm hW, by rw [hu]; exact hR⟩
  have hroom : 2 * (F0 m pc ls (st.map (am_v ad))).monitorRoom + ((rst.map (am_v ad)).map fun v => v.category).sum ≤ 8 := lv_room (by rw [am_w_map]; exact hw)
  have hlinks : ((Cond.methodLink (am_own oc) idx y).before args s = true) ∨ va_Nw (.methodLinkNest (am_own oc) idx y "TwoHeads") s := by
    unfold am_cN at hcN
    simp only [Bool.or_eq_true, decide_eq_true_eq] at hcN
    rcases hcN with hcN | hcN
    · exact Or.inl (hT _ (am_lk_in hcN))
    · exact Or.inr (va_Nw.of rfl (hT _ (am_lk_in hcN)))
  rcases hkind with ⟨hf0, hd, hnp⟩ | ⟨hf0, hd, b, As, ci, fs, rfl, hnp, hh, rfl, hci⟩ | ⟨hf0, hd, b, As, rfl, hnp⟩
  · -- static
    rcases hfl with ⟨-, hst⟩ | ⟨q, -⟩ | ⟨q, -⟩
    · have hp : PreS s H (am_Pc D kA ad adV sz0 H00 ro as h) (as.map (am_v ad)) := ⟨am_blind, hPc⟩
      have hstk : (F0 m pc ls (st.map (am_v ad))).stack = (as.map (am_v ad)).reverse ++ rst.map (am_v ad) := by
        show st.map (am_v ad) = _
        rw [hpop, List.map_append, List.map_reverse]
      rcases hlinks with hlk | hlk
      · exact am_contW (va_runS S hM ⟨callB_of as.length hG (am_goodG hcode) rfl rfl rfl (hG _ hini) hlk ⟨hhan.1, hhan.2, hnp⟩ hRR, hG _ hst⟩ hp rfl (by rw [List.length_map]) hls hstk hroom hd hrm) hl kk
      · exact am_contW (va_runSN S hM ⟨va_cnB as.length hG (am_goodG hcode) rfl rfl rfl hlk (hG _ hini) ⟨hhan.1, hhan.2, hnp⟩ hRR, hG _ hst, trivial⟩ hp rfl (by rw [List.length_map]) hls hstk hroom hd hrm) hl kk
    · omega
    · omega
  · -- virtual
    rcases hfl with ⟨q, -⟩ | ⟨-, hin, hse⟩ | ⟨q, -⟩
    · omega
    · have hrecv : ∃ cellB : Cell, H[ad b]? = some cellB ∧ cellB.vm.isStatics = false ∧ s.vm.findClass y.cls = some cellB.cls := by
        obtain ⟨r0, g1, g2, cell, g3, g4, g5, -⟩ := hR.2.2 b _ hh
        refine ⟨cell, by rw [hF.2 b (by have := am_hlt hh; omega)]; exact g3, by rw [g5]; rfl, ?_⟩
        obtain ⟨f1, f2, f3, f4, f5, f6, f7, f8, f9⟩ := am_cls _ _ g1
        have := (hwd.1.1.1 _ _ g1).2.1
        rw [hcls, f7, g4]
        exact this
      have hp : PreV s H y.cls (ad b) (am_Pc D kA ad adV sz0 H00 ro (.ref b :: As) h) (As.map (am_v ad)) := ⟨am_blind, hrecv, hPc⟩
      have hstk : (F0 m pc ls (st.map (am_v ad))).stack = (As.map (am_v ad)).reverse ++ .ref (ad b) :: rst.map (am_v ad) := by
        show st.map (am_v ad) = _
        rw [hpop, List.map_append, List.reverse_cons, List.map_append, List.map_reverse, List.append_assoc]
        rfl
      rcases hlinks with hlk | hlk
      · exact am_contW (va_runV S hM ⟨callB_of As.length hG (am_goodG hcode) rfl rfl rfl (hG _ hini) hlk ⟨hhan.1, hhan.2, hnp⟩ hRR, hG _ hin, hG _ hse⟩ hp rfl (by rw [List.length_map]) hls hstk hroom hd hrm) hl kk
      · exact am_contW (va_runVN S hM ⟨va_cnB As.length hG (am_goodG hcode) rfl rfl rfl hlk (hG _ hini) ⟨hhan.1, hhan.2, hnp⟩ hRR, hG _ hin, hG _ hse⟩ hp rfl (by rw [List.length_map]) hls hstk hroom hd hrm) hl kk
    · omega
  · -- a constructor
    rcases hfl with ⟨q, -⟩ | ⟨q, -⟩ | ⟨-, hin, hy1, hret⟩
    · omega
    · omega
    · subst hret
      have hp : PreS s H (am_Pc D kA ad adV sz0 H00 ro (.ref b :: As) h) (.ref (ad b) :: As.map (am_v ad)) := ⟨am_blind, hPc⟩
      have hstk : (F0 m pc ls (st.map (am_v ad))).stack = (As.map (am_v ad)).reverse ++ .ref (ad b) :: rst.map (am_v ad) := by
        show st.map (am_v ad) = _
        rw [hpop, List.map_append, List.reverse_cons, List.map_append, List.map_reverse, List.append_assoc]
        rfl
      rcases hlinks with hlk | hlk
      · exact am_contW (va_runI S hM ⟨callB_of As.length hG (am_goodG hcode) rfl rfl rfl (hG _ hini) hlk ⟨hhan.1, hhan.2, hnp⟩ hRR, hy1, hG _ hin⟩ hp rfl (by rw [List.length_map]) hls hstk hroom hd hrm) hl kk
      · exact am_contW (va_runIN S hM ⟨va_cnB As.length hG (am_goodG hcode) rfl rfl rfl hlk (hG _ hini) ⟨hhan.1, hhan.2, hnp⟩ hRR, hy1, hG _ hin⟩ hp rfl (by rw [List.length_map]) hls hstk hroom hd hrm) hl kk
end AmCont
end
section
/-! ===== the run ===== -/
theorem am_kind3 {i : Instr} (h : am_kind i = 3) : ∃ z, i = .invokevirtual z := by
  cases i <;> first | exact ⟨_, rfl⟩ | cases h
theorem am_kind4 {i : Instr} (h : am_kind i = 4) : ∃ z, i = .invokestatic z := by
  cases i <;> first | exact ⟨_, rfl⟩ | cases h
theorem am_kind5 {i : Instr} (h : am_kind i = 5) : ∃ z, i = .invokespecial z := by
  cases i <;> first | exact ⟨_, rfl⟩ | cases h
theorem am_ck_v {oc z : Nat} {raw : Instr} (h : am_ck3 oc raw (.invokevirtual z) = true) : ∃ idx y b r o f, raw = .invokevirtual idx ∧ am_Y (z / 256) = some (y, b, r, o, f) ∧ am_cN oc y idx = true ∧ am_np y = some (z / 16 % 16 - 1) ∧ 0 < z / 16 % 16 ∧ f = 1 ∧ o = z % 16 ∧ z % 16 < 13 ∧ ¬ z / 256 = 5 ∧ ¬ z / 256 = 4 ∧ ¬ z / 256 = 0 := by
  simp only [am_ck3] at h
  split at h
  · next idx =>
    split at h
    · next q hq =>
      obtain ⟨y, b, r, o, f⟩ := q
      simp only [Bool.and_eq_true, decide_eq_true_eq] at h
      obtain ⟨⟨⟨⟨⟨⟨⟨⟨h1, h2⟩, h3⟩, h4⟩, h5⟩, h6⟩, h7⟩, h8⟩, h9⟩ := h
      exact ⟨idx, y, b, r, o, f, rfl, hq, h1, h2, h3, h4, h5, h6, h7, h8, h9⟩
    · cases h
  · cases h
theorem am_ck_s {oc z : Nat} {raw : Instr} (h : am_ck3 oc raw (.invokestatic z) = true) : ∃ idx y b r o f, raw = .invokestatic idx ∧ am_Y (z / 256) = some (y, b, r, o, f) ∧ am_cN oc y idx = true ∧ am_np y = some (z / 16 % 16) ∧ f = 0 ∧ ¬ z / 256 = 5 ∧ ¬ z / 256 = 4 ∧ ¬ z / 256 = 0 := by
  simp only [am_ck3] at h
  split at h
  · next idx =>
    split at h
    · next q hq =>
      obtain ⟨y, b, r, o, f⟩ := q
      simp only [Bool.and_eq_true, decide_eq_true_eq] at h
      obtain ⟨⟨⟨⟨⟨h1, h2⟩, h3⟩, h4⟩, h5⟩, h6⟩ := h
      exact ⟨idx, y, b, r, o, f, rfl, hq, h1, h2, h3, h4, h5, h6⟩
    · cases h
  · cases h
theorem am_ck_i {oc z : Nat} {raw : Instr} (h : am_ck3 oc raw (.invokespecial z) = true) : ∃ idx y b r o f, raw = .invokespecial idx ∧ am_Y (z / 256) = some (y, b, r, o, f) ∧ am_cN oc y idx = true ∧ am_np y = some (z / 16 % 16 - 1) ∧ 0 < z / 16 % 16 ∧ f = 2 ∧ ¬ z / 256 = 5 ∧ ¬ z / 256 = 4 ∧ (¬ z / 256 = 0 ∨ am_lk oc idx = some (.methodLink (am_own oc) idx Lib.objectInit)) := by
  simp only [am_ck3] at h
  split at h
  · next idx =>
    split at h
    · next q hq =>
      obtain ⟨y, b, r, o, f⟩ := q
      simp only [Bool.and_eq_true, Bool.or_eq_true, decide_eq_true_eq] at h
      obtain ⟨⟨⟨⟨⟨⟨h1, h2⟩, h3⟩, h4⟩, h5⟩, h6⟩, h7⟩ := h
      exact ⟨idx, y, b, r, o, f, rfl, hq, h1, h2, h3, h4, h5, h6, h7⟩
    · cases h
  · cases h
theorem am_run_P {ro : Nat → Option (List Int32)} {d n k : Nat} {as : List Value} {h : am_H} {r : am_An} (e : am_run ro d n k as h = some r) : ∃ M nL, am_P k = some (M, nL) := by
  cases d with
  | zero => simp [am_run] at e
  | succ d =>
    unfold am_run at e
    split at e
    · next M nL hP => exact ⟨M, nL, hP⟩
    · cases e
theorem am_run_0 {ro : Nat → Option (List Int32)} {d n : Nat} {as : List Value} {h : am_H} {v : Option Value} {h1 : am_H} (e : am_run ro d n 0 as h = some (v, h1)) : v = none ∧ h1 = h := by
  cases d with
  | zero => simp [am_run] at e
  | succ d =>
    unfold am_run at e
    have hP : am_P 0 = some (mc_objinit, 1) := rfl
    rw [hP] at e
    dsimp only at e
    split at e
    · cases n with
      | zero => simp [am_ev] at e
      | succ n =>
        unfold am_ev at e
        have h1 : am_one ro mc_objinit (0, am_entry as 1, [], h) = some (.inr (.inr none)) := rfl
        rw [h1] at e
        cases e
        exact ⟨rfl, rfl⟩
    · cases e
theorem am_args_sl (ad : Nat → Nat) : ∀ (as : List Value), (am_args as).length = (lg_sl (as.map (am_v ad))).length ∧ ∀ (i : Nat) (v : Value), (am_args as)[i]? = some (some v) → (lg_sl (as.map (am_v ad)))[i]? = some (.val (am_v ad v)) := by
  intro as
  induction as with
  | nil => exact ⟨rfl, fun i v h => by simp [am_args] at h⟩
  | cons w as ih =>
    have two : ∀ w : Value, w.category = 2 → am_v ad w = w → am_args (w :: as) = some w :: none :: am_args as → (am_args (w :: as)).length = (lg_sl ((w :: as).map (am_v ad))).length ∧ ∀ (i : Nat) (v : Value), (am_args (w :: as))[i]? = some (some v) → (lg_sl ((w :: as).map (am_v ad)))[i]? = some (.val (am_v ad v)) := fun w hc hw ha => by
      have e2 : lg_sl ((w :: as).map (am_v ad)) = .val w :: .second :: lg_sl (as.map (am_v ad)) := by
        simp only [lg_sl, List.map_cons, List.flatMap_cons, hw, hc, if_pos]
        rfl
      rw [ha, e2]
      refine ⟨by simp only [List.length_cons, ih.1], fun i v h => ?_⟩
      match i, h with
      | 0, h => cases h; rw [hw]; rfl
      | 1, h => cases h
      | (i + 2), h => exact ih.2 i v h
    have one : ∀ w : Value, w.category = 1 → am_args (w :: as) = some w :: am_args as → (am_args (w :: as)).length = (lg_sl ((w :: as).map (am_v ad))).length ∧ ∀ (i : Nat) (v : Value), (am_args (w :: as))[i]? = some (some v) → (lg_sl ((w :: as).map (am_v ad)))[i]? = some (.val (am_v ad v)) := fun w hc ha => by
      have hc2 : ¬ (am_v ad w).category = 2 := by rw [am_v_cat, hc]; decide
      have e2 : lg_sl ((w :: as).map (am_v ad)) = .val (am_v ad w) :: lg_sl (as.map (am_v ad)) := by
        simp only [lg_sl, List.map_cons, List.flatMap_cons]
        rw [if_neg hc2]
        rfl
      rw [ha, e2]
      refine ⟨by simp only [List.length_cons, ih.1], fun i v h => ?_⟩
      match i, h with
      | 0, h => cases h; rfl
      | (i + 1), h => exact ih.2 i v h
    cases w <;> first | exact two _ rfl rfl rfl | exact one _ rfl rfl
theorem am_entry_lh {ad : Nat → Nat} {as : List Value} {nL : Nat} (hle : (am_args as).length ≤ nL) : am_lh ((lg_sl (as.map (am_v ad)) ++ List.replicate (nL - (lg_sl (as.map (am_v ad))).length) Slot.unset).toArray) nL ad (am_entry as nL) := by
  obtain ⟨h1, h2⟩ := am_args_sl ad as
  have h3 := lv_entry (as.map (am_v ad)) (n := nL) (by rw [← h1]; exact hle)
  refine ⟨h3.1, ?_, h3.2.1, fun i v hi => ?_⟩
  · unfold am_entry
    rw [List.length_append, List.length_replicate]
    omega
  · unfold am_entry at hi
    by_cases hl : i < (am_args as).length
    · rw [List.getElem?_append_left hl] at hi
      have := h2 i v hi
      rw [List.getElem?_toArray, List.getElem?_append_left (by omega)]
      exact this
    · rw [List.getElem?_append_right (by omega), List.getElem?_replicate] at hi
      split at hi <;> cases hi
section AmRun
variable {l : Launch} {ad adV : Nat → Nat} {D : va_G} {kA : Nat → ClassId} {sz0 : Nat} {H00 : Heap} {ro : Nat → Option (List Int32)}
/-- the contracts of all methods at a depth of d -/
def am_IH (l : Launch) (ad adV : Nat → Nat) (D : va_G) (kA : Nat → ClassId) (sz0 : Nat) (H00 : Heap) (ro : Nat → Option (List Int32)) (d n : Nat) : Prop :=
  ∀ (k : Nat) (as : List Value) (h : am_H) (v : Option Value) (h1 : am_H) (M : am_M) (mL : Nat) (y : MethodName) (bytes : ByteArray) (ret : Option FieldType) (ok fl : Nat), k ≠ 5 → k ≠ 0 → k ≠ 4 → am_P k = some (M, mL) → am_Y k = some (y, bytes, ret, ok, fl) → am_run ro d n k as h = some (v, h1) → am_wf h → h1.length < am_RO → am_Fx ad sz0 H00 →
    Met l y (Cond.code y bytes mL ret :: am_G) (am_rm d (h1.length - h.length) (am_sl0 h1 - am_sl0 h)) (am_Pc D kA ad adV sz0 H00 ro as h) (am_Qc D kA ad sz0 H00 v h1) (h1.length - h.length) (am_sl0 h1 - am_sl0 h) (fun q => sz0 ≤ q)
set_option maxHeartbeats 4000000 in
theorem am_evW (hall : ∀ (k : Nat) (M : am_M) (nL : Nat), am_P k = some (M, nL) → k ≠ 5 → k ≠ 0 → k ≠ 4 → am_F k M nL) {d nn : Nat} (IH : am_IH l ad adV D kA sz0 H00 ro d nn) {p : Program} {e : Env} {R : Room} {s : State} {m : MethodId} {args : Array Value} {below : List Frame} {meth : Method} {c : Code} {Q : State → Prop} {cc : ByteArray} {nL oc : Nat} {ret : Option FieldType} {M : am_M} {n0 s0 : Nat} {v : Option Value} {h1 : am_H}
    (hx : p.tables.exec = Jvm.exec) (hb : c.code = cc) (hml : c.maxLocals = nL) (hown : s.vm.findClass (am_own oc) = some m.cls) (hT : ∀ w ∈ am_T, w.before args s = true) (hwd : am_Wd D kA ad adV sz0 H00 ro s) (hF : am_Fx ad sz0 H00) (hck : am_ckM oc ret M cc 0 (16 * M.2.2.length) = true) (hin : M.1 < 13 → meth.name = "<init>" ∧ am_own oc = am_own M.1) (hfr : d + 5 ≤ R.frames) (hlo : 40 * (d + 1) + 200 ≤ R.locals) (hrm : h1.length - n0 ≤ R.cells ∧ am_sl0 h1 - s0 ≤ R.slots) (hlt : h1.length < am_RO)
    (hend : ∀ (H1 : Heap) (locs1 : List Loc) (pc1 : Nat) (ls1 : Array Slot) (st1 : List Value) (i : Instr) (n : Nat), am_fi M pc1 = some (i, n) → 6 ≤ am_kind i → am_rt M i st1 = some v → am_RH D kA ad sz0 H00 h1 H1 → (∀ q ∈ locs1, sz0 ≤ q.base) → W p l e R s m args below meth c H1 locs1 (h1.length - n0) (am_sl0 h1 - s0) Q (F0 m pc1 ls1 (st1.map (am_v ad)))) :
    ∀ (n pc : Nat) (L : am_L) (st : List Value) (h : am_H) (H : Heap) (locs : List Loc) (ls : Array Slot), am_ev ro (am_run ro d nn) M n (pc, L, st, h) = some (v, h1) → am_RH D kA ad sz0 H00 h H → (∀ q ∈ locs, sz0 ≤ q.base) → am_lh ls nL ad L → am_wf h → n0 ≤ h.length → s0 ≤ am_sl0 h → W p l e R s m args below meth c H locs (h.length - n0) (am_sl0 h - s0) Q (F0 m pc ls (st.map (am_v ad))) := by
  intro n
  induction n with
  | zero => intro pc L st h H locs ls ev; simp [am_ev] at ev
  | succ n ih =>
    intro pc L st h H locs ls ev hR hl hlh hwf hn0 hs0
    have hgr1 : am_gr h h1 := am_ev_gr (fun k as h v h1 hr => am_run_gr d nn k as h v h1 hr) _ _ _ _ _ _ _ ev
    unfold am_ev at ev
    cases ho : am_one ro M (pc, L, st, h) with
    | none => rw [ho] at ev; simp at ev
    | some o =>
      rw [ho] at ev
      rcases o with ⟨pc', L', st', h'⟩ | o
      · -- on in the frame
        have ev : am_ev ro (am_run ro d nn) M n (pc', L', st', h') = some (v, h1) := ev
        have hgr2 : am_gr h' h1 := am_ev_gr (fun k as h v h1 hr => am_run_gr d nn k as h v h1 hr) _ _ _ _ _ _ _ ev
        have hgr3 : am_gr h h' := by
          obtain ⟨i, n2, hf, hcs⟩ := am_one_cases ho
          rcases hcs with ⟨-, L1, st1, -, ho2⟩ | ⟨-, pc1, st1, -, ho2⟩ | ⟨-, st1, h2, hh, ho2⟩ | ⟨-, hh⟩ | ⟨-, hh⟩ | ⟨-, hh⟩ | ⟨-, v1, -, ho2⟩
          · cases ho2; exact am_gr.refl _
          · cases ho2; exact am_gr.refl _
          · cases ho2; exact am_heap_gr hh
          · obtain ⟨as, rest, -, -, ho2, -, -⟩ := am_cl_h hh; cases ho2
          · obtain ⟨as, rest, -, -, ho2, -, -⟩ := am_cl_h hh; cases ho2
          · obtain ⟨as, rest, -, -, ho2, -, -⟩ := am_cl_h hh; cases ho2
          · cases ho2
        have b1 := hgr2.1
        have b2 := hgr2.2.1
        have b3 := hgr3.1
        have b4 := hgr3.2.1
        exact am_stepW hx hb hml hown hT hwd hF hck hin (by omega) (by omega) hn0 hs0 hR hl hlh hwf ho ⟨by omega, by omega⟩ (by omega) (fun H1 locs1 ls1 hR1 hl1 hlh1 => ih pc' L' st' h' H1 locs1 ls1 ev hR1 hl1 hlh1 (hgr3.2.2 hwf) (by omega) (by omega))
      · obtain ⟨i, n2, hf, hcs⟩ := am_one_cases ho
        obtain ⟨raw, hd, hln, hk⟩ := am_ckM_at hck hf
        -- what a call needs, by its kind
        have call : ∀ (md z idx : Nat) (y : MethodName) (by1 : ByteArray) (r1 : Option FieldType) (o1 f1 : Nat) (as rest : List Value), o = .inl (z / 256, as, (pc + 3, L, rest, h)) → am_pop (z / 16 % 16) [] st = some (as, rest) → am_w rest ≤ 8 → am_Y (z / 256) = some (y, by1, r1, o1, f1) → am_cN oc y idx = true → ¬ z / 256 = 5 → ¬ z / 256 = 4 → ¬ z / 256 = 0 →
            ((f1 = 0 ∧ decode cc pc = .ok (.invokestatic idx, 3) ∧ am_np y = some as.length) ∨ (f1 = 1 ∧ decode cc pc = .ok (.invokevirtual idx, 3) ∧ ∃ b As ci fs, as = .ref b :: As ∧ am_np y = some As.length ∧ h[b]? = some (.inr (.inr (ci, fs))) ∧ ci = o1 ∧ o1 < 13) ∨ (f1 = 2 ∧ decode cc pc = .ok (.invokespecial idx, 3) ∧ ∃ b As, as = .ref b :: As ∧ am_np y = some As.length)) →
            W p l e R s m args below meth c H locs (h.length - n0) (am_sl0 h - s0) Q (F0 m pc ls (st.map (am_v ad))) := by
          intro md z idx y by1 r1 o1 f1 as rest hoc hpop hw hY hcN h5 h4 h0 hkind
          subst hoc
          dsimp only at ev
          split at ev
          · next v2 h2 hcl =>
            obtain ⟨M2, mL2, hP2⟩ := am_run_P hcl
            have g1 : am_gr h h2 := am_run_gr _ _ _ _ _ _ _ hcl
            have g2 : am_gr h2 h1 := am_ev_gr (fun k as h v h1 hr => am_run_gr d nn k as h v h1 hr) _ _ _ _ _ _ _ ev
            have b1 := g1.1
            have b2 := g1.2.1
            have b3 := g2.1
            have b4 := g2.2.1
            have q1 : h.length - n0 + (h2.length - h.length) ≤ R.cells := by clear hkind; omega
            have q2 : am_sl0 h - s0 + (am_sl0 h2 - am_sl0 h) ≤ R.slots := by clear hkind; omega
            have hMet := IH (z / 256) as h v2 h2 M2 mL2 y by1 r1 o1 f1 h5 h0 h4 hP2 hY hcl hwf (by omega) hF
            refine am_callW (n := 0) (z := 0) hx hb hml hown hT hwd hF hR hl hlh.1 (by omega) hfr hlo (hall _ _ _ hP2 h5 h0 h4) hY hMet (am_pop_st hpop).1 hw ⟨q1, q2⟩ hcN hkind (fun H1 locs1 hR1 hl1 => ?_)
            have e1 : h.length - n0 + (h2.length - h.length) = h2.length - n0 := by omega
            have e2 : am_sl0 h - s0 + (am_sl0 h2 - am_sl0 h) = am_sl0 h2 - s0 := by omega
            rw [e1, e2]
            have e3 : (v2.map (am_v ad)).toList ++ rest.map (am_v ad) = (v2.toList ++ rest).map (am_v ad) := by
              cases v2 <;> rfl
            rw [e3]
            exact ih (pc + 3) L _ h2 H1 locs1 ls ev hR1 hl1 hlh (g1.2.2 hwf) (by omega) (by omega)
          · cases ev
        rcases hcs with ⟨-, L1, st1, -, ho2⟩ | ⟨-, pc1, st1, -, ho2⟩ | ⟨-, st1, h2, hh, ho2⟩ | ⟨hk0, hh⟩ | ⟨hk0, hh⟩ | ⟨hk0, hh⟩ | ⟨hk0, v1, hrt, ho2⟩
        · cases ho2
        · cases ho2
        · cases ho2
        · -- virtual
          obtain ⟨z, rfl⟩ := am_kind3 hk0
          have hk : am_ck3 oc raw (.invokevirtual z) = true := hk
          obtain ⟨idx, y, by1, r1, o1, f1, rfl, hY, hcN, hnp, hpos, hf1, ho1, hz13, h5, h4, h0⟩ := am_ck_v hk
          obtain ⟨as, rest, hpop, hw, ho2, hvirt, -⟩ := am_cl_h hh
          cases ho2
          have hn : n2 = 3 := hln.resolve_left (by intro q; cases q)
          subst hn
          obtain ⟨b, As, ci, fs, rfl, hhb, hci⟩ := hvirt rfl
          have hlen := (am_pop_st hpop).2
          have hz : am_cz (.invokevirtual z) = z := rfl
          rw [hz] at hlen hci hpop
          refine call 1 z idx y by1 r1 o1 f1 _ rest rfl hpop hw hY hcN h5 h4 h0 (Or.inr (Or.inl ⟨hf1, hd, b, As, ci, fs, rfl, ?_, hhb, by omega, by omega⟩))
          rw [hnp]
          simp only [List.length_cons] at hlen
          congr 1
          omega
        · -- static
          obtain ⟨z, rfl⟩ := am_kind4 hk0
          have hk : am_ck3 oc raw (.invokestatic z) = true := hk
          obtain ⟨idx, y, by1, r1, o1, f1, rfl, hY, hcN, hnp, hf1, h5, h4, h0⟩ := am_ck_s hk
          obtain ⟨as, rest, hpop, hw, ho2, -, -⟩ := am_cl_h hh
          cases ho2
          have hn : n2 = 3 := hln.resolve_left (by intro q; cases q)
          subst hn
          have hlen := (am_pop_st hpop).2
          have hz : am_cz (.invokestatic z) = z := rfl
          rw [hz] at hlen hpop
          exact call 0 z idx y by1 r1 o1 f1 as rest rfl hpop hw hY hcN h5 h4 h0 (Or.inl ⟨hf1, hd, by rw [hnp, hlen]⟩)
        · -- a constructor
          obtain ⟨z, rfl⟩ := am_kind5 hk0
          have hk : am_ck3 oc raw (.invokespecial z) = true := hk
          obtain ⟨idx, y, by1, r1, o1, f1, rfl, hY, hcN, hnp, hpos, hf1, h5, h4, h0⟩ := am_ck_i hk
          obtain ⟨as, rest, hpop, hw, ho2, -, hcons⟩ := am_cl_h hh
          cases ho2
          have hn : n2 = 3 := hln.resolve_left (by intro q; cases q)
          subst hn
          obtain ⟨b, As, rfl⟩ := hcons (by decide)
          have hlen := (am_pop_st hpop).2
          have hz : am_cz (.invokespecial z) = z := rfl
          rw [hz] at hlen hpop
          by_cases hz0 : z / 256 = 0
          · -- Object's own
            have hlk := h0.resolve_left (fun q => q hz0)
            have hz1 : am_cz (.invokespecial z) / 256 = 0 := hz0
            dsimp only at ev
            rw [hz1] at ev
            rw [hz0] at hY
            cases hY
            have hAs : As = [] := by
              have e9 : am_np ⟨"java/lang/Object", "<init>", "()V"⟩ = some 0 := by decide +kernel
              rw [e9] at hnp
              simp only [List.length_cons] at hlen
              have : z / 16 % 16 - 1 = 0 := (Option.some.inj hnp).symm
              exact List.length_eq_zero_iff.mp (by omega)
            subst hAs
            split at ev
            · next v2 h2 hcl =>
              obtain ⟨rfl, rfl⟩ := am_run_0 hcl
              have hstk : st.map (am_v ad) = .ref (ad b) :: rest.map (am_v ad) := by
                rw [(am_pop_st hpop).1]; rfl
              rw [hstk]
              refine W.objInit hx hb hown (hT _ (am_lk_in hlk)) (hT _ (am_inT (am_inG (i := 118) (by decide +kernel) rfl))) (hT (.code Lib.objectInit ⟨#[0xb1]⟩ 1 none) (am_inT (am_inG (i := 119) (by decide +kernel) rfl))) rfl (hlh.1.trans hml.symm) rfl hd (by omega) ?_ ?_
              · show 2 * 0 + _ + 12 ≤ _
                rw [am_w_map]
                omega
              · exact ih (pc + 3) L _ h2 H locs ls ev hR hl hlh hwf hn0 hs0
            · cases ev
          · refine call 2 z idx y by1 r1 o1 f1 _ rest rfl hpop hw hY hcN h5 h4 hz0 (Or.inr (Or.inr ⟨hf1, hd, b, As, rfl, ?_⟩))
            rw [hnp]
            simp only [List.length_cons] at hlen
            congr 1
            omega
        · -- the end
          cases ho2
          cases ev
          exact hend H locs pc ls st i n2 hf hk0 hrt hR hl
end AmRun
end
section
/-! ===== every method's contract, at every depth ===== -/
theorem am_rt_cases {M : am_M} {i : Instr} {st : List Value} {v : Option Value} (h : am_rt M i st = some v) : (i = .ireturn ∧ ∃ x, st = [.int x] ∧ v = some (.int x) ∧ (M.2.1 = true → x = 0 ∨ x = 1)) ∨ (i = .lreturn ∧ ∃ x, st = [.long x] ∧ v = some (.long x)) ∨ (i = .areturn ∧ ((∃ x, st = [.ref x] ∧ v = some (.ref x)) ∨ (st = [.null] ∧ v = some .null))) ∨ (i = .return_ ∧ st = [] ∧ v = none) := by
  unfold am_rt at h
  split at h
  · split at h
    · next x =>
      split at h
      · next hb =>
        split at h
        · next hx => cases h; exact Or.inl ⟨rfl, x, rfl, rfl, fun _ => hx⟩
        · cases h
      · next hb => cases h; exact Or.inl ⟨rfl, x, rfl, rfl, fun q => absurd q hb⟩
    · cases h
  · split at h
    · next x => cases h; exact Or.inr (Or.inl ⟨rfl, x, rfl, rfl⟩)
    · cases h
  · split at h
    · next x => cases h; exact Or.inr (Or.inr (Or.inl ⟨rfl, Or.inl ⟨x, rfl, rfl⟩⟩))
    · cases h; exact Or.inr (Or.inr (Or.inl ⟨rfl, Or.inr ⟨rfl, rfl⟩⟩))
    · cases h
  · split at h
    · cases h; exact Or.inr (Or.inr (Or.inr ⟨rfl, rfl, rfl⟩))
    · cases h
  · cases h
section AmMet
variable {ad adV : Nat → Nat} {D : va_G} {kA : Nat → ClassId} {sz0 : Nat} {H00 : Heap} {ro : Nat → Option (List Int32)}
set_option maxHeartbeats 4000000 in
theorem am_runMet (l : Launch) (hall : ∀ (k : Nat) (M : am_M) (nL : Nat), am_P k = some (M, nL) → k ≠ 5 → k ≠ 0 → k ≠ 4 → am_F k M nL) (nn : Nat) : ∀ d, am_IH l ad adV D kA sz0 H00 ro d nn := by
  intro d
  induction d with
  | zero => intro k as h v h1 M mL y bytes ret ok fl h5 h0 h4 hP hY hr; simp [am_run] at hr
  | succ d IH =>
    intro k as h v h1 M mL y bytes ret ok fl h5 h0 h4 hP hY hr hwf hlt hF
    obtain ⟨y2, b2, r2, o2, fl2, hY2, hpn, hcode, hini, hhan, hnL, hcls, hck, hcn, hfl⟩ := hall k M mL hP h5 h0 h4
    rw [hY] at hY2
    cases hY2
    unfold am_run at hr
    rw [hP] at hr
    dsimp only at hr
    split at hr
    · next hle =>
      refine Met.ofW (cc := bytes) (maxL := mL) (ret := ret) hpn rfl ?_
      intro p e s m args below meth c s₁ B hml hv
      obtain ⟨rfl, hwd, hR⟩ := hv
      have hx := B.exec
      have hb := B.bytes
      have hrt := B.returns
      have hts := atoms_spec (ws := Cond.code y bytes mL ret :: am_G) B.pre
      have hT : ∀ w ∈ am_T, w.before (as.map (am_v ad)).toArray s = true := fun w hw => by
        rcases List.mem_append.mp hw with hw | hw
        · exact hts w (List.mem_cons_of_mem _ hw)
        · exact va_Nw.use (am_nest_on w hw) (hwd.2.2.1 w hw)
      have hown : s.vm.findClass (am_own ok) = some m.cls := by rw [← hcls]; exact findClass_of_methodNamed B.named
      have hlocks := B.notSynchronized
      have hin : M.1 < 13 → meth.name = "<init>" ∧ am_own ok = am_own M.1 := fun q => by
        obtain ⟨g1, g2⟩ := hcn q
        exact ⟨by rw [(name_of_methodNamed B.named B.method).1]; exact g1, by rw [← hcls]; exact g2⟩
      rw [lg_entry_eq]
      have key := am_evW hall IH (e := e) (R := (headSpec (Cond.code y bytes mL ret :: am_G) (am_rm (d + 1) (h1.length - h.length) (am_sl0 h1 - am_sl0 h))).room) (Q := MQ below (am_Qc D kA ad sz0 H00 v h1) (as.map (am_v ad)).toArray s (h1.length - h.length) (am_sl0 h1 - am_sl0 h) (fun q => sz0 ≤ q)) (below := below) (n0 := h.length) (s0 := am_sl0 h) (v := v) (h1 := h1) hx hb hml hown hT hwd hF hck hin (Nat.le_refl (d + 5)) (Nat.le_refl (40 * (d + 1) + 200)) ⟨Nat.le_refl _, Nat.le_refl _⟩ hlt ?_ nn 0 (am_entry as mL) [] h s.heap [] _ hr hR (fun q hq => by cases hq) (am_entry_lh hle) hwf (Nat.le_refl _) (Nat.le_refl _)
      · rw [Nat.sub_self, Nat.sub_self] at key
        exact key
      · intro H1 locs1 pc1 ls1 st1 i n hf hk6 hrt1 hR1 hl1
        obtain ⟨raw, hd, hln, hk⟩ := am_ckM_at hck hf
        have hQ : ∀ t : State, t.heap = H1 → s.WarmedH t.vm → am_Qc D kA ad sz0 H00 v h1 (as.map (am_v ad)).toArray s (.returned (v.map (am_v ad))) t := fun t ht _ => ⟨rfl, by rw [ht]; exact hR1⟩
        rcases am_rt_cases hrt1 with ⟨rfl, x, rfl, rfl, hbx⟩ | ⟨rfl, x, rfl, rfl⟩ | ⟨rfl, hst⟩ | ⟨rfl, rfl, rfl⟩
        · have hk2 : (decide (raw = .ireturn) && am_ck5 M.2.1 ret .ireturn) = true := hk
          simp only [Bool.and_eq_true, decide_eq_true_eq, am_ck5] at hk2
          obtain ⟨rfl, hk2⟩ := hk2
          have hn : n = 1 := hln.resolve_left (by intro q; cases q)
          subst hn
          by_cases hB : M.2.1 = true
          · rw [if_pos hB] at hk2
            have hret := of_decide_eq_true hk2
            subst hret
            have hnar : narrow .boolean (.int x) = .int x := by rcases hbx hB with rfl | rfl <;> rfl
            exact W.zret hx hb hrt hnar hQ hl1 hd
          · rw [if_neg hB] at hk2
            have hret := of_decide_eq_true hk2
            subst hret
            exact W.iret hx hb hrt hQ hl1 hd
        · have hk2 : (decide (raw = .lreturn) && am_ck5 M.2.1 ret .lreturn) = true := hk
          simp only [Bool.and_eq_true, decide_eq_true_eq, am_ck5] at hk2
          obtain ⟨rfl, rfl⟩ := hk2
          have hn : n = 1 := hln.resolve_left (by intro q; cases q)
          subst hn
          exact W.lret hx hb hrt hQ hl1 hd
        · have hk2 : (decide (raw = .areturn) && am_ck5 M.2.1 ret .areturn) = true := hk
          simp only [Bool.and_eq_true, decide_eq_true_eq, am_ck5] at hk2
          obtain ⟨rfl, hk2⟩ := hk2
          have hn : n = 1 := hln.resolve_left (by intro q; cases q)
          subst hn
          have hrr : ∃ rt, ret = some rt ∧ ((∃ n, rt = .object n) ∨ ∃ t, rt = .array t) := by
            unfold am_isR at hk2
            split at hk2
            · exact ⟨_, rfl, Or.inl ⟨_, rfl⟩⟩
            · exact ⟨_, rfl, Or.inr ⟨_, rfl⟩⟩
            · cases hk2
          obtain ⟨rt, rfl, hrr⟩ := hrr
          rcases hst with ⟨x, rfl, rfl⟩ | ⟨rfl, rfl⟩
          · exact W.aret hx hb hrt hrr (Or.inr ⟨_, rfl⟩) hQ hl1 hd
          · exact W.aret hx hb hrt hrr (Or.inl rfl) hQ hl1 hd
        · have hk2 : (decide (raw = .return_) && am_ck5 M.2.1 ret .return_) = true := hk
          simp only [Bool.and_eq_true, decide_eq_true_eq, am_ck5] at hk2
          obtain ⟨rfl, rfl⟩ := hk2
          have hn : n = 1 := hln.resolve_left (by intro q; cases q)
          subst hn
          exact W.vret hx hb hrt hQ hl1 hd
    · cases hr
end AmMet
end
section
/-! THE CLAIM OUT OF ONE WALK OF THE LAW'S BODY. Your part is whole_start (and what it stands on); all else here is the same for every law, but numbers. -/
def R_law : String := "TwoHeadsLaw"
def lw_P (b : Addr) (xs : List Int32) (args : Array Value) (s : State) : Prop := args = #[.ref b] ∧ s.IntsAt b xs ∧ xs.length ≤ 3072 ∧ (Jvm.Cond.and given_1 narrow_1).before args s = true
def lw_Q (_ : Array Value) (s : State) (o : Outcome) (t : State) : Prop := o = .returned (some (.int 1)) ∧ Framed s o t [] 600000 7302250
def lw_Z (below : List Frame) (a : Array Value) (s : State) : State → Prop := fun t => ∃ o, t.status = .running ∧ Ended t below o ∧ lw_Q a s o t
/-- the law's own end, with 1 on the stack, nothing written that was there before, its room as the claim has it -/
theorem lw_ret {p : Program} {l : Launch} {e : Env} {s : State} {m : MethodId} {below : List Frame} {meth : Method} {c : Code} {b : Nat} (hx : p.tables.exec = Jvm.exec) (hb : c.code = code) (hr : meth.sig.returnType = ret) (hlocks : meth.locks = false) {pc : Nat} {H : Heap} {ls : Array Slot} (hdg : decode code pc = .ok (.ireturn, 1)) : W p l e room_1 s m #[Value.ref b] below meth c H [] 600000 7302250 (lw_Z below #[Value.ref b] s) (F0 m pc ls [.int 1]) := by
  intro T hT X
  obtain ⟨fs, hret, hrun, hended, hW, hframe⟩ := X.leave (v := some (.int 1)) (hlocks := hlocks) (fun h => by rw [hr] at h; cases h)
  have hmeth' : T.vm.method? m = some meth := X.method'
  refine ⟨T.setFrames fs, ?_, .returned (some (.int 1)), hrun, hended, rfl, ⟨_, rfl⟩, hW, hframe⟩
  jvm_step X.here [X.here.top, hx, hb, hdg, hmeth', hr, ret, narrow_b1]
  (try refine ⟨rfl, ?_⟩); (try refine ⟨rfl, ?_⟩)
  first | (intro acts; rw [hret _ acts rfl rfl rfl]) | rw [hret _ _ rfl rfl rfl]
  exact Steps.refl _
/-- what holds at the law's entry: the machine, the code, the tables' words (any of lw_tbl by 'hts w (by decide +kernel)'), the script of L ints xs at the cell b, what the Statement gives of the start (any of its parts by flat_of_before) -/
def lw_At (p : Program) (s : State) (m : MethodId) (meth : Method) (c : Code) (b L : Nat) (xs : Nat → Int32) : Prop :=
  p.tables.exec = Jvm.exec ∧ c.code = code ∧ meth.sig.returnType = ret ∧ c.maxLocals = 4 ∧ s.vm.findClass R_law = some m.cls ∧ (∀ w ∈ lw_tbl, w.before #[Value.ref b] s = true) ∧ va_X b L xs s s.heap ∧ b < s.heap.size ∧ meth.locks = false ∧ (Jvm.Cond.and given_1 narrow_1).before #[Value.ref b] s = true
end
section
/-! ===== the law's start ===== -/
abbrev am_flat : List Cond := flatC (Jvm.Cond.and given_1 narrow_1)
theorem fl_ex : ∀ i, i < 11 → Cond.exactly (.string RX8 (am_sti i)) "java/lang/String" ∈ am_flat := by decide +kernel
theorem fl_co : ∀ i, i < 11 → Cond.eq (.field (.string RX8 (am_sti i)) "java/lang/String" "coder" "B") (.int 0) ∈ am_flat := by decide +kernel
theorem fl_ar : ∀ i, i < 11 → Cond.arrayOf (.field (.string RX8 (am_sti i)) "java/lang/String" "value" "[B") .byte ∈ am_flat := by decide +kernel
theorem fl_le : ∀ i, i < 11 → Cond.eq (.length (.field (.string RX8 (am_sti i)) "java/lang/String" "value" "[B")) (.int (Int32.ofNat (kw_len.getD i 0))) ∈ am_flat := by decide +kernel
theorem fl_el : ∀ i, i < 11 → ∀ j, j < kw_len.getD i 0 → Cond.eq (.elem (.field (.string RX8 (am_sti i)) "java/lang/String" "value" "[B") (.int (Int32.ofNat j))) (.int ((kw_byt.getD i []).getD j 0)) ∈ am_flat := by decide +kernel
theorem fl_ne : ∀ i, i < 11 → ∀ j, j < 11 → i ≠ j → (Cond.not (Cond.eq (.string RX8 (am_sti i)) (.string RX8 (am_sti j))) ∈ am_flat ∨ Cond.not (Cond.eq (.string RX8 (am_sti j)) (.string RX8 (am_sti i))) ∈ am_flat) := by decide +kernel
def am_sta (z : Nat) : List Int32 := match z with
  | 0 => [-1, 0, 0, 0, 2, 3]
  | 1 => [1, 3, 2, 1, 4, 5]
  | _ => [9999, 9999, 1000, 300, 1000, 900]
theorem fl_sa : ∀ z, z < 3 → Cond.arrayOf (.static "TwoHeads" (am_stn z) "[I") .int ∈ am_flat := by decide +kernel
theorem fl_sl : ∀ z, z < 3 → Cond.eq (.length (.static "TwoHeads" (am_stn z) "[I")) (.int (Int32.ofNat 6)) ∈ am_flat := by decide +kernel
theorem fl_se : ∀ z, z < 3 → ∀ j, j < 6 → Cond.eq (.elem (.static "TwoHeads" (am_stn z) "[I") (.int (Int32.ofNat j))) (.int ((am_sta z).getD j 0)) ∈ am_flat := by decide +kernel
theorem fl_cs : Cond.eq (.static "java/lang/String" "COMPACT_STRINGS" "Z") (.int 1) ∈ am_flat := by decide +kernel
theorem fl_si : Cond.isRef (.static "jdk/internal/util/Preconditions" "SIOOBE_FORMATTER" "Ljava/util/function/BiFunction;") ∈ am_flat := by decide +kernel
theorem tb_ls : ∀ z, z < 3 → Cond.laysStatic "TwoHeads" (am_stn z) "[I" ∈ lw_tbl
  | 0, _ => List.mem_of_getElem? (i := 1106) (by decide +kernel)
  | 1, _ => List.mem_of_getElem? (i := 582) (by decide +kernel)
  | 2, _ => List.mem_of_getElem? (i := 625) (by decide +kernel)
  | (n + 3), h => absurd h (by omega)
theorem tb_sr : ∀ j, j < 11 → Cond.stringRef RX8 (am_sti j) (am_stx j) ∈ lw_tbl
  | 0, _ => List.mem_of_getElem? (i := 675) (by decide +kernel)
  | 1, _ => List.mem_of_getElem? (i := 728) (by decide +kernel)
  | 2, _ => List.mem_of_getElem? (i := 729) (by decide +kernel)
  | 3, _ => List.mem_of_getElem? (i := 730) (by decide +kernel)
  | 4, _ => List.mem_of_getElem? (i := 731) (by decide +kernel)
  | 5, _ => List.mem_of_getElem? (i := 732) (by decide +kernel)
  | 6, _ => List.mem_of_getElem? (i := 737) (by decide +kernel)
  | 7, _ => List.mem_of_getElem? (i := 738) (by decide +kernel)
  | 8, _ => List.mem_of_getElem? (i := 739) (by decide +kernel)
  | 9, _ => List.mem_of_getElem? (i := 740) (by decide +kernel)
  | 10, _ => List.mem_of_getElem? (i := 741) (by decide +kernel)
  | (n + 11), h => absurd h (by omega)
def am_ro (xs : List Int32) (a : Nat) : Option (List Int32) := if a = am_RO + 15 then some xs else if a < am_RO then none else if a < am_RO + 3 then some (am_sta (a - am_RO)) else none
theorem am_arrC {s : State} {args : Array Value} {ty : FieldType} (hty : ∀ C, ty ≠ .object C) (h : (Cond.arrayClass ty).before args s = true) : ∃ cA, ArrOfT s cA ty ∧ va_RA s cA ty ∧ s.vm.findClass ("[" ++ ty.toString) = some cA := by
  obtain ⟨c, k, comp, h1, h2, h3⟩ := Cond.arrayClass_spec h
  refine ⟨c, fun n z => ⟨fun k h => (by cases h), k, h2, comp, h3⟩, ?_, h1⟩
  cases ty with
  | object C => exact absurd rfl (hty C)
  | _ => exact h1
theorem am_arrO {s : State} {args : Array Value} {C : String} (h : (Cond.arrayOver (.object C)).before args s = true) : ∃ cA, ArrOfT s cA (.object C) ∧ va_RA s cA (.object C) := by
  obtain ⟨comp, c, k, h1, h2, h3, h4, h5⟩ := Cond.arrayOver_spec h
  exact ⟨c, fun n z => ⟨fun k h => (by cases h), k, h3, comp, h4⟩, k, comp, h3, h4, h1, h5⟩
theorem am_clsAll {s : State} {args : Array Value} (hT : ∀ w ∈ am_T, w.before args s = true) : ∃ D : va_G, ∀ (k : Nat) (q : vw_C), vwCl[k]? = some q → u_Kn s q.1 q.2.1 q.2.2 (D.1 k) (D.2 k) := by
  have h : ∀ k : Nat, ∃ x : ClassId × (Nat → Nat), ∀ q, vwCl[k]? = some q → u_Kn s q.1 q.2.1 q.2.2 x.1 x.2 := by
    intro k
    cases hk : vwCl[k]? with
    | none => exact ⟨(0, fun _ => 0), fun q h => by cases h⟩
    | some q0 =>
      obtain ⟨f1, f2, f3, f4, f5, f6, f7, f8, f9⟩ := am_cls _ _ hk
      obtain ⟨c, iS, h1⟩ := u_known hT f1 (hT _ f4)
      exact ⟨(c, iS), fun q h => by cases h; exact h1⟩
  obtain ⟨f, hf⟩ := Classical.axiomOfChoice h
  exact ⟨(fun k => (f k).1, fun k => (f k).2), fun k q hq => hf k q hq⟩
set_option maxHeartbeats 4000000 in
theorem am_world {p : Program} {s : State} {m : MethodId} {meth : Method} {c : Code} {b L : Nat} {xs : Nat → Int32} (C0 : lw_At p s m meth c b L xs) : (∀ w ∈ am_T, w.before #[Value.ref b] s = true) ∧ ∃ (D : va_G) (kA : Nat → ClassId) (ad adV : Nat → Nat), am_Fx ad s.heap.size s.heap ∧ am_Wd D kA ad adV s.heap.size s.heap (am_ro ((List.range L).map xs)) s ∧ ad (am_RO + 15) = b := by
  obtain ⟨hx, hb, hr, hml, hown, hts, hX, hbl, hlocks, hgv⟩ := id C0
  have hT : ∀ w ∈ am_T, w.before #[Value.ref b] s = true := fun w hw => by
    rcases List.mem_append.mp hw with hw | hw
    · exact hts w (List.mem_filter.mp hw).1
    · exact hts w (am_nest_in w hw)
  refine ⟨hT, ?_⟩
  have hs := flat_of_before _ hgv
  have hA : ∀ a : Nat, a < s.heap.size → ¬ am_A s.heap.size a := fun a h q => absurd h (Nat.not_lt.mpr q)
  obtain ⟨D, hD⟩ := am_clsAll hT
  -- arrays
  obtain ⟨k0, a01, a02, a03⟩ := am_arrC (ty := .int) (fun C h => by cases h) (hts _ (List.mem_of_getElem? (i := 174) (by decide +kernel)))
  obtain ⟨k1, a11, a12, -⟩ := am_arrC (ty := .byte) (fun C h => by cases h) (hts _ (List.mem_of_getElem? (i := 366) (by decide +kernel)))
  obtain ⟨k2, a21, a22, -⟩ := am_arrC (ty := .boolean) (fun C h => by cases h) (hts _ (List.mem_of_getElem? (i := 1296) (by decide +kernel)))
  have hov : (Cond.arrayOver (.array .int)).before #[Value.ref b] s = true := hts _ (List.mem_of_getElem? (i := 127) (by decide +kernel))
  obtain ⟨comp, k3, kk3, o1, o2, o3, o4, o5⟩ := arrayOverA_spec hov
  have hf4 : (Cond.arrayOver (.object RX5)).before #[Value.ref b] s = true := hts _ (List.mem_of_getElem? (i := 250) (by decide +kernel))
  have hf5 : (Cond.arrayOver (.object RX10)).before #[Value.ref b] s = true := hts _ (List.mem_of_getElem? (i := 438) (by decide +kernel))
  obtain ⟨k4, a41, a42⟩ := am_arrO hf4
  obtain ⟨k5, a51, a52⟩ := am_arrO hf5
  have hcomp : comp = k0 := Option.some.inj (o1.symm.trans a03)
  subst hcomp
  -- statics
  have hst : ∀ z : Nat, ∃ t : Nat, z < 3 → va_Z "TwoHeads" (am_stn z) "[I" (.ref t) (am_A s.heap.size) s s.heap ∧ va_T .int t 6 (fun j => .int ((am_sta z).getD j 0)) (am_A s.heap.size) s s.heap := by
    intro z
    by_cases hz : z < 3
    · obtain ⟨t, ht, hT2⟩ := va_Tof (f := fun j => .int ((am_sta z).getD j 0)) (A := am_A s.heap.size) (N := 6) (by decide) (hs _ (fl_sa z hz)) (va_eqt (hs _ (fl_sl z hz))) (fun j hj => va_eqt (hs _ (fl_se z hz j hj))) hA
      exact ⟨t, fun _ => ⟨va_Zref (hts _ (tb_ls z hz)) (hts _ (List.mem_of_getElem? (i := 91) (by decide +kernel))) ht hA, hT2⟩⟩
    · exact ⟨0, fun h => absurd h hz⟩
  obtain ⟨sa, hsa⟩ := Classical.axiomOfChoice hst
  -- Strings
  obtain ⟨adK, adV, hS, hev⟩ := vk_Sof (N := 11) (tm := fun i => .string RX8 (am_sti i)) (len := kw_len) (byt := kw_byt) (A := am_A s.heap.size) kw_small (fun i hi => hs _ (fl_ex i hi)) (fun i hi => hs _ (fl_co i hi)) (fun i hi => hs _ (fl_ar i hi)) (fun i hi => hs _ (fl_le i hi)) (fun i hi j hj => hs _ (fl_el i hi j hj)) (fun i j hi hj hij => (fl_ne i hi j hj hij).elim (fun h => Or.inl (hs _ h)) (fun h => Or.inr (hs _ h))) hA
  obtain ⟨ad, had⟩ : ∃ ad : Nat → Nat, ad = fun k => if k < am_RO then s.heap.size + k else if k < am_RO + 3 then sa (k - am_RO) else if k = am_RO + 15 then b else adK (k - (am_RO + 16)) := ⟨_, rfl⟩
  have d1 : ∀ k, k < am_RO → ad k = s.heap.size + k := fun k hk => by rw [had]; exact if_pos hk
  have d2 : ∀ z, z < 3 → ad (am_RO + z) = sa z := fun z hz => by
    rw [had]
    show (if am_RO + z < am_RO then _ else _) = _
    rw [if_neg (by omega), if_pos (by omega), Nat.add_sub_cancel_left]
  have d3 : ad (am_RO + 15) = b := by
    rw [had]
    show (if am_RO + 15 < am_RO then _ else _) = _
    rw [if_neg (by omega), if_neg (by omega), if_pos rfl]
  have d4 : ∀ j, j < 11 → ad (am_RO + 16 + j) = adK j := fun j hj => by
    rw [had]
    show (if am_RO + 16 + j < am_RO then _ else _) = _
    rw [if_neg (by omega), if_neg (by omega), if_neg (by omega), Nat.add_sub_cancel_left]
  refine ⟨D, fun k => match k with | 0 => comp | 1 => k1 | 2 => k2 | 3 => k3 | 4 => k4 | _ => k5, ad, adV, ⟨rfl, d1⟩, ⟨⟨⟨hD, ?_⟩, ⟨kk3, o3, o4⟩, va_AO.of hf4, va_AO.of hf5⟩, ?_, fun w hw => va_Nw.of (am_nest_on w hw) (hts w (am_nest_in w hw)), fun z hz => ?_, fun j hj => ?_, ?_, va_Zof (hts _ (List.mem_of_getElem? (i := 689) (by decide +kernel))) (hts _ (List.mem_of_getElem? (i := 108) (by decide +kernel))) (va_eqi (hs _ fl_cs)) hA, va_Zqof (hts _ (List.mem_of_getElem? (i := 705) (by decide +kernel))) (hts _ (List.mem_of_getElem? (i := 110) (by decide +kernel))) (hs _ fl_si) hA⟩, d3⟩
  · intro k q hk
    match k, hk with
    | 0, hk => cases hk; exact ⟨a01, a02⟩
    | 1, hk => cases hk; exact ⟨a11, a12⟩
    | 2, hk => cases hk; exact ⟨a21, a22⟩
    | 3, hk => cases hk; exact ⟨fun n z => ⟨fun k h => (by cases h), kk3, o3, comp, o4⟩, o5⟩
    | 4, hk => cases hk; exact ⟨a41, a42⟩
    | 5, hk => cases hk; exact ⟨a51, a52⟩
    | (k + 6), hk => simp [am_tys] at hk
  · -- what was there before
    intro a ys ha hro
    unfold am_ro at hro
    split at hro
    · next e =>
      cases hro
      rw [e, d3]
      obtain ⟨scr, g1, g2, g3, g4, g5⟩ := hX
      refine ⟨hbl, scr, g1, g2, g3, fun j hj => ?_, fun _ => by simp [g4]⟩
      have hj2 : j < L := by simpa using hj
      rw [g5 j hj2]
      simp [hj2]
    · split at hro
      · cases hro
      · split at hro
        · next e1 e2 e3 =>
          have hro := Option.some.inj hro
          subst hro
          obtain ⟨z, hz, rfl⟩ : ∃ z, z < 3 ∧ a = am_RO + z := ⟨a - am_RO, by omega, by omega⟩
          rw [d2 z hz]
          obtain ⟨-, cell, g1, g2, g3, g4, g5, g6, g7⟩ := hsa z hz
          rw [Nat.add_sub_cancel_left]
          have hl6 : (am_sta z).length = 6 := by unfold am_sta; split <;> rfl
          exact ⟨(Array.getElem?_eq_some_iff.mp g1).1, cell, g1, g2, g3, fun j hj => g6 j (by omega), fun q => absurd q e1⟩
        · cases hro
  · rw [d2 z hz]
    exact (hsa z hz).1
  · rw [d4 j hj]
    exact vk_R.of (hts _ (tb_sr j hj)) (hev j hj)
  · have hcg : ∀ j, j < 11 → (fun j => ad (am_RO + 16 + j)) j = adK j := fun j hj => d4 j hj
    refine ⟨fun i hi => ?_, fun i j hi hj e => hS.2 i j hi hj (by rw [← hcg i hi, ← hcg j hj]; exact e)⟩
    rw [hcg i hi]
    exact hS.1 i hi
set_option maxHeartbeats 4000000 in
/-- the law's run, out of one of the abstract machine -/
theorem am_lawW (hall : ∀ (k : Nat) (M : am_M) (nL : Nat), am_P k = some (M, nL) → k ≠ 5 → k ≠ 0 → k ≠ 4 → am_F k M nL) (hlaw : am_ckM 13 (some .boolean) mc_L_law code 0 (16 * mc_L_law.2.2.length) = true) {p : Program} {e : Env} {s : State} {m : MethodId} {below : List Frame} {meth : Method} {c : Code} (l : Launch) {b L : Nat} {xs : Nat → Int32} (C0 : lw_At p s m meth c b L xs) {d nn : Nat} {h1 : am_H} (hd : d ≤ 2000) (hrun : am_run (am_ro ((List.range L).map xs)) (d + 1) nn 5 [.ref (am_RO + 15)] [] = some (some (.int 1), h1)) (hc : h1.length ≤ 600000) (hsl : am_sl0 h1 ≤ 7302250) :
    W p l e room_1 s m #[Value.ref b] below meth c s.heap [] 0 0 (lw_Z below #[Value.ref b] s) (entryFrame m ([Value.ref b] : List Value).toArray 4) := by
  obtain ⟨hT, D, kA, ad, adV, hF, hwd, hb15⟩ := am_world C0
  obtain ⟨hx, hb, hr, hml, hown, hts, hX, hbl, hlocks, hgv⟩ := id C0
  unfold am_run at hrun
  have hP : am_P 5 = some (mc_L_law, 4) := rfl
  rw [hP] at hrun
  dsimp only at hrun
  split at hrun
  · next hle =>
    rw [lg_entry_eq]
    have hRH : am_RH D kA ad s.heap.size s.heap [] s.heap := ⟨rfl, fun q _ => rfl, fun k c h => by simp at h⟩
    have hent := am_entry_lh (ad := ad) (as := [.ref (am_RO + 15)]) (nL := 4) hle
    have e1 : ([Value.ref (am_RO + 15)] : List Value).map (am_v ad) = [.ref b] := by
      show [Value.ref (ad (am_RO + 15))] = _
      rw [hb15]
    rw [e1] at hent
    have key := am_evW hall (am_runMet l hall nn d) (e := e) (R := room_1) (Q := lw_Z below #[Value.ref b] s) (below := below) (meth := meth) (n0 := 0) (s0 := 0) (v := some (.int 1)) (h1 := h1) (ret := some .boolean) (oc := 13) hx hb hml hown hT hwd hF hlaw (fun q => absurd q (by decide)) (by show d + 5 ≤ 2048; omega) (by show 40 * (d + 1) + 200 ≤ 84000; omega) ⟨by show h1.length - 0 ≤ 600000; omega, by show am_sl0 h1 - 0 ≤ 7302250; omega⟩ (Nat.lt_of_le_of_lt hc (Nat.le_of_ble_eq_true rfl)) ?_ nn 0 (am_entry [.ref (am_RO + 15)] 4) [] [] s.heap [] _ hrun hRH (fun q hq => by cases hq) hent (fun k c h => by simp at h) (Nat.zero_le _) (Nat.zero_le _)
    · exact key
    · intro H1 locs1 pc1 ls1 st1 i n hf hk6 hrt1 hR1 hl1
      obtain ⟨raw, hdc, hln, hk⟩ := am_ckM_at hlaw hf
      rcases am_rt_cases hrt1 with ⟨rfl, x, rfl, hv, hbx⟩ | ⟨rfl, x, rfl, hv⟩ | ⟨rfl, hst⟩ | ⟨rfl, rfl, hv⟩
      · cases hv
        have hk2 : (decide (raw = .ireturn) && am_ck5 mc_L_law.2.1 (some .boolean) .ireturn) = true := hk
        simp only [Bool.and_eq_true, decide_eq_true_eq] at hk2
        obtain ⟨rfl, -⟩ := hk2
        have hn : n = 1 := hln.resolve_left (by intro q; cases q)
        subst hn
        refine W.widen (k := 600000) (n := 7302250) (by omega) (by omega) (va_forget hl1 ?_)
        exact lw_ret hx hb hr hlocks hdc
      · cases hv
      · rcases hst with ⟨x, -, hv⟩ | ⟨-, hv⟩ <;> cases hv
      · cases hv
  · cases hrun
end
section
/-! ===== what a frame does, held against a function: rules ===== -/
/-- if the function comes to x, and x is well, then from the frame cf on all ends with r -/
def am_J (ro : Nat → Option (List Int32)) (d : Nat) (M : am_M) (r : am_An) {α : Type} (cf : am_Cf) (o : Option α) (K : α → Prop) : Prop := ∀ x, o = some x → K x → am_Ev ro d M cf r
/-- a loop: a step goes on (inl) or ends (inr) -/
def wl {σ ρ : Type} (step : σ → Option (σ ⊕ ρ)) : Nat → σ → Option ρ
  | 0, _ => none
  | n + 1, x => match step x with
    | some (.inl y) => wl step n y
    | some (.inr z) => some z
    | none => none
def up {α : Type} (f : Nat → α) (k : Nat) (v : α) : Nat → α := fun j => if j = k then v else f j
section AmJ
variable {ro : Nat → Option (List Int32)} {d : Nat} {M : am_M} {r : am_An} {α β σ ρ : Type} {pc : Nat} {L : am_L} {st : List Value} {h : am_H} {cf cf' : am_Cf} {o o1 o2 : Option α} {K : α → Prop} {x y i v : Int32} {a b : Nat}
theorem am_J.go (n : Nat) (h1 : am_go ro M n cf = some cf') (k : am_J ro d M r cf' o K) : am_J ro d M r cf o K := fun z hz hk => am_Ev.go n h1 (k z hz hk)
theorem am_J.leaf {z : α} (e : K z → am_Ev ro d M cf r) : am_J ro d M r cf (some z) K := fun w hw hk => by cases hw; exact e hk
theorem am_J.ret {z : α} {w : Option Value} (h1 : am_one ro M (pc, L, st, h) = some (.inr (.inr w))) (e : K z → r = (w, h)) : am_J ro d M r (pc, L, st, h) (some z) K := fun q hq hk => by
  cases hq
  rw [e hk]
  exact am_Ev.ret h1
theorem am_J.retz {z : α} (hi : am_fi M pc = some (.ireturn, 1)) (hz : v = 0 ∨ v = 1) (e : K z → r = (some (.int v), h)) : am_J ro d M r (pc, L, [.int v], h) (some z) K := fun q hq hk => by
  cases hq
  rw [e hk]
  exact am_Ev.retz hi hz
theorem am_J.eq (h1 : am_one ro M cf = some (.inl (am_cc .eq x y a b, L, st, h))) (kt : am_J ro d M r (a, L, st, h) o1 K) (kf : am_J ro d M r (b, L, st, h) o2 K) : am_J ro d M r cf (if x = y then o1 else o2) K := fun z hz hk => by
  by_cases c : x = y
  · rw [if_pos c] at hz; exact am_Ev.step (by rw [h1]; simp only [am_cc]; rw [if_pos c]) (kt z hz hk)
  · rw [if_neg c] at hz; exact am_Ev.step (by rw [h1]; simp only [am_cc]; rw [if_neg c]) (kf z hz hk)
theorem am_J.ne (h1 : am_one ro M cf = some (.inl (am_cc .ne x y a b, L, st, h))) (kf : am_J ro d M r (b, L, st, h) o2 K) (kt : am_J ro d M r (a, L, st, h) o1 K) : am_J ro d M r cf (if x = y then o2 else o1) K := fun z hz hk => by
  by_cases c : x = y
  · rw [if_pos c] at hz; exact am_Ev.step (by rw [h1]; simp only [am_cc]; rw [if_neg (fun q => q c)]) (kf z hz hk)
  · rw [if_neg c] at hz; exact am_Ev.step (by rw [h1]; simp only [am_cc]; rw [if_pos c]) (kt z hz hk)
theorem am_J.lt (h1 : am_one ro M cf = some (.inl (am_cc .lt x y a b, L, st, h))) (kt : am_J ro d M r (a, L, st, h) o1 K) (kf : am_J ro d M r (b, L, st, h) o2 K) : am_J ro d M r cf (if x < y then o1 else o2) K := fun z hz hk => by
  by_cases c : x < y
  · rw [if_pos c] at hz; exact am_Ev.step (by rw [h1]; simp only [am_cc]; rw [if_pos c]) (kt z hz hk)
  · rw [if_neg c] at hz; exact am_Ev.step (by rw [h1]; simp only [am_cc]; rw [if_neg c]) (kf z hz hk)
theorem am_J.ge (h1 : am_one ro M cf = some (.inl (am_cc .ge x y a b, L, st, h))) (kt : am_J ro d M r (a, L, st, h) o1 K) (kf : am_J ro d M r (b, L, st, h) o2 K) : am_J ro d M r cf (if y ≤ x then o1 else o2) K := fun z hz hk => by
  by_cases c : y ≤ x
  · rw [if_pos c] at hz; exact am_Ev.step (by rw [h1]; simp only [am_cc]; rw [if_pos c]) (kt z hz hk)
  · rw [if_neg c] at hz; exact am_Ev.step (by rw [h1]; simp only [am_cc]; rw [if_neg c]) (kf z hz hk)
theorem am_J.gt (h1 : am_one ro M cf = some (.inl (am_cc .gt x y a b, L, st, h))) (kt : am_J ro d M r (a, L, st, h) o1 K) (kf : am_J ro d M r (b, L, st, h) o2 K) : am_J ro d M r cf (if y < x then o1 else o2) K := fun z hz hk => by
  by_cases c : y < x
  · rw [if_pos c] at hz; exact am_Ev.step (by rw [h1]; simp only [am_cc]; rw [if_pos c]) (kt z hz hk)
  · rw [if_neg c] at hz; exact am_Ev.step (by rw [h1]; simp only [am_cc]; rw [if_neg c]) (kf z hz hk)
theorem am_J.le (h1 : am_one ro M cf = some (.inl (am_cc .le x y a b, L, st, h))) (kt : am_J ro d M r (a, L, st, h) o1 K) (kf : am_J ro d M r (b, L, st, h) o2 K) : am_J ro d M r cf (if x ≤ y then o1 else o2) K := fun z hz hk => by
  by_cases c : x ≤ y
  · rw [if_pos c] at hz; exact am_Ev.step (by rw [h1]; simp only [am_cc]; rw [if_pos c]) (kt z hz hk)
  · rw [if_neg c] at hz; exact am_Ev.step (by rw [h1]; simp only [am_cc]; rw [if_neg c]) (kf z hz hk)
theorem am_J.ial {xs : List Int32} {f : Int32 → Option α} (hf : am_fi M pc = some (.iaload, 1)) (ha : a < am_RO) (hh : h[a]? = some (.inl (0, xs))) (k : ∀ v, am_J ro d M r (pc + 1, L, .int v :: st, h) (f v) K) : am_J ro d M r (pc, L, .int i :: .ref a :: st, h) ((am_at xs i).bind f) K := fun z hz hk => by
  cases hv : am_at xs i with
  | none => rw [hv] at hz; cases hz
  | some v =>
    rw [hv] at hz
    refine am_Ev.step ?_ (k v z hz hk)
    show am_onx ro M pc L _ h = _
    simp only [am_onx, hf, am_kind, am_heap, am_ial, if_pos ha, hh, hv]
theorem am_J.iar {xs : List Int32} {f : Int32 → Option α} (hf : am_fi M pc = some (.iaload, 1)) (ha : ¬ a < am_RO) (hh : ro a = some xs) (k : ∀ v, am_J ro d M r (pc + 1, L, .int v :: st, h) (f v) K) : am_J ro d M r (pc, L, .int i :: .ref a :: st, h) ((am_at xs i).bind f) K := fun z hz hk => by
  cases hv : am_at xs i with
  | none => rw [hv] at hz; cases hz
  | some v =>
    rw [hv] at hz
    refine am_Ev.step ?_ (k v z hz hk)
    show am_onx ro M pc L _ h = _
    simp only [am_onx, hf, am_kind, am_heap, am_ial, if_neg ha, hh, hv]
theorem am_J.bal {xs : List Int32} {t : Nat} {f : Int32 → Option α} (hf : am_fi M pc = some (.baload, 1)) (ht : t = 1 ∨ t = 2) (hh : h[a]? = some (.inl (t, xs))) (k : ∀ v, am_J ro d M r (pc + 1, L, .int v :: st, h) (f v) K) : am_J ro d M r (pc, L, .int i :: .ref a :: st, h) ((am_at xs i).bind f) K := fun z hz hk => by
  cases hv : am_at xs i with
  | none => rw [hv] at hz; cases hz
  | some v =>
    rw [hv] at hz
    refine am_Ev.step ?_ (k v z hz hk)
    show am_onx ro M pc L _ h = _
    simp only [am_onx, hf, am_kind, am_heap, am_bal, hh, if_pos ht, hv]
theorem am_J.ias {xs : List Int32} {f : List Int32 → Option α} {h' : List Int32 → am_H} (hf : am_fi M pc = some (.iastore, 1)) (hh : h[a]? = some (.inl (0, xs))) (hs : ∀ ys, h.set a (.inl (0, ys)) = h' ys) (k : ∀ ys, am_J ro d M r (pc + 1, L, st, h' ys) (f ys) K) : am_J ro d M r (pc, L, .int v :: .int i :: .ref a :: st, h) ((am_up xs i v).bind f) K := fun z hz hk => by
  cases hv : am_up xs i v with
  | none => rw [hv] at hz; cases hz
  | some ys =>
    rw [hv] at hz
    refine am_Ev.step ?_ (k ys z hz hk)
    show am_onx ro M pc L _ h = _
    simp only [am_onx, hf, am_kind, am_heap, am_ias, hh, hv, hs]
theorem am_J.bas {xs : List Int32} {t : Nat} {f : List Int32 → Option α} {h' : List Int32 → am_H} (hf : am_fi M pc = some (.bastore, 1)) (ht : t = 1 ∨ t = 2) (hh : h[a]? = some (.inl (t, xs))) (hs : ∀ ys, h.set a (.inl (t, ys)) = h' ys) (k : ∀ ys, am_J ro d M r (pc + 1, L, st, h' ys) (f ys) K) : am_J ro d M r (pc, L, .int v :: .int i :: .ref a :: st, h) ((am_up xs i (am_nar t v)).bind f) K := fun z hz hk => by
  cases hv : am_up xs i (am_nar t v) with
  | none => rw [hv] at hz; cases hz
  | some ys =>
    rw [hv] at hz
    refine am_Ev.step ?_ (k ys z hz hk)
    show am_onx ro M pc L _ h = _
    simp only [am_onx, hf, am_kind, am_heap, am_bas, hh, if_pos ht, hv, hs]
/-- a branch over whose ends all is one again -/
theorem am_J.join {q : Option β} {f : β → Option α} {cj : β → am_Cf} (hq : am_J ro d M r cf q (fun j => am_Ev ro d M (cj j) r)) (k : ∀ j, am_J ro d M r (cj j) (f j) K) : am_J ro d M r cf (q.bind f) K := fun z hz hk => by
  cases hv : q with
  | none => rw [hv] at hz; cases hz
  | some j =>
    rw [hv] at hz
    exact hq j hv (k j z hz hk)
/-- a loop -/
theorem am_J.loop {step : σ → Option (σ ⊕ ρ)} {f : ρ → Option α} {n : Nat} {x0 : σ} (cl : σ → am_Cf) (GX : ρ → Prop) (hs : ∀ x, am_J ro d M r (cl x) (step x) (fun y => y.elim (fun x' => am_Ev ro d M (cl x') r) GX)) (hr : ∀ w z, f w = some z → K z → GX w) : am_J ro d M r (cl x0) ((wl step n x0).bind f) K := fun z hz hk => by
  have key : ∀ (n : Nat) (x : σ) (w : ρ), wl step n x = some w → GX w → am_Ev ro d M (cl x) r := by
    intro n
    induction n with
    | zero => intro x w h; simp [wl] at h
    | succ n ih =>
      intro x w h g
      unfold wl at h
      split at h
      · next y hy => exact hs x _ hy (ih y w h g)
      · next w2 hy => cases h; exact hs x _ hy g
      · cases h
  cases hv : wl step n x0 with
  | none => rw [hv] at hz; cases hz
  | some w =>
    rw [hv] at hz
    exact key n x0 w hv (hr w z hz hk)
/-- a call that answers -/
theorem am_J.call {q : Option β} {f : β → Option α} {k : Nat} {as : List Value} {v : β → Value} {h' : β → am_H} (h1 : am_one ro M cf = some (.inr (.inl (k, as, (pc, L, st, h))))) (hc : ∀ w, q = some w → am_Rt ro d k as h (some (v w), h' w)) (kk : ∀ w, am_J ro d M r (pc, L, v w :: st, h' w) (f w) K) : am_J ro d M r cf (q.bind f) K := fun z hz hk => by
  cases hv : q with
  | none => rw [hv] at hz; cases hz
  | some w =>
    rw [hv] at hz
    exact am_Ev.callv h1 (hc w hv) (kk w z hz hk)
/-- a call that answers nothing -/
theorem am_J.calln {q : Option β} {f : β → Option α} {k : Nat} {as : List Value} {h' : β → am_H} (h1 : am_one ro M cf = some (.inr (.inl (k, as, (pc, L, st, h))))) (hc : ∀ w, q = some w → am_Rt ro d k as h (none, h' w)) (kk : ∀ w, am_J ro d M r (pc, L, st, h' w) (f w) K) : am_J ro d M r cf (q.bind f) K := fun z hz hk => by
  cases hv : q with
  | none => rw [hv] at hz; cases hz
  | some w =>
    rw [hv] at hz
    exact am_Ev.calln h1 (hc w hv) (kk w z hz hk)
theorem am_ev_z {call : Nat → List Value → am_H → Option am_An} (hM : M.2.1 = true) : ∀ (n : Nat) (cf : am_Cf) (v : Int32) (h1 : am_H), am_ev ro call M n cf = some (some (.int v), h1) → v = 0 ∨ v = 1 := by
  intro n
  induction n with
  | zero => intro cf v h1 e; simp [am_ev] at e
  | succ n ih =>
    intro cf v h1 e
    obtain ⟨pc, L, st, h⟩ := cf
    unfold am_ev at e
    cases ho : am_one ro M (pc, L, st, h) with
    | none => rw [ho] at e; simp at e
    | some w =>
      rw [ho] at e
      rcases w with cf' | ⟨k, as, cf'⟩ | w
      · exact ih _ _ _ e
      · dsimp only at e
        split at e
        · exact ih _ _ _ e
        · cases e
      · obtain ⟨i, n2, hf, hcs⟩ := am_one_cases ho
        rcases hcs with ⟨-, L1, st1, -, ho2⟩ | ⟨-, pc1, st1, -, ho2⟩ | ⟨-, st1, h2, hh, ho2⟩ | ⟨-, hh⟩ | ⟨-, hh⟩ | ⟨-, hh⟩ | ⟨-, v1, hrt, ho2⟩
        · cases ho2
        · cases ho2
        · cases ho2
        · obtain ⟨as, rest, -, -, ho2, -, -⟩ := am_cl_h hh; cases ho2
        · obtain ⟨as, rest, -, -, ho2, -, -⟩ := am_cl_h hh; cases ho2
        · obtain ⟨as, rest, -, -, ho2, -, -⟩ := am_cl_h hh; cases ho2
        · cases ho2
          cases e
          rcases am_rt_cases hrt with ⟨-, x, -, hv, hb⟩ | ⟨-, x, -, hv⟩ | ⟨-, hst⟩ | ⟨-, -, hv⟩
          · cases hv; exact hb hM
          · cases hv
          · rcases hst with ⟨x, -, hv⟩ | ⟨-, hv⟩ <;> cases hv
          · cases hv
/-- what a method answers that answers a boolean -/
theorem am_Rt.z {k nL : Nat} {as : List Value} {h1 : am_H} (hP : am_P k = some (M, nL)) (hM : M.2.1 = true) (H : am_Rt ro d k as h (some (.int v), h1)) : v = 0 ∨ v = 1 := by
  obtain ⟨n, hn⟩ := H
  cases d with
  | zero => simp [am_run] at hn
  | succ d =>
    unfold am_run at hn
    rw [hP] at hn
    dsimp only at hn
    split at hn
    · exact am_ev_z hM _ _ _ _ hn
    · cases hn
theorem am_J.callz {q : Option β} {f : β → Option α} {k nL : Nat} {M2 : am_M} {as : List Value} {v : β → Int32} {h' : β → am_H} (h1 : am_one ro M cf = some (.inr (.inl (k, as, (pc, L, st, h))))) (hP : am_P k = some (M2, nL)) (hM : M2.2.1 = true) (hc : ∀ w, q = some w → am_Rt ro d k as h (some (.int (v w)), h' w)) (kk : ∀ w, (v w = 0 ∨ v w = 1) → am_J ro d M r (pc, L, .int (v w) :: st, h' w) (f w) K) : am_J ro d M r cf (q.bind f) K := fun z hz hk => by
  cases hv : q with
  | none => rw [hv] at hz; cases hz
  | some w =>
    rw [hv] at hz
    exact am_Ev.callv h1 (hc w hv) (kk w (am_Rt.z hP hM (hc w hv)) z hz hk)
/-- a method held against its function -/
theorem am_Rt.J {k nL : Nat} {as : List Value} {z : α} {res : α → am_An} (hP : am_P k = some (M, nL)) (hle : (am_args as).length ≤ nL) (H : ∀ r, am_J ro d M r (0, am_entry as nL, [], h) o (fun x => r = res x)) (hz : o = some z) : am_Rt ro (d + 1) k as h (res z) := am_Rt.of hP hle (H _ z hz rfl)
end AmJ
end
section
/-! ===== fewer locals known: what ends with fewer ends with more ===== -/
def am_Lg (L' L : am_L) : Prop := L'.length = L.length ∧ ∀ (i : Nat) (v : Value), L'[i]? = some (some v) → L[i]? = some (some v)
theorem am_Lg.ld {L' L : am_L} (g : am_Lg L' L) {i : Nat} {v : Value} (h : am_ld L' i = some v) : am_ld L i = some v := am_ld_iff.mpr (g.2 _ _ (am_ld_iff.mp h))
theorem am_Lg.li {L' L L1 : am_L} {st st1 : List Value} {i : Nat} (g : am_Lg L' L) (h : am_li L' st i = some (L1, st1)) : ∃ L2, am_li L st i = some (L2, st1) ∧ am_Lg L1 L2 := by
  obtain ⟨x, hx, rfl, rfl⟩ := am_li_inv h
  exact ⟨L, by unfold am_li; rw [g.ld hx], g⟩
theorem am_Lg.ll {L' L L1 : am_L} {st st1 : List Value} {i : Nat} (g : am_Lg L' L) (h : am_ll L' st i = some (L1, st1)) : ∃ L2, am_ll L st i = some (L2, st1) ∧ am_Lg L1 L2 := by
  obtain ⟨x, hx, rfl, rfl⟩ := am_ll_inv h
  exact ⟨L, by unfold am_ll; rw [g.ld hx], g⟩
theorem am_Lg.la {L' L L1 : am_L} {st st1 : List Value} {i : Nat} (g : am_Lg L' L) (h : am_la L' st i = some (L1, st1)) : ∃ L2, am_la L st i = some (L2, st1) ∧ am_Lg L1 L2 := by
  rcases am_la_inv h with ⟨x, hx, rfl, rfl⟩ | ⟨hx, rfl, rfl⟩
  · exact ⟨L, by unfold am_la; rw [g.ld hx], g⟩
  · exact ⟨L, by unfold am_la; rw [g.ld hx], g⟩
theorem am_clr_at {L : am_L} {i j : Nat} {v : Value} (h : L[j]? = some (some v)) (n : ¬ (j + 1 = i ∧ v.category = 2)) : (am_clr L i)[j]? = some (some v) := by
  unfold am_clr
  split
  · exact h
  · next k =>
    have key : ∀ w : Value, L[k]? = some (some w) → w.category = 2 → (L.set k none)[j]? = some (some v) := fun w hw hc => by
      rw [List.getElem?_set]
      split
      · next e =>
        subst e
        rw [hw] at h
        cases h
        exact absurd ⟨rfl, hc⟩ n
      · exact h
    split
    · next x hx => exact key _ hx rfl
    · next x hx => exact key _ hx rfl
    · exact h
theorem am_Lg.clr {L' L : am_L} (g : am_Lg L' L) (i : Nat) : am_Lg (am_clr L' i) (am_clr L i) := by
  refine ⟨by rw [am_clr_len, am_clr_len]; exact g.1, fun j v h => ?_⟩
  obtain ⟨h1, h2⟩ := am_clr_get h
  exact am_clr_at (g.2 _ _ h1) h2
theorem am_Lg.set {L' L : am_L} (g : am_Lg L' L) (i : Nat) (w : Option Value) : am_Lg (L'.set i w) (L.set i w) := by
  refine ⟨by rw [List.length_set, List.length_set]; exact g.1, fun j v h => ?_⟩
  rw [List.getElem?_set] at h ⊢
  split
  · next e =>
    rw [if_pos e] at h
    rw [← g.1]
    exact h
  · next e => rw [if_neg e] at h; exact g.2 _ _ h
theorem am_Lg.st1 {L' L L1 : am_L} {i : Nat} {v : Value} (g : am_Lg L' L) (h : am_st1 L' i v = some L1) : ∃ L2, am_st1 L i v = some L2 ∧ am_Lg L1 L2 := by
  unfold am_st1 at h ⊢
  split at h
  · next hi => cases h; exact ⟨_, if_pos (by rw [← g.1]; exact hi), (g.clr i).set i _⟩
  · cases h
theorem am_Lg.st2 {L' L L1 : am_L} {i : Nat} {v : Value} (g : am_Lg L' L) (h : am_st2 L' i v = some L1) : ∃ L2, am_st2 L i v = some L2 ∧ am_Lg L1 L2 := by
  unfold am_st2 at h ⊢
  split at h
  · next hi => cases h; exact ⟨_, if_pos (by rw [← g.1]; exact hi), ((g.clr i).set i _).set _ _⟩
  · cases h
theorem am_Lg.si {L' L L1 : am_L} {st st1 : List Value} {i : Nat} (g : am_Lg L' L) (h : am_si L' st i = some (L1, st1)) : ∃ L2, am_si L st i = some (L2, st1) ∧ am_Lg L1 L2 := by
  obtain ⟨x, rfl, hx⟩ := am_si_inv h
  obtain ⟨L2, h2, g2⟩ := g.st1 hx
  exact ⟨L2, by simp only [am_si, h2], g2⟩
theorem am_Lg.sl {L' L L1 : am_L} {st st1 : List Value} {i : Nat} (g : am_Lg L' L) (h : am_sl L' st i = some (L1, st1)) : ∃ L2, am_sl L st i = some (L2, st1) ∧ am_Lg L1 L2 := by
  obtain ⟨x, rfl, hx⟩ := am_sl_inv h
  obtain ⟨L2, h2, g2⟩ := g.st2 hx
  exact ⟨L2, by simp only [am_sl, h2], g2⟩
theorem am_Lg.sa {L' L L1 : am_L} {st st1 : List Value} {i : Nat} (g : am_Lg L' L) (h : am_sa L' st i = some (L1, st1)) : ∃ L2, am_sa L st i = some (L2, st1) ∧ am_Lg L1 L2 := by
  obtain ⟨x, rfl, hx⟩ := am_sa_inv h
  obtain ⟨L2, h2, g2⟩ := g.st1 hx
  exact ⟨L2, by simp only [am_sa, h2], g2⟩
set_option maxHeartbeats 4000000 in
theorem am_Lg.pure {L' L L1 : am_L} {st st1 : List Value} {i : Instr} (g : am_Lg L' L) (h : am_pure i L' st = some (L1, st1)) : ∃ L2, am_pure i L st = some (L2, st1) ∧ am_Lg L1 L2 := by
  unfold am_pure at h ⊢
  split at h
  all_goals first
    | exact g.li h
    | exact g.ll h
    | exact g.la h
    | exact g.si h
    | exact g.sl h
    | exact g.sa h
    | (obtain ⟨x, y, r, rfl, rfl, rfl⟩ := am_b_inv h; exact ⟨L, rfl, g⟩)
    | (obtain ⟨x, r, rfl, rfl, rfl⟩ := am_u_inv h; exact ⟨L, rfl, g⟩)
    | (obtain ⟨x, y, r, rfl, rfl, rfl⟩ := am_bl_inv h; exact ⟨L, rfl, g⟩)
    | (obtain ⟨x, y, r, rfl, rfl, rfl⟩ := am_sh_inv h; exact ⟨L, rfl, g⟩)
    | (obtain ⟨x, y, r, hy, rfl, rfl, rfl⟩ := am_dv_inv h; exact ⟨L, by simp only [am_dv]; rw [if_neg hy], g⟩)
    | (cases h; exact ⟨L, rfl, g⟩)
    | (cases h; done)
    | (split at h
       · next x hx =>
         split at h
         · next L2 h2 =>
           cases h
           obtain ⟨L3, h3, g3⟩ := g.st1 h2
           exact ⟨L3, by simp only [g.ld hx, h3], g3⟩
         · cases h
       · cases h)
    | (split at h
       · first
         | (cases h; exact ⟨L, rfl, g⟩)
         | (split at h
            · next hc => cases h; exact ⟨L, if_pos hc, g⟩
            · cases h)
       · cases h)
section AmWeak
variable {ro : Nat → Option (List Int32)} {call : Nat → List Value → am_H → Option am_An} {M : am_M} {d : Nat}
theorem am_cl_L {md z pc : Nat} {L L' : am_L} {st : List Value} {h : am_H} {o : am_O} (e : am_cl md z pc L' st h = some o) : ∃ k as rest, o = .inr (.inl (k, as, (pc + 3, L', rest, h))) ∧ am_cl md z pc L st h = some (.inr (.inl (k, as, (pc + 3, L, rest, h)))) := by
  unfold am_cl at e ⊢
  split at e
  · next as rest hp =>
    split at e
    · next hw =>
      rw [if_pos hw]
      split at e
      · cases e; exact ⟨_, _, _, rfl, rfl⟩
      · split at e
        · split at e
          · next ci fs hh =>
            split at e
            · next hc => cases e; exact ⟨_, _, _, rfl, if_pos hc⟩
            · cases e
          · cases e
        · cases e
      · next h0 h1 =>
        split at e
        · next b As => cases e; exact ⟨_, _, _, rfl, rfl⟩
        · cases e
    · cases e
  · cases e
theorem am_ev_weak : ∀ (n pc : Nat) (L' L : am_L) (st : List Value) (h : am_H) (r : am_An), am_Lg L' L → am_ev ro call M n (pc, L', st, h) = some r → am_ev ro call M n (pc, L, st, h) = some r := by
  intro n
  induction n with
  | zero => intro pc L' L st h r g e; simp [am_ev] at e
  | succ n ih =>
    intro pc L' L st h r g e
    unfold am_ev at e ⊢
    cases ho : am_one ro M (pc, L', st, h) with
    | none => rw [ho] at e; simp at e
    | some o =>
      rw [ho] at e
      obtain ⟨i, n2, hf, hcs⟩ := am_one_cases ho
      have hon : am_one ro M (pc, L, st, h) = am_onx ro M pc L st h := rfl
      rw [hon]
      unfold am_onx
      rw [hf]
      dsimp only
      rcases hcs with ⟨hk, L1, st1, hp, rfl⟩ | ⟨hk, pc1, st1, hp, rfl⟩ | ⟨hk, st1, h2, hp, rfl⟩ | ⟨hk, hp⟩ | ⟨hk, hp⟩ | ⟨hk, hp⟩ | ⟨hk, v1, hp, rfl⟩
      · obtain ⟨L2, h2, g2⟩ := g.pure hp
        simp only [hk, h2]
        exact ih _ _ _ _ _ _ g2 e
      · simp only [hk, hp]
        exact ih _ _ _ _ _ _ g e
      · simp only [hk, hp]
        exact ih _ _ _ _ _ _ g e
      · obtain ⟨k, as, rest, rfl, h2⟩ := am_cl_L (L := L) hp
        simp only [hk, h2]
        dsimp only at e
        split at e
        · next v3 h3 hc => exact ih _ _ _ _ _ _ g e
        · cases e
      · obtain ⟨k, as, rest, rfl, h2⟩ := am_cl_L (L := L) hp
        simp only [hk, h2]
        dsimp only at e
        split at e
        · next v3 h3 hc => exact ih _ _ _ _ _ _ g e
        · cases e
      · obtain ⟨k, as, rest, rfl, h2⟩ := am_cl_L (L := L) hp
        simp only [hk, h2]
        dsimp only at e
        split at e
        · next v3 h3 hc => exact ih _ _ _ _ _ _ g e
        · cases e
      · cases e
        rcases am_rt_cases hp with ⟨rfl, _⟩ | ⟨rfl, _⟩ | ⟨rfl, _⟩ | ⟨rfl, _⟩ <;> simp only [am_kind, hp]
/-- for lists that are written out -/
def am_Lle : am_L → am_L → Prop
  | [], [] => True
  | a :: l, b :: m => (a = none ∨ a = b) ∧ am_Lle l m
  | _, _ => False
theorem am_Lle.nil : am_Lle [] [] := trivial
theorem am_Lle.k {a : Option Value} {l m : am_L} (h : am_Lle l m) : am_Lle (a :: l) (a :: m) := ⟨Or.inr rfl, h⟩
theorem am_Lle.o {a : Option Value} {l m : am_L} (h : am_Lle l m) : am_Lle (none :: l) (a :: m) := ⟨Or.inl rfl, h⟩
theorem am_Lle.g : ∀ (L' L : am_L), am_Lle L' L → am_Lg L' L
  | [], [], _ => ⟨rfl, fun i v h => h⟩
  | a :: l, b :: m, h => by
    obtain ⟨h1, h2⟩ := am_Lle.g l m h.2
    refine ⟨by simp only [List.length_cons, h1], fun i v hv => ?_⟩
    match i, hv with
    | 0, hv =>
      have hv : some a = some (some v) := hv
      rcases h.1 with q | q
      · rw [q] at hv; cases hv
      · rw [q] at hv; exact hv
    | (i + 1), hv => exact h2 i v hv
theorem am_Ev.weak {pc : Nat} {L' L : am_L} {st : List Value} {h : am_H} {r : am_An} (hl : am_Lle L' L) (H : am_Ev ro d M (pc, L', st, h) r) : am_Ev ro d M (pc, L, st, h) r := by
  obtain ⟨n, hn⟩ := H
  exact ⟨n, am_ev_weak n pc L' L st h r (am_Lle.g _ _ hl) hn⟩
theorem am_J.weak {α : Type} {o : Option α} {K : α → Prop} {pc : Nat} {L' L : am_L} {st : List Value} {h : am_H} {r : am_An} (hl : am_Lle L' L) (H : am_J ro d M r (pc, L', st, h) o K) : am_J ro d M r (pc, L, st, h) o K := fun z hz hk => am_Ev.weak hl (H z hz hk)
end AmWeak
end
section
/-! ===== the heap behind both constructors: arrays by their cells (A), int fields by 64 * cell + field (I), what text makes (x) ===== -/
abbrev am_X : Type := List (Option Nat) × List (Option Nat) × Value × Value × am_H
def hp (A : Nat → List Int32) (I : Nat → Int32) (x : am_X) : am_H :=
  .inr (.inr (11, [.ref 1, .ref 25, .ref 29, .ref 37, .ref 47, .ref 52, .ref 58, .ref 61, .ref 73, .ref 76])) ::
  .inr (.inr (6, [.ref 2, .ref 11, .ref 20, .ref 21, .ref 22, .int (I 69), .ref 23, .ref 24])) ::
  .inr (.inl (3, [some 3, some 4, some 5, some 6, some 7, some 8, some 9, some 10])) ::
  .inl (0, A 3) ::
  .inl (0, A 4) ::
  .inl (0, A 5) ::
  .inl (0, A 6) ::
  .inl (0, A 7) ::
  .inl (0, A 8) ::
  .inl (0, A 9) ::
  .inl (0, A 10) ::
  .inr (.inl (3, [some 12, some 13, some 14, some 15, some 16, some 17, some 18, some 19])) ::
  .inl (0, A 12) ::
  .inl (0, A 13) ::
  .inl (0, A 14) ::
  .inl (0, A 15) ::
  .inl (0, A 16) ::
  .inl (0, A 17) ::
  .inl (0, A 18) ::
  .inl (0, A 19) ::
  .inl (0, A 20) ::
  .inl (0, A 21) ::
  .inl (0, A 22) ::
  .inl (0, A 23) ::
  .inl (0, A 24) ::
  .inr (.inr (7, [.ref 26, .int (I 1601), .ref 27, .ref 28])) ::
  .inl (0, A 26) ::
  .inl (0, A 27) ::
  .inl (0, A 28) ::
  .inr (.inr (2, [.ref 30, .ref 31, .ref 32, .ref 33, .ref 34, .ref 35, .ref 36, .int (I 1863)])) ::
  .inl (0, A 30) ::
  .inl (0, A 31) ::
  .inl (0, A 32) ::
  .inl (0, A 33) ::
  .inl (0, A 34) ::
  .inl (0, A 35) ::
  .inl (0, A 36) ::
  .inr (.inr (1, [.ref 1, .ref 25, .ref 29, .ref 38, .ref 39, .int (I 2373), .ref 40, .ref 41, .ref 42])) ::
  .inr (.inl (4, x.1)) ::
  .inr (.inl (4, x.2.1)) ::
  .inl (0, A 40) ::
  .inl (0, A 41) ::
  .inl (0, A 42) ::
  .inr (.inr (5, [.ref 44])) ::
  .inl (0, A 44) ::
  .inr (.inr (5, [.ref 46])) ::
  .inl (0, A 46) ::
  .inr (.inr (9, [.ref 48, .ref 49, .ref 50, .ref 51, .int (I 3012)])) ::
  .inl (0, A 48) ::
  .inl (0, A 49) ::
  .inl (0, A 50) ::
  .inl (0, A 51) ::
  .inr (.inr (8, [.ref 53, .int (I 3329), x.2.2.1, x.2.2.2.1, .int (I 3332), .ref 54, .ref 55, .ref 56, .int (I 3336), .int (I 3337), .int (I 3338), .ref 57, .int (I 3340)])) ::
  .inl (1, A 53) ::
  .inl (0, A 54) ::
  .inl (0, A 55) ::
  .inl (0, A 56) ::
  .inl (0, A 57) ::
  .inr (.inr (3, [.ref 59, .ref 60, .int (I 3714), .int (I 3715)])) ::
  .inl (0, A 59) ::
  .inl (0, A 60) ::
  .inr (.inr (0, [.ref 62, .ref 63, .ref 64, .int (I 3907)])) ::
  .inl (0, A 62) ::
  .inl (0, A 63) ::
  .inr (.inl (3, [some 65, some 66, some 67, some 68, some 69, some 70, some 71, some 72])) ::
  .inl (0, A 65) ::
  .inl (0, A 66) ::
  .inl (0, A 67) ::
  .inl (0, A 68) ::
  .inl (0, A 69) ::
  .inl (0, A 70) ::
  .inl (0, A 71) ::
  .inl (0, A 72) ::
  .inr (.inr (4, [.ref 1, .ref 74, .ref 75, .int (I 4675), .int (I 4676)])) ::
  .inl (0, A 74) ::
  .inl (0, A 75) ::
  .inr (.inl (5, [some 77, some 79, some 81, some 83])) ::
  .inr (.inr (10, [.int (I 4928), .int (I 4929), .ref 78])) ::
  .inl (0, A 78) ::
  .inr (.inr (10, [.int (I 5056), .int (I 5057), .ref 80])) ::
  .inl (0, A 80) ::
  .inr (.inr (10, [.int (I 5184), .int (I 5185), .ref 82])) ::
  .inl (0, A 82) ::
  .inr (.inr (10, [.int (I 5312), .int (I 5313), .ref 84])) ::
  .inl (0, A 84) ::
  .inr (.inr (12, [.ref 86, .ref 87, .int (I 5442), .int (I 5443), .ref 88, .ref 89, .ref 90, .ref 91, .ref 92, .ref 93, .int (I 5450), .ref 94, .ref 95, .ref 96, .ref 97, .ref 98, .ref 99, .ref 100, .ref 101, .int (I 5459), .int (I 5460), .ref 102, .ref 103, .ref 104, .int (I 5464), .int (I 5465), .int (I 5466), .int (I 5467), .ref 105, .ref 106, .int (I 5470), .int (I 5471), .int (I 5472), .int (I 5473), .ref 107, .ref 108, .int (I 5476), .ref 109, .ref 110, .ref 111, .ref 112, .int (I 5481), .ref 113, .ref 114, .ref 115, .ref 116, .int (I 5486), .ref 117, .ref 118, .ref 119, .ref 120, .ref 121, .ref 122, .ref 123, .int (I 5494), .ref 124, .ref 125, .ref 126, .ref 127])) ::
  .inl (0, A 86) ::
  .inl (0, A 87) ::
  .inl (0, A 88) ::
  .inl (0, A 89) ::
  .inl (0, A 90) ::
  .inl (0, A 91) ::
  .inl (0, A 92) ::
  .inl (0, A 93) ::
  .inl (0, A 94) ::
  .inl (0, A 95) ::
  .inl (0, A 96) ::
  .inl (0, A 97) ::
  .inl (0, A 98) ::
  .inl (0, A 99) ::
  .inl (0, A 100) ::
  .inl (1, A 101) ::
  .inl (0, A 102) ::
  .inl (0, A 103) ::
  .inl (0, A 104) ::
  .inl (0, A 105) ::
  .inl (2, A 106) ::
  .inl (0, A 107) ::
  .inl (0, A 108) ::
  .inl (0, A 109) ::
  .inl (0, A 110) ::
  .inl (0, A 111) ::
  .inl (0, A 112) ::
  .inl (0, A 113) ::
  .inl (0, A 114) ::
  .inl (0, A 115) ::
  .inl (0, A 116) ::
  .inl (0, A 117) ::
  .inl (0, A 118) ::
  .inl (0, A 119) ::
  .inl (0, A 120) ::
  .inl (0, A 121) ::
  .inl (0, A 122) ::
  .inl (0, A 123) ::
  .inl (0, A 124) ::
  .inl (0, A 125) ::
  .inl (0, A 126) ::
  .inl (0, A 127) :: x.2.2.2.2
/-! ===== rows, lengths, copies, switches ===== -/
def am_row (base : Nat) (i : Int32) : Option Nat := if i < 0 then none else if i.toNatClampNeg < 8 then some (base + i.toNatClampNeg) else none
def am_isrow (base w : Nat) : Prop := (base = 3 ∨ base = 12 ∨ base = 65) ∧ base ≤ w ∧ w < base + 8
theorem am_rlt {base w : Nat} (h : am_isrow base w) : w < am_RO := by
  obtain ⟨h1, h2, h3⟩ := h
  have : (100 : Nat) < am_RO := Nat.le_of_ble_eq_true rfl
  omega
theorem hp_row {A : Nat → List Int32} {I : Nat → Int32} {x : am_X} {base w : Nat} (h : am_isrow base w) : (hp A I x)[w]? = some (.inl (0, A w)) := by
  obtain ⟨h1, h2, h3⟩ := h
  obtain ⟨j, hj, rfl⟩ : ∃ j, j < 8 ∧ w = base + j := ⟨w - base, by omega, by omega⟩
  rcases h1 with rfl | rfl | rfl
  all_goals
    match j, hj with
    | 0, _ => rfl
    | 1, _ => rfl
    | 2, _ => rfl
    | 3, _ => rfl
    | 4, _ => rfl
    | 5, _ => rfl
    | 6, _ => rfl
    | 7, _ => rfl
theorem hp_row_set {A : Nat → List Int32} {I : Nat → Int32} {x : am_X} {base w : Nat} {ys : List Int32} (h : am_isrow base w) : (hp A I x).set w (.inl (0, ys)) = hp (up A w ys) I x := by
  obtain ⟨h1, h2, h3⟩ := h
  obtain ⟨j, hj, rfl⟩ : ∃ j, j < 8 ∧ w = base + j := ⟨w - base, by omega, by omega⟩
  rcases h1 with rfl | rfl | rfl
  all_goals
    match j, hj with
    | 0, _ => rfl
    | 1, _ => rfl
    | 2, _ => rfl
    | 3, _ => rfl
    | 4, _ => rfl
    | 5, _ => rfl
    | 6, _ => rfl
    | 7, _ => rfl
def am_acq (xs ys : List Int32) (i j n : Int32) : Option (List Int32) := if n < 0 ∨ i < 0 ∨ j < 0 ∨ xs.length < i.toNatClampNeg + n.toNatClampNeg ∨ ys.length < j.toNatClampNeg + n.toNatClampNeg then none else some (am_cpy xs ys i.toNatClampNeg j.toNatClampNeg n.toNatClampNeg)
section AmJ2
variable {ro : Nat → Option (List Int32)} {d : Nat} {M : am_M} {r : am_An} {α : Type} {pc : Nat} {L : am_L} {st : List Value} {h : am_H} {cf : am_Cf} {o o1 o2 : Option α} {K : α → Prop} {i j n v : Int32} {a b : Nat}
theorem am_J.row {base : Nat} {f : Nat → Option α} (hf : am_fi M pc = some (.aaload, 1)) (hh : h[a]? = some (.inr (.inl (3, (List.range 8).map (fun q => some (base + q)))))) (hb : base = 3 ∨ base = 12 ∨ base = 65) (k : ∀ w, am_isrow base w → am_J ro d M r (pc + 1, L, .ref w :: st, h) (f w) K) : am_J ro d M r (pc, L, .int i :: .ref a :: st, h) ((am_row base i).bind f) K := fun z hz hk => by
  unfold am_row at hz
  split at hz
  · cases hz
  · next h0 =>
    split at hz
    · next h1 =>
      refine am_Ev.step ?_ (k (base + i.toNatClampNeg) ⟨hb, by omega, by omega⟩ z hz hk)
      show am_onx ro M pc L _ h = _
      have e : am_atr ((List.range 8).map (fun q => some (base + q))) i = some (some (base + i.toNatClampNeg)) := by
        unfold am_atr
        rw [if_neg h0, List.getElem?_map, List.getElem?_range h1]
        rfl
      simp only [am_onx, hf, am_kind, am_heap, am_aal, hh, e]
      rfl
    · cases hz
theorem am_J.len {xs : List Int32} (hf : am_fi M pc = some (.arraylength, 1)) (ha : a < am_RO) (hh : h[a]? = some (.inl (0, xs))) (k : am_J ro d M r (pc + 1, L, .int (Int32.ofNat xs.length) :: st, h) o K) : am_J ro d M r (pc, L, .ref a :: st, h) o K := fun z hz hk => by
  refine am_Ev.step ?_ (k z hz hk)
  show am_onx ro M pc L _ h = _
  simp only [am_onx, hf, am_kind, am_heap, am_len, if_pos ha, hh]
theorem am_J.acp {xs ys : List Int32} {f : List Int32 → Option α} {h' : List Int32 → am_H} (hf : am_fi M pc = some (.invokedynamic 0, 3)) (hh : h[a]? = some (.inl (0, xs))) (hy : h[b]? = some (.inl (0, ys))) (hw : am_w st ≤ 8) (hs : ∀ zs, h.set b (.inl (0, zs)) = h' zs) (k : ∀ zs, am_J ro d M r (pc + 3, L, st, h' zs) (f zs) K) : am_J ro d M r (pc, L, .int n :: .int j :: .ref b :: .int i :: .ref a :: st, h) ((am_acq xs ys i j n).bind f) K := fun z hz hk => by
  unfold am_acq at hz
  split at hz
  · cases hz
  · next h0 =>
    refine am_Ev.step ?_ (k _ z hz hk)
    show am_onx ro M pc L _ h = _
    have h1 : ¬ (n < 0 ∨ i < 0 ∨ j < 0 ∨ xs.length < i.toNatClampNeg + n.toNatClampNeg ∨ ys.length < j.toNatClampNeg + n.toNatClampNeg ∨ 8 < am_w st) := by
      rintro (q | q | q | q | q | q)
      · exact h0 (Or.inl q)
      · exact h0 (Or.inr (Or.inl q))
      · exact h0 (Or.inr (Or.inr (Or.inl q)))
      · exact h0 (Or.inr (Or.inr (Or.inr (Or.inl q))))
      · exact h0 (Or.inr (Or.inr (Or.inr (Or.inr q))))
      · omega
    simp only [am_onx, hf, am_kind, am_heap, am_acp, hh, hy, if_neg h1, hs]
/-- a switch: one of its numbers -/
theorem am_J.sw {c : Int32} (cf : Int32 → am_Cf) (kt : am_J ro d M r (cf c) o1 K) (kf : ¬ v = c → am_J ro d M r (cf v) o2 K) : am_J ro d M r (cf v) (if v = c then o1 else o2) K := by
  by_cases e : v = c
  · rw [if_pos e, e]; exact kt
  · rw [if_neg e]; exact kf e
/-- a switch: none of its numbers -/
theorem am_J.swd {df lo hi : Int} {offs : Array Int} {n : Nat} (hf : am_fi M pc = some (.tableswitch df lo hi offs, n)) (hx : v.toInt < lo ∨ hi < v.toInt) (hok : am_ok pc df = true) (k : am_J ro d M r (am_tg pc df, L, st, h) o K) : am_J ro d M r (pc, L, .int v :: st, h) o K := fun z hz hk => by
  refine am_Ev.step ?_ (k z hz hk)
  show am_onx ro M pc L _ h = _
  simp only [am_onx, hf, am_kind, am_br, am_sw, if_pos hx, if_pos hok]
theorem am_out {v : Int32} (lo hi : Int) (h : ∀ c : Int, lo ≤ c → c ≤ hi → ¬ v.toInt = c) : v.toInt < lo ∨ hi < v.toInt := by
  rcases Int.lt_or_le v.toInt lo with q | q
  · exact Or.inl q
  · rcases Int.lt_or_le hi v.toInt with w | w
    · exact Or.inr w
    · exact absurd rfl (h v.toInt q w)
end AmJ2
end
