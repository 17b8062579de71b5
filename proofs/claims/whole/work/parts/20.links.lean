/-! ===== links by class (by wip/whole/gen_links.py) ===== -/
def am_T : List Cond := am_G ++ am_nest
theorem am_inT {w : Cond} (h : w ∈ am_G) : w ∈ am_T := List.mem_append_left _ h
theorem am_inN {w : Cond} (i : Nat) (h : am_nest[i]? = some w) : w ∈ am_T := List.mem_append_right _ (List.mem_of_getElem? h)
def am_own (oc : Nat) : String := match oc with
  | 0 => RX0
  | 1 => RX1
  | 2 => RX2
  | 3 => RX3
  | 4 => RX4
  | 5 => RX5
  | 6 => RX6
  | 7 => RX7
  | 8 => RX8
  | 9 => RX9
  | 10 => RX10
  | 11 => RX11
  | 12 => RX12
  | 13 => "TwoHeadsLaw"
  | 14 => "java/util/Arrays"
  | 15 => "java/lang/Integer"
  | 16 => "java/lang/Math"
  | 17 => "java/lang/Object"
  | _ => ""
theorem lk_mem {l : List (Nat × Cond)} {ps : List Nat} (h1 : (l.filter (fun q => goodWord q.2)).map Prod.snd = ps.filterMap (fun i => lw_tbl[i]?)) (h2 : l.all (fun q => goodWord q.2 || decide (q.2 ∈ am_nest)) = true) : ∀ q ∈ l, q.2 ∈ am_T := by
  intro q hq
  by_cases hg : goodWord q.2 = true
  · have h3 : q.2 ∈ ps.filterMap (fun i => lw_tbl[i]?) := by rw [← h1]; exact List.mem_map.mpr ⟨q, List.mem_filter.mpr ⟨hq, hg⟩, rfl⟩
    obtain ⟨i, -, hi⟩ := List.mem_filterMap.mp h3
    exact am_inT (am_inG hi hg)
  · have h4 := List.all_eq_true.mp h2 q hq
    simp only [Bool.or_eq_true, decide_eq_true_eq] at h4
    exact List.mem_append_right _ (h4.resolve_left hg)
def lk_0 : List (Nat × Cond) := [(18, (Jvm.Cond.classLink "TwoHeads$Clauses" (18 : Nat) "[[I")),
  (9, (Jvm.Cond.fieldLink "TwoHeads$Clauses" (9 : Nat) "TwoHeads$Clauses" "undoes" "[I")),
  (15, (Jvm.Cond.fieldLink "TwoHeads$Clauses" (15 : Nat) "TwoHeads$Clauses" "foes" "[I")),
  (20, (Jvm.Cond.fieldLink "TwoHeads$Clauses" (20 : Nat) "TwoHeads$Clauses" "worth" "[[I")),
  (23, (Jvm.Cond.fieldLink "TwoHeads$Clauses" (23 : Nat) "TwoHeads$Clauses" "size" "I")),
  (3, (Jvm.Cond.methodLink "TwoHeads$Clauses" (3 : Nat) ({ cls := "java/lang/Object", name := "<init>", desc := "()V" } : Jvm.MethodName))),
  (27, (Jvm.Cond.methodLinkNest "TwoHeads$Clauses" (27 : Nat) ({ cls := "TwoHeads", name := "has", desc := "(II)Z" } : Jvm.MethodName) "TwoHeads")),
  (31, (Jvm.Cond.methodLink "TwoHeads$Clauses" (31 : Nat) ({ cls := "java/lang/Integer", name := "bitCount", desc := "(I)I" } : Jvm.MethodName))),
  (37, (Jvm.Cond.methodLinkNest "TwoHeads$Clauses" (37 : Nat) ({ cls := "TwoHeads", name := "sumOver", desc := "([II)I" } : Jvm.MethodName) "TwoHeads")),
  (41, (Jvm.Cond.methodLinkNest "TwoHeads$Clauses" (41 : Nat) ({ cls := "TwoHeads", name := "goTogether", desc := "([II)Z" } : Jvm.MethodName) "TwoHeads")),
  (45, (Jvm.Cond.methodLink "TwoHeads$Clauses" (45 : Nat) ({ cls := "TwoHeads$Clauses", name := "takersOf", desc := "(I)I" } : Jvm.MethodName))),
  (48, (Jvm.Cond.methodLink "TwoHeads$Clauses" (48 : Nat) ({ cls := "TwoHeads$Clauses", name := "isBetter", desc := "(III)Z" } : Jvm.MethodName))),
  (52, (Jvm.Cond.methodLink "TwoHeads$Clauses" (52 : Nat) ({ cls := "TwoHeads$Clauses", name := "undoneBy", desc := "(II)I" } : Jvm.MethodName)))]
theorem lk_0_in : ∀ q ∈ lk_0, q.2 ∈ am_T := lk_mem (ps := [395, 396, 397, 399, 401, 394, 1008, 1010, 1015, 1019]) (by decide +kernel) (by decide +kernel)
def lk_1 : List (Nat × Cond) := [(9, (Jvm.Cond.classLink "TwoHeads$Court" (9 : Nat) "TwoHeads$Formula")),
  (11, (Jvm.Cond.fieldLink "TwoHeads$Court" (11 : Nat) "TwoHeads$Court" "binds" "[LTwoHeads$Formula;")),
  (17, (Jvm.Cond.fieldLink "TwoHeads$Court" (17 : Nat) "TwoHeads$Court" "saved" "[LTwoHeads$Formula;")),
  (20, (Jvm.Cond.fieldLink "TwoHeads$Court" (20 : Nat) "TwoHeads$Court" "textOf" "[I")),
  (24, (Jvm.Cond.fieldLink "TwoHeads$Court" (24 : Nat) "TwoHeads$Court" "facts" "[I")),
  (27, (Jvm.Cond.fieldLink "TwoHeads$Court" (27 : Nat) "TwoHeads$Court" "stack" "[I")),
  (30, (Jvm.Cond.fieldLink "TwoHeads$Court" (30 : Nat) "TwoHeads$Court" "lands" "LTwoHeads$Lands;")),
  (34, (Jvm.Cond.fieldLink "TwoHeads$Court" (34 : Nat) "TwoHeads$Court" "people" "LTwoHeads$People;")),
  (38, (Jvm.Cond.fieldLink "TwoHeads$Court" (38 : Nat) "TwoHeads$Court" "deeds" "LTwoHeads$Deeds;")),
  (49, (Jvm.Cond.fieldLink "TwoHeads$Court" (49 : Nat) "TwoHeads$Court" "texts" "I")),
  (53, (Jvm.Cond.fieldLink "TwoHeads$Court" (53 : Nat) "TwoHeads$People" "land" "[I")),
  (58, (Jvm.Cond.fieldLink "TwoHeads$Court" (58 : Nat) "TwoHeads$Deeds" "by" "[I")),
  (67, (Jvm.Cond.fieldLink "TwoHeads$Court" (67 : Nat) "TwoHeads$Deeds" "day" "[I")),
  (80, (Jvm.Cond.fieldLink "TwoHeads$Court" (80 : Nat) "TwoHeads$Deeds" "kind" "[I")),
  (86, (Jvm.Cond.fieldLink "TwoHeads$Court" (86 : Nat) "TwoHeads$Deeds" "hangsOn" "[I")),
  (94, (Jvm.Cond.fieldLink "TwoHeads$Court" (94 : Nat) "TwoHeads$Deeds" "faith" "[I")),
  (101, (Jvm.Cond.fieldLink "TwoHeads$Court" (101 : Nat) "TwoHeads$Deeds" "size" "I")),
  (127, (Jvm.Cond.fieldLink "TwoHeads$Court" (127 : Nat) "TwoHeads$Deeds" "on" "[I")),
  (130, (Jvm.Cond.fieldLink "TwoHeads$Court" (130 : Nat) "TwoHeads$Lands" "ways" "[[I")),
  (3, (Jvm.Cond.methodLink "TwoHeads$Court" (3 : Nat) ({ cls := "java/lang/Object", name := "<init>", desc := "()V" } : Jvm.MethodName))),
  (42, (Jvm.Cond.methodLink "TwoHeads$Court" (42 : Nat) ({ cls := "TwoHeads$Formula", name := "<init>", desc := "([I)V" } : Jvm.MethodName))),
  (45, (Jvm.Cond.methodLink "TwoHeads$Court" (45 : Nat) ({ cls := "TwoHeads$Court", name := "addText", desc := "(LTwoHeads$Formula;LTwoHeads$Formula;)I" } : Jvm.MethodName))),
  (63, (Jvm.Cond.methodLink "TwoHeads$Court" (63 : Nat) ({ cls := "TwoHeads$Court", name := "landOf", desc := "(I)I" } : Jvm.MethodName))),
  (70, (Jvm.Cond.methodLink "TwoHeads$Court" (70 : Nat) ({ cls := "TwoHeads$Lands", name := "sideOn", desc := "(II)I" } : Jvm.MethodName))),
  (76, (Jvm.Cond.methodLink "TwoHeads$Court" (76 : Nat) ({ cls := "TwoHeads$Court", name := "valueIfHeld", desc := "(IIII)I" } : Jvm.MethodName))),
  (83, (Jvm.Cond.methodLink "TwoHeads$Court" (83 : Nat) ({ cls := "TwoHeads$Deeds", name := "rankOf", desc := "(I)I" } : Jvm.MethodName))),
  (89, (Jvm.Cond.methodLink "TwoHeads$Court" (89 : Nat) ({ cls := "java/lang/Integer", name := "bitCount", desc := "(I)I" } : Jvm.MethodName))),
  (97, (Jvm.Cond.methodLink "TwoHeads$Court" (97 : Nat) ({ cls := "TwoHeads$Formula", name := "valueFor", desc := "([I[I)I" } : Jvm.MethodName))),
  (104, (Jvm.Cond.methodLink "TwoHeads$Court" (104 : Nat) ({ cls := "TwoHeads$Court", name := "valueOf", desc := "(III)I" } : Jvm.MethodName))),
  (108, (Jvm.Cond.methodLink "TwoHeads$Court" (108 : Nat) ({ cls := "TwoHeads$Court", name := "trueUnder", desc := "(II)I" } : Jvm.MethodName))),
  (111, (Jvm.Cond.methodLink "TwoHeads$Court" (111 : Nat) ({ cls := "TwoHeads$Court", name := "goodAmong", desc := "(II)I" } : Jvm.MethodName))),
  (114, (Jvm.Cond.methodLink "TwoHeads$Court" (114 : Nat) ({ cls := "TwoHeads$Court", name := "hangingWithin", desc := "(I)I" } : Jvm.MethodName))),
  (117, (Jvm.Cond.methodLinkNest "TwoHeads$Court" (117 : Nat) ({ cls := "TwoHeads", name := "has", desc := "(II)Z" } : Jvm.MethodName) "TwoHeads")),
  (121, (Jvm.Cond.methodLink "TwoHeads$Court" (121 : Nat) ({ cls := "TwoHeads$Deeds", name := "runsOn", desc := "(II)Z" } : Jvm.MethodName))),
  (124, (Jvm.Cond.methodLink "TwoHeads$Court" (124 : Nat) ({ cls := "TwoHeads$Court", name := "namingOn", desc := "(III)I" } : Jvm.MethodName))),
  (134, (Jvm.Cond.methodLink "TwoHeads$Court" (134 : Nat) ({ cls := "TwoHeads$Court", name := "knownFrom", desc := "(II)I" } : Jvm.MethodName))),
  (137, (Jvm.Cond.methodLink "TwoHeads$Court" (137 : Nat) ({ cls := "TwoHeads$Lands", name := "sideIfTurned", desc := "(IIII)I" } : Jvm.MethodName))),
  (140, (Jvm.Cond.methodLink "TwoHeads$Court" (140 : Nat) ({ cls := "TwoHeads$Court", name := "tellsApart", desc := "(III)Z" } : Jvm.MethodName)))]
theorem lk_1_in : ∀ q ∈ lk_1, q.2 ∈ am_T := lk_mem (ps := [249, 267, 268, 271, 273, 274, 264, 265, 266, 269, 183, 210, 214, 207, 219, 217, 224, 212, 146, 248, 252, 260, 560, 564, 573, 577, 583, 589, 839, 864, 865, 844, 871, 875, 907, 565, 569]) (by decide +kernel) (by decide +kernel)
def lk_2 : List (Nat × Cond) := [(9, (Jvm.Cond.fieldLink "TwoHeads$Deeds" (9 : Nat) "TwoHeads$Deeds" "kind" "[I")),
  (15, (Jvm.Cond.fieldLink "TwoHeads$Deeds" (15 : Nat) "TwoHeads$Deeds" "by" "[I")),
  (18, (Jvm.Cond.fieldLink "TwoHeads$Deeds" (18 : Nat) "TwoHeads$Deeds" "on" "[I")),
  (21, (Jvm.Cond.fieldLink "TwoHeads$Deeds" (21 : Nat) "TwoHeads$Deeds" "day" "[I")),
  (24, (Jvm.Cond.fieldLink "TwoHeads$Deeds" (24 : Nat) "TwoHeads$Deeds" "faith" "[I")),
  (27, (Jvm.Cond.fieldLink "TwoHeads$Deeds" (27 : Nat) "TwoHeads$Deeds" "hangsOn" "[I")),
  (30, (Jvm.Cond.fieldLink "TwoHeads$Deeds" (30 : Nat) "TwoHeads$Deeds" "lifted" "[I")),
  (39, (Jvm.Cond.fieldLink "TwoHeads$Deeds" (39 : Nat) "TwoHeads$Deeds" "size" "I")),
  (43, (Jvm.Cond.fieldLinkNest "TwoHeads$Deeds" (43 : Nat) "TwoHeads" "RANK_OF_KIND" "[I" "TwoHeads")),
  (46, (Jvm.Cond.fieldLinkNest "TwoHeads$Deeds" (46 : Nat) "TwoHeads" "KIND_LASTS" "[I" "TwoHeads")),
  (3, (Jvm.Cond.methodLink "TwoHeads$Deeds" (3 : Nat) ({ cls := "java/lang/Object", name := "<init>", desc := "()V" } : Jvm.MethodName))),
  (33, (Jvm.Cond.methodLink "TwoHeads$Deeds" (33 : Nat) ({ cls := "java/util/Arrays", name := "fill", desc := "([II)V" } : Jvm.MethodName))),
  (49, (Jvm.Cond.methodLink "TwoHeads$Deeds" (49 : Nat) ({ cls := "TwoHeads$Deeds", name := "lastsFor", desc := "(I)I" } : Jvm.MethodName))),
  (53, (Jvm.Cond.methodLink "TwoHeads$Deeds" (53 : Nat) ({ cls := "TwoHeads$Deeds", name := "rankOf", desc := "(I)I" } : Jvm.MethodName)))]
theorem lk_2_in : ∀ q ∈ lk_2, q.2 ∈ am_T := lk_mem (ps := [206, 209, 211, 213, 216, 218, 221, 223, 204, 205, 635, 634]) (by decide +kernel) (by decide +kernel)
def lk_3 : List (Nat × Cond) := [(9, (Jvm.Cond.fieldLink "TwoHeads$Electors" (9 : Nat) "TwoHeads$Electors" "price" "[I")),
  (15, (Jvm.Cond.fieldLink "TwoHeads$Electors" (15 : Nat) "TwoHeads$Electors" "clashes" "[I")),
  (18, (Jvm.Cond.fieldLink "TwoHeads$Electors" (18 : Nat) "TwoHeads$Electors" "size" "I")),
  (22, (Jvm.Cond.fieldLink "TwoHeads$Electors" (22 : Nat) "TwoHeads$Electors" "ours" "I")),
  (3, (Jvm.Cond.methodLink "TwoHeads$Electors" (3 : Nat) ({ cls := "java/lang/Object", name := "<init>", desc := "()V" } : Jvm.MethodName))),
  (25, (Jvm.Cond.methodLink "TwoHeads$Electors" (25 : Nat) ({ cls := "java/lang/Integer", name := "bitCount", desc := "(I)I" } : Jvm.MethodName))),
  (31, (Jvm.Cond.methodLinkNest "TwoHeads$Electors" (31 : Nat) ({ cls := "TwoHeads", name := "sumOver", desc := "([II)I" } : Jvm.MethodName) "TwoHeads")),
  (35, (Jvm.Cond.methodLinkNest "TwoHeads$Electors" (35 : Nat) ({ cls := "TwoHeads", name := "goTogether", desc := "([II)Z" } : Jvm.MethodName) "TwoHeads"))]
theorem lk_3_in : ∀ q ∈ lk_3, q.2 ∈ am_T := lk_mem (ps := [373, 375, 378, 377, 372, 948]) (by decide +kernel) (by decide +kernel)
def lk_4 : List (Nat × Cond) := [(9, (Jvm.Cond.fieldLink "TwoHeads$Envoys" (9 : Nat) "TwoHeads$Envoys" "order" "[I")),
  (15, (Jvm.Cond.fieldLink "TwoHeads$Envoys" (15 : Nat) "TwoHeads$Envoys" "best" "[I")),
  (18, (Jvm.Cond.fieldLink "TwoHeads$Envoys" (18 : Nat) "TwoHeads$Envoys" "lands" "LTwoHeads$Lands;")),
  (28, (Jvm.Cond.fieldLink "TwoHeads$Envoys" (28 : Nat) "TwoHeads$Envoys" "size" "I")),
  (32, (Jvm.Cond.fieldLink "TwoHeads$Envoys" (32 : Nat) "TwoHeads$Envoys" "mostWon" "I")),
  (51, (Jvm.Cond.fieldLink "TwoHeads$Envoys" (51 : Nat) "TwoHeads$Lands" "ways" "[[I")),
  (61, (Jvm.Cond.fieldLink "TwoHeads$Envoys" (61 : Nat) "TwoHeads$Lands" "bounds" "[I")),
  (3, (Jvm.Cond.methodLink "TwoHeads$Envoys" (3 : Nat) ({ cls := "java/lang/Object", name := "<init>", desc := "()V" } : Jvm.MethodName))),
  (22, (Jvm.Cond.methodLink "TwoHeads$Envoys" (22 : Nat) ({ cls := "java/lang/Integer", name := "bitCount", desc := "(I)I" } : Jvm.MethodName))),
  (35, (Jvm.Cond.methodLink "TwoHeads$Envoys" (35 : Nat) ({ cls := "TwoHeads$Envoys", name := "goOn", desc := "(IIIII)V" } : Jvm.MethodName))),
  (39, (Jvm.Cond.methodLink "TwoHeads$Envoys" (39 : Nat) ({ cls := "TwoHeads$Envoys", name := "mayBeWon", desc := "(III)I" } : Jvm.MethodName))),
  (43, (Jvm.Cond.methodLink "TwoHeads$Envoys" (43 : Nat) ({ cls := "TwoHeads$Envoys", name := "keep", desc := "(I)V" } : Jvm.MethodName))),
  (47, (Jvm.Cond.methodLinkNest "TwoHeads$Envoys" (47 : Nat) ({ cls := "TwoHeads", name := "has", desc := "(II)Z" } : Jvm.MethodName) "TwoHeads")),
  (57, (Jvm.Cond.methodLink "TwoHeads$Envoys" (57 : Nat) ({ cls := "TwoHeads$Envoys", name := "giveUp", desc := "(III)V" } : Jvm.MethodName))),
  (64, (Jvm.Cond.methodLink "TwoHeads$Envoys" (64 : Nat) ({ cls := "java/lang/System", name := "arraycopy", desc := "(Ljava/lang/Object;ILjava/lang/Object;II)V" } : Jvm.MethodName)))]
theorem lk_4_in : ∀ q ∈ lk_4, q.2 ∈ am_T := lk_mem (ps := [419, 420, 418, 422, 424, 145, 155, 417, 1038, 1039, 1043, 1048, 1053, 1052]) (by decide +kernel) (by decide +kernel)
def lk_5 : List (Nat × Cond) := [(9, (Jvm.Cond.fieldLink "TwoHeads$Formula" (9 : Nat) "TwoHeads$Formula" "code" "[I")),
  (3, (Jvm.Cond.methodLink "TwoHeads$Formula" (3 : Nat) ({ cls := "java/lang/Object", name := "<init>", desc := "()V" } : Jvm.MethodName))),
  (15, (Jvm.Cond.methodLink "TwoHeads$Formula" (15 : Nat) ({ cls := "TwoHeads$Formula", name := "joined", desc := "(III)I" } : Jvm.MethodName)))]
theorem lk_5_in : ∀ q ∈ lk_5, q.2 ∈ am_T := lk_mem (ps := [256, 255, 593]) (by decide +kernel) (by decide +kernel)
def lk_6 : List (Nat × Cond) := [(9, (Jvm.Cond.classLink "TwoHeads$Lands" (9 : Nat) "[[I")),
  (11, (Jvm.Cond.fieldLink "TwoHeads$Lands" (11 : Nat) "TwoHeads$Lands" "roads" "[[I")),
  (16, (Jvm.Cond.fieldLink "TwoHeads$Lands" (16 : Nat) "TwoHeads$Lands" "ways" "[[I")),
  (19, (Jvm.Cond.fieldLink "TwoHeads$Lands" (19 : Nat) "TwoHeads$Lands" "turnLand" "[I")),
  (23, (Jvm.Cond.fieldLink "TwoHeads$Lands" (23 : Nat) "TwoHeads$Lands" "turnFrom" "[I")),
  (26, (Jvm.Cond.fieldLink "TwoHeads$Lands" (26 : Nat) "TwoHeads$Lands" "turnSide" "[I")),
  (29, (Jvm.Cond.fieldLink "TwoHeads$Lands" (29 : Nat) "TwoHeads$Lands" "seats" "[I")),
  (32, (Jvm.Cond.fieldLink "TwoHeads$Lands" (32 : Nat) "TwoHeads$Lands" "bounds" "[I")),
  (56, (Jvm.Cond.fieldLink "TwoHeads$Lands" (56 : Nat) "TwoHeads$Lands" "turns" "I")),
  (3, (Jvm.Cond.methodLink "TwoHeads$Lands" (3 : Nat) ({ cls := "java/lang/Object", name := "<init>", desc := "()V" } : Jvm.MethodName))),
  (35, (Jvm.Cond.methodLink "TwoHeads$Lands" (35 : Nat) ({ cls := "java/util/Arrays", name := "fill", desc := "([II)V" } : Jvm.MethodName))),
  (41, (Jvm.Cond.methodLink "TwoHeads$Lands" (41 : Nat) ({ cls := "TwoHeads$Lands", name := "measure", desc := "()V" } : Jvm.MethodName))),
  (44, (Jvm.Cond.methodLink "TwoHeads$Lands" (44 : Nat) ({ cls := "java/lang/System", name := "arraycopy", desc := "(Ljava/lang/Object;ILjava/lang/Object;II)V" } : Jvm.MethodName))),
  (50, (Jvm.Cond.methodLink "TwoHeads$Lands" (50 : Nat) ({ cls := "java/lang/Math", name := "min", desc := "(II)I" } : Jvm.MethodName))),
  (60, (Jvm.Cond.methodLink "TwoHeads$Lands" (60 : Nat) ({ cls := "TwoHeads$Lands", name := "turnOn", desc := "(II)I" } : Jvm.MethodName))),
  (63, (Jvm.Cond.methodLink "TwoHeads$Lands" (63 : Nat) ({ cls := "TwoHeads$Lands", name := "sideOn", desc := "(II)I" } : Jvm.MethodName))),
  (66, (Jvm.Cond.methodLink "TwoHeads$Lands" (66 : Nat) ({ cls := "java/lang/Integer", name := "bitCount", desc := "(I)I" } : Jvm.MethodName))),
  (72, (Jvm.Cond.methodLinkNest "TwoHeads$Lands" (72 : Nat) ({ cls := "TwoHeads", name := "sumOver", desc := "([II)I" } : Jvm.MethodName) "TwoHeads"))]
theorem lk_6_in : ∀ q ∈ lk_6, q.2 ∈ am_T := lk_mem (ps := [126, 141, 143, 147, 148, 149, 152, 154, 150, 125, 128, 131, 135, 138, 548, 972, 977]) (by decide +kernel) (by decide +kernel)
def lk_7 : List (Nat × Cond) := [(9, (Jvm.Cond.fieldLink "TwoHeads$People" (9 : Nat) "TwoHeads$People" "land" "[I")),
  (15, (Jvm.Cond.fieldLink "TwoHeads$People" (15 : Nat) "TwoHeads$People" "officeLand" "[I")),
  (18, (Jvm.Cond.fieldLink "TwoHeads$People" (18 : Nat) "TwoHeads$People" "sitter" "[I")),
  (3, (Jvm.Cond.methodLink "TwoHeads$People" (3 : Nat) ({ cls := "java/lang/Object", name := "<init>", desc := "()V" } : Jvm.MethodName))),
  (21, (Jvm.Cond.methodLink "TwoHeads$People" (21 : Nat) ({ cls := "java/util/Arrays", name := "fill", desc := "([II)V" } : Jvm.MethodName)))]
theorem lk_7_in : ∀ q ∈ lk_7, q.2 ∈ am_T := lk_mem (ps := [182, 186, 188, 180, 181]) (by decide +kernel) (by decide +kernel)
def lk_8 : List (Nat × Cond) := [(134, (Jvm.Cond.classLink "TwoHeads$Reader" (134 : Nat) "TwoHeads$Formula")),
  (9, (Jvm.Cond.fieldLink "TwoHeads$Reader" (9 : Nat) "TwoHeads$Reader" "tape" "[B")),
  (15, (Jvm.Cond.fieldLink "TwoHeads$Reader" (15 : Nat) "TwoHeads$Reader" "tokens" "[I")),
  (19, (Jvm.Cond.fieldLink "TwoHeads$Reader" (19 : Nat) "TwoHeads$Reader" "places" "[I")),
  (22, (Jvm.Cond.fieldLink "TwoHeads$Reader" (22 : Nat) "TwoHeads$Reader" "values" "[I")),
  (25, (Jvm.Cond.fieldLink "TwoHeads$Reader" (25 : Nat) "TwoHeads$Reader" "code" "[I")),
  (28, (Jvm.Cond.fieldLink "TwoHeads$Reader" (28 : Nat) "TwoHeads$Reader" "size" "I")),
  (35, (Jvm.Cond.fieldLink "TwoHeads$Reader" (35 : Nat) "TwoHeads$Reader" "fault" "I")),
  (38, (Jvm.Cond.fieldLink "TwoHeads$Reader" (38 : Nat) "TwoHeads$Reader" "current" "I")),
  (41, (Jvm.Cond.fieldLink "TwoHeads$Reader" (41 : Nat) "TwoHeads$Reader" "token" "I")),
  (48, (Jvm.Cond.fieldLink "TwoHeads$Reader" (48 : Nat) "TwoHeads$Reader" "binds" "LTwoHeads$Formula;")),
  (52, (Jvm.Cond.fieldLink "TwoHeads$Reader" (52 : Nat) "TwoHeads$Reader" "saved" "LTwoHeads$Formula;")),
  (58, (Jvm.Cond.fieldLink "TwoHeads$Reader" (58 : Nat) "TwoHeads$Reader" "at" "I")),
  (124, (Jvm.Cond.fieldLink "TwoHeads$Reader" (124 : Nat) "TwoHeads$Reader" "codeSize" "I")),
  (3, (Jvm.Cond.methodLink "TwoHeads$Reader" (3 : Nat) ({ cls := "java/lang/Object", name := "<init>", desc := "()V" } : Jvm.MethodName))),
  (32, (Jvm.Cond.methodLink "TwoHeads$Reader" (32 : Nat) ({ cls := "TwoHeads$Reader", name := "findTokens", desc := "()V" } : Jvm.MethodName))),
  (44, (Jvm.Cond.methodLink "TwoHeads$Reader" (44 : Nat) ({ cls := "TwoHeads$Reader", name := "readPart", desc := "(I)LTwoHeads$Formula;" } : Jvm.MethodName))),
  (55, (Jvm.Cond.methodLink "TwoHeads$Reader" (55 : Nat) ({ cls := "TwoHeads$Reader", name := "fail", desc := "()V" } : Jvm.MethodName))),
  (61, (Jvm.Cond.methodLink "TwoHeads$Reader" (61 : Nat) ({ cls := "TwoHeads$Reader", name := "skipBlanks", desc := "()V" } : Jvm.MethodName))),
  (64, (Jvm.Cond.methodLink "TwoHeads$Reader" (64 : Nat) ({ cls := "TwoHeads$Reader", name := "findToken", desc := "(I)I" } : Jvm.MethodName))),
  (68, (Jvm.Cond.methodLink "TwoHeads$Reader" (68 : Nat) ({ cls := "TwoHeads$Reader", name := "isLetter", desc := "(B)Z" } : Jvm.MethodName))),
  (72, (Jvm.Cond.methodLink "TwoHeads$Reader" (72 : Nat) ({ cls := "TwoHeads$Reader", name := "findWord", desc := "(I)I" } : Jvm.MethodName))),
  (75, (Jvm.Cond.methodLink "TwoHeads$Reader" (75 : Nat) ({ cls := "TwoHeads$Reader", name := "isDigit", desc := "(B)Z" } : Jvm.MethodName))),
  (78, (Jvm.Cond.methodLink "TwoHeads$Reader" (78 : Nat) ({ cls := "TwoHeads$Reader", name := "findNumber", desc := "(I)I" } : Jvm.MethodName))),
  (81, (Jvm.Cond.methodLink "TwoHeads$Reader" (81 : Nat) ({ cls := "TwoHeads$Reader", name := "isSign", desc := "(B)Z" } : Jvm.MethodName))),
  (84, (Jvm.Cond.methodLink "TwoHeads$Reader" (84 : Nat) ({ cls := "TwoHeads$Reader", name := "nameFrom", desc := "(I)I" } : Jvm.MethodName))),
  (87, (Jvm.Cond.methodLink "TwoHeads$Reader" (87 : Nat) ({ cls := "TwoHeads$Reader", name := "keyFrom", desc := "(I)I" } : Jvm.MethodName))),
  (92, (Jvm.Cond.methodLink "TwoHeads$Reader" (92 : Nat) ({ cls := "TwoHeads$Reader", name := "spells", desc := "(ILjava/lang/String;)Z" } : Jvm.MethodName))),
  (114, (Jvm.Cond.methodLink "TwoHeads$Reader" (114 : Nat) ({ cls := "java/lang/String", name := "length", desc := "()I" } : Jvm.MethodName))),
  (120, (Jvm.Cond.methodLink "TwoHeads$Reader" (120 : Nat) ({ cls := "java/lang/String", name := "charAt", desc := "(I)C" } : Jvm.MethodName))),
  (127, (Jvm.Cond.methodLink "TwoHeads$Reader" (127 : Nat) ({ cls := "TwoHeads$Reader", name := "expect", desc := "(I)V" } : Jvm.MethodName))),
  (131, (Jvm.Cond.methodLink "TwoHeads$Reader" (131 : Nat) ({ cls := "TwoHeads$Reader", name := "readEither", desc := "(I)V" } : Jvm.MethodName))),
  (136, (Jvm.Cond.methodLink "TwoHeads$Reader" (136 : Nat) ({ cls := "java/util/Arrays", name := "copyOf", desc := "([II)[I" } : Jvm.MethodName))),
  (142, (Jvm.Cond.methodLink "TwoHeads$Reader" (142 : Nat) ({ cls := "TwoHeads$Formula", name := "<init>", desc := "([I)V" } : Jvm.MethodName))),
  (145, (Jvm.Cond.methodLink "TwoHeads$Reader" (145 : Nat) ({ cls := "TwoHeads$Reader", name := "readBoth", desc := "(I)V" } : Jvm.MethodName))),
  (148, (Jvm.Cond.methodLink "TwoHeads$Reader" (148 : Nat) ({ cls := "TwoHeads$Reader", name := "advance", desc := "()V" } : Jvm.MethodName))),
  (151, (Jvm.Cond.methodLink "TwoHeads$Reader" (151 : Nat) ({ cls := "TwoHeads$Reader", name := "write", desc := "(I)V" } : Jvm.MethodName))),
  (154, (Jvm.Cond.methodLink "TwoHeads$Reader" (154 : Nat) ({ cls := "TwoHeads$Reader", name := "readNot", desc := "(I)V" } : Jvm.MethodName))),
  (157, (Jvm.Cond.methodLink "TwoHeads$Reader" (157 : Nat) ({ cls := "TwoHeads$Reader", name := "mayOpen", desc := "(I)Z" } : Jvm.MethodName))),
  (161, (Jvm.Cond.methodLink "TwoHeads$Reader" (161 : Nat) ({ cls := "TwoHeads$Reader", name := "readSum", desc := "(I)V" } : Jvm.MethodName))),
  (164, (Jvm.Cond.methodLink "TwoHeads$Reader" (164 : Nat) ({ cls := "TwoHeads$Reader", name := "readTerm", desc := "(I)V" } : Jvm.MethodName))),
  (167, (Jvm.Cond.methodLink "TwoHeads$Reader" (167 : Nat) ({ cls := "TwoHeads$Reader", name := "readOne", desc := "(I)V" } : Jvm.MethodName)))]
theorem lk_8_in : ∀ q ∈ lk_8, q.2 ∈ am_T := lk_mem (ps := [800, 323, 331, 332, 333, 337, 324, 336, 334, 335, 326, 328, 330, 338, 322, 652, 752, 764, 656, 660, 664, 667, 742, 745, 749, 671, 733, 676, 680, 690, 756, 768, 801, 813, 772, 760, 784, 776, 780, 788, 792, 796]) (by decide +kernel) (by decide +kernel)
def lk_9 : List (Nat × Cond) := [(9, (Jvm.Cond.fieldLink "TwoHeads$Rents" (9 : Nat) "TwoHeads$Rents" "office" "[I")),
  (15, (Jvm.Cond.fieldLink "TwoHeads$Rents" (15 : Nat) "TwoHeads$Rents" "person" "[I")),
  (18, (Jvm.Cond.fieldLink "TwoHeads$Rents" (18 : Nat) "TwoHeads$Rents" "coins" "[I")),
  (21, (Jvm.Cond.fieldLink "TwoHeads$Rents" (21 : Nat) "TwoHeads$Rents" "day" "[I")),
  (24, (Jvm.Cond.fieldLink "TwoHeads$Rents" (24 : Nat) "TwoHeads$Rents" "size" "I")),
  (3, (Jvm.Cond.methodLink "TwoHeads$Rents" (3 : Nat) ({ cls := "java/lang/Object", name := "<init>", desc := "()V" } : Jvm.MethodName))),
  (28, (Jvm.Cond.methodLink "TwoHeads$Rents" (28 : Nat) ({ cls := "TwoHeads$Court", name := "rightful", desc := "(III)I" } : Jvm.MethodName)))]
theorem lk_9_in : ∀ q ∈ lk_9, q.2 ∈ am_T := lk_mem (ps := [300, 301, 302, 303, 304, 299, 924]) (by decide +kernel) (by decide +kernel)
def lk_10 : List (Nat × Cond) := [(9, (Jvm.Cond.fieldLink "TwoHeads$Sheet" (9 : Nat) "TwoHeads$Sheet" "sort" "I")),
  (15, (Jvm.Cond.fieldLink "TwoHeads$Sheet" (15 : Nat) "TwoHeads$Sheet" "items" "[I")),
  (19, (Jvm.Cond.fieldLink "TwoHeads$Sheet" (19 : Nat) "TwoHeads$Sheet" "size" "I")),
  (3, (Jvm.Cond.methodLink "TwoHeads$Sheet" (3 : Nat) ({ cls := "java/lang/Object", name := "<init>", desc := "()V" } : Jvm.MethodName))),
  (22, (Jvm.Cond.methodLink "TwoHeads$Sheet" (22 : Nat) ({ cls := "java/util/Arrays", name := "fill", desc := "([II)V" } : Jvm.MethodName)))]
theorem lk_10_in : ∀ q ∈ lk_10, q.2 ∈ am_T := lk_mem (ps := [444, 448, 446, 443, 1072]) (by decide +kernel) (by decide +kernel)
def lk_11 : List (Nat × Cond) := [(7, (Jvm.Cond.classLink "TwoHeads" (7 : Nat) "TwoHeads$Lands")),
  (16, (Jvm.Cond.classLink "TwoHeads" (16 : Nat) "TwoHeads$People")),
  (23, (Jvm.Cond.classLink "TwoHeads" (23 : Nat) "TwoHeads$Deeds")),
  (30, (Jvm.Cond.classLink "TwoHeads" (30 : Nat) "TwoHeads$Court")),
  (39, (Jvm.Cond.classLink "TwoHeads" (39 : Nat) "TwoHeads$Rents")),
  (46, (Jvm.Cond.classLink "TwoHeads" (46 : Nat) "TwoHeads$Reader")),
  (53, (Jvm.Cond.classLink "TwoHeads" (53 : Nat) "TwoHeads$Electors")),
  (60, (Jvm.Cond.classLink "TwoHeads" (60 : Nat) "TwoHeads$Clauses")),
  (67, (Jvm.Cond.classLink "TwoHeads" (67 : Nat) "TwoHeads$Envoys")),
  (76, (Jvm.Cond.classLink "TwoHeads" (76 : Nat) "TwoHeads$Sheet")),
  (10, (Jvm.Cond.fieldLink "TwoHeads" (10 : Nat) "TwoHeads" "lands" "LTwoHeads$Lands;")),
  (19, (Jvm.Cond.fieldLink "TwoHeads" (19 : Nat) "TwoHeads" "people" "LTwoHeads$People;")),
  (26, (Jvm.Cond.fieldLink "TwoHeads" (26 : Nat) "TwoHeads" "deeds" "LTwoHeads$Deeds;")),
  (35, (Jvm.Cond.fieldLink "TwoHeads" (35 : Nat) "TwoHeads" "court" "LTwoHeads$Court;")),
  (42, (Jvm.Cond.fieldLink "TwoHeads" (42 : Nat) "TwoHeads" "rents" "LTwoHeads$Rents;")),
  (49, (Jvm.Cond.fieldLink "TwoHeads" (49 : Nat) "TwoHeads" "reader" "LTwoHeads$Reader;")),
  (56, (Jvm.Cond.fieldLink "TwoHeads" (56 : Nat) "TwoHeads" "electors" "LTwoHeads$Electors;")),
  (63, (Jvm.Cond.fieldLink "TwoHeads" (63 : Nat) "TwoHeads" "clauses" "LTwoHeads$Clauses;")),
  (72, (Jvm.Cond.fieldLink "TwoHeads" (72 : Nat) "TwoHeads" "envoys" "LTwoHeads$Envoys;")),
  (78, (Jvm.Cond.fieldLink "TwoHeads" (78 : Nat) "TwoHeads" "sheets" "[LTwoHeads$Sheet;")),
  (91, (Jvm.Cond.fieldLink "TwoHeads" (91 : Nat) "TwoHeads$Lands" "roads" "[[I")),
  (99, (Jvm.Cond.fieldLink "TwoHeads" (99 : Nat) "TwoHeads$Lands" "ways" "[[I")),
  (102, (Jvm.Cond.fieldLink "TwoHeads" (102 : Nat) "TwoHeads$People" "size" "I")),
  (106, (Jvm.Cond.fieldLink "TwoHeads" (106 : Nat) "TwoHeads$People" "land" "[I")),
  (113, (Jvm.Cond.fieldLink "TwoHeads" (113 : Nat) "TwoHeads$People" "officeLand" "[I")),
  (119, (Jvm.Cond.fieldLink "TwoHeads" (119 : Nat) "TwoHeads$People" "sitter" "[I")),
  (125, (Jvm.Cond.fieldLink "TwoHeads" (125 : Nat) "TwoHeads$Lands" "turns" "I")),
  (139, (Jvm.Cond.fieldLink "TwoHeads" (139 : Nat) "TwoHeads$Deeds" "size" "I")),
  (147, (Jvm.Cond.fieldLink "TwoHeads" (147 : Nat) "TwoHeads$Deeds" "hangsOn" "[I")),
  (160, (Jvm.Cond.fieldLink "TwoHeads" (160 : Nat) "TwoHeads$Deeds" "day" "[I")),
  (163, (Jvm.Cond.fieldLink "TwoHeads" (163 : Nat) "TwoHeads$Deeds" "kind" "[I")),
  (166, (Jvm.Cond.fieldLink "TwoHeads" (166 : Nat) "TwoHeads$Deeds" "lifted" "[I")),
  (175, (Jvm.Cond.fieldLink "TwoHeads" (175 : Nat) "TwoHeads$Reader" "size" "I")),
  (180, (Jvm.Cond.fieldLink "TwoHeads" (180 : Nat) "TwoHeads$Court" "texts" "I")),
  (187, (Jvm.Cond.fieldLink "TwoHeads" (187 : Nat) "TwoHeads$Reader" "binds" "LTwoHeads$Formula;")),
  (191, (Jvm.Cond.fieldLink "TwoHeads" (191 : Nat) "TwoHeads$Reader" "saved" "LTwoHeads$Formula;")),
  (201, (Jvm.Cond.fieldLink "TwoHeads" (201 : Nat) "TwoHeads$Court" "textOf" "[I")),
  (233, (Jvm.Cond.fieldLink "TwoHeads" (233 : Nat) "TwoHeads$Rents" "size" "I")),
  (241, (Jvm.Cond.fieldLink "TwoHeads" (241 : Nat) "TwoHeads$Electors" "size" "I")),
  (244, (Jvm.Cond.fieldLink "TwoHeads" (244 : Nat) "TwoHeads$Electors" "clashes" "[I")),
  (254, (Jvm.Cond.fieldLink "TwoHeads" (254 : Nat) "TwoHeads$Electors" "price" "[I")),
  (261, (Jvm.Cond.fieldLink "TwoHeads" (261 : Nat) "TwoHeads$Lands" "seats" "[I")),
  (274, (Jvm.Cond.fieldLink "TwoHeads" (274 : Nat) "TwoHeads$Clauses" "size" "I")),
  (280, (Jvm.Cond.fieldLink "TwoHeads" (280 : Nat) "TwoHeads$Clauses" "worth" "[[I")),
  (283, (Jvm.Cond.fieldLink "TwoHeads" (283 : Nat) "TwoHeads$Clauses" "foes" "[I")),
  (295, (Jvm.Cond.fieldLink "TwoHeads" (295 : Nat) "TwoHeads$Lands" "bounds" "[I")),
  (302, (Jvm.Cond.fieldLink "TwoHeads" (302 : Nat) "TwoHeads$Envoys" "mostWon" "I")),
  (305, (Jvm.Cond.fieldLink "TwoHeads" (305 : Nat) "TwoHeads$Envoys" "size" "I")),
  (306, (Jvm.Cond.fieldLink "TwoHeads" (306 : Nat) "TwoHeads$Envoys" "best" "[I")),
  (319, (Jvm.Cond.fieldLink "TwoHeads" (319 : Nat) "TwoHeads$Sheet" "size" "I")),
  (323, (Jvm.Cond.fieldLink "TwoHeads" (323 : Nat) "TwoHeads$Sheet" "sort" "I")),
  (329, (Jvm.Cond.fieldLink "TwoHeads" (329 : Nat) "TwoHeads$Sheet" "items" "[I")),
  (341, (Jvm.Cond.fieldLink "TwoHeads" (341 : Nat) "TwoHeads" "RANK_OF_KIND" "[I")),
  (344, (Jvm.Cond.fieldLink "TwoHeads" (344 : Nat) "TwoHeads" "KIND_ABOVE" "[I")),
  (204, (Jvm.Cond.constantLong "TwoHeads" (204 : Nat) (-4611686018427387904 : Int64))),
  (273, (Jvm.Cond.constant "TwoHeads" (273 : Nat) (16777215 : Int32))),
  (1, (Jvm.Cond.methodLink "TwoHeads" (1 : Nat) ({ cls := "java/lang/Object", name := "<init>", desc := "()V" } : Jvm.MethodName))),
  (9, (Jvm.Cond.methodLink "TwoHeads" (9 : Nat) ({ cls := "TwoHeads$Lands", name := "<init>", desc := "()V" } : Jvm.MethodName))),
  (18, (Jvm.Cond.methodLink "TwoHeads" (18 : Nat) ({ cls := "TwoHeads$People", name := "<init>", desc := "()V" } : Jvm.MethodName))),
  (25, (Jvm.Cond.methodLink "TwoHeads" (25 : Nat) ({ cls := "TwoHeads$Deeds", name := "<init>", desc := "()V" } : Jvm.MethodName))),
  (32, (Jvm.Cond.methodLink "TwoHeads" (32 : Nat) ({ cls := "TwoHeads$Court", name := "<init>", desc := "(LTwoHeads$Lands;LTwoHeads$People;LTwoHeads$Deeds;)V" } : Jvm.MethodName))),
  (41, (Jvm.Cond.methodLinkNest "TwoHeads" (41 : Nat) ({ cls := "TwoHeads$Rents", name := "<init>", desc := "()V" } : Jvm.MethodName) "TwoHeads")),
  (48, (Jvm.Cond.methodLinkNest "TwoHeads" (48 : Nat) ({ cls := "TwoHeads$Reader", name := "<init>", desc := "()V" } : Jvm.MethodName) "TwoHeads")),
  (55, (Jvm.Cond.methodLinkNest "TwoHeads" (55 : Nat) ({ cls := "TwoHeads$Electors", name := "<init>", desc := "()V" } : Jvm.MethodName) "TwoHeads")),
  (62, (Jvm.Cond.methodLinkNest "TwoHeads" (62 : Nat) ({ cls := "TwoHeads$Clauses", name := "<init>", desc := "()V" } : Jvm.MethodName) "TwoHeads")),
  (69, (Jvm.Cond.methodLink "TwoHeads" (69 : Nat) ({ cls := "TwoHeads$Envoys", name := "<init>", desc := "(LTwoHeads$Lands;)V" } : Jvm.MethodName))),
  (82, (Jvm.Cond.methodLinkNest "TwoHeads" (82 : Nat) ({ cls := "TwoHeads$Sheet", name := "<init>", desc := "()V" } : Jvm.MethodName) "TwoHeads")),
  (83, (Jvm.Cond.methodLink "TwoHeads" (83 : Nat) ({ cls := "TwoHeads", name := "isLand", desc := "(I)Z" } : Jvm.MethodName))),
  (87, (Jvm.Cond.methodLink "TwoHeads" (87 : Nat) ({ cls := "TwoHeads", name := "isWithin", desc := "(III)Z" } : Jvm.MethodName))),
  (95, (Jvm.Cond.methodLink "TwoHeads" (95 : Nat) ({ cls := "TwoHeads$Lands", name := "lay", desc := "(III)V" } : Jvm.MethodName))),
  (110, (Jvm.Cond.methodLink "TwoHeads" (110 : Nat) ({ cls := "TwoHeads", name := "isOffice", desc := "(I)Z" } : Jvm.MethodName))),
  (116, (Jvm.Cond.methodLink "TwoHeads" (116 : Nat) ({ cls := "TwoHeads", name := "isPerson", desc := "(I)Z" } : Jvm.MethodName))),
  (122, (Jvm.Cond.methodLink "TwoHeads" (122 : Nat) ({ cls := "TwoHeads", name := "isDay", desc := "(I)Z" } : Jvm.MethodName))),
  (128, (Jvm.Cond.methodLink "TwoHeads" (128 : Nat) ({ cls := "TwoHeads$Lands", name := "addTurn", desc := "(III)I" } : Jvm.MethodName))),
  (132, (Jvm.Cond.methodLink "TwoHeads" (132 : Nat) ({ cls := "TwoHeads$Lands", name := "sideOn", desc := "(II)I" } : Jvm.MethodName))),
  (136, (Jvm.Cond.methodLink "TwoHeads" (136 : Nat) ({ cls := "TwoHeads$Court", name := "changedBy", desc := "(III)I" } : Jvm.MethodName))),
  (140, (Jvm.Cond.methodLink "TwoHeads" (140 : Nat) ({ cls := "TwoHeads$Deeds", name := "add", desc := "(IIIII)I" } : Jvm.MethodName))),
  (144, (Jvm.Cond.methodLink "TwoHeads" (144 : Nat) ({ cls := "TwoHeads", name := "isAct", desc := "(I)Z" } : Jvm.MethodName))),
  (150, (Jvm.Cond.methodLink "TwoHeads" (150 : Nat) ({ cls := "TwoHeads", name := "has", desc := "(II)Z" } : Jvm.MethodName))),
  (154, (Jvm.Cond.methodLink "TwoHeads" (154 : Nat) ({ cls := "java/lang/Integer", name := "bitCount", desc := "(I)I" } : Jvm.MethodName))),
  (169, (Jvm.Cond.methodLink "TwoHeads" (169 : Nat) ({ cls := "TwoHeads$Deeds", name := "lastsFor", desc := "(I)I" } : Jvm.MethodName))),
  (172, (Jvm.Cond.methodLink "TwoHeads" (172 : Nat) ({ cls := "TwoHeads$Deeds", name := "tell", desc := "(II)I" } : Jvm.MethodName))),
  (176, (Jvm.Cond.methodLink "TwoHeads" (176 : Nat) ({ cls := "TwoHeads$Reader", name := "append", desc := "(IJ)V" } : Jvm.MethodName))),
  (183, (Jvm.Cond.methodLink "TwoHeads" (183 : Nat) ({ cls := "TwoHeads$Reader", name := "readTape", desc := "()I" } : Jvm.MethodName))),
  (194, (Jvm.Cond.methodLink "TwoHeads" (194 : Nat) ({ cls := "TwoHeads$Court", name := "addText", desc := "(LTwoHeads$Formula;LTwoHeads$Formula;)I" } : Jvm.MethodName))),
  (198, (Jvm.Cond.methodLink "TwoHeads" (198 : Nat) ({ cls := "TwoHeads", name := "isSide", desc := "(I)Z" } : Jvm.MethodName))),
  (206, (Jvm.Cond.methodLink "TwoHeads" (206 : Nat) ({ cls := "TwoHeads$Court", name := "valueOf", desc := "(III)I" } : Jvm.MethodName))),
  (209, (Jvm.Cond.methodLink "TwoHeads" (209 : Nat) ({ cls := "TwoHeads$Court", name := "trueUnder", desc := "(II)I" } : Jvm.MethodName))),
  (212, (Jvm.Cond.methodLink "TwoHeads" (212 : Nat) ({ cls := "TwoHeads$Court", name := "goodAmong", desc := "(II)I" } : Jvm.MethodName))),
  (215, (Jvm.Cond.methodLink "TwoHeads" (215 : Nat) ({ cls := "TwoHeads$Court", name := "firmAmong", desc := "(II)I" } : Jvm.MethodName))),
  (218, (Jvm.Cond.methodLink "TwoHeads" (218 : Nat) ({ cls := "TwoHeads$Court", name := "goodUnder", desc := "(I)I" } : Jvm.MethodName))),
  (221, (Jvm.Cond.methodLink "TwoHeads" (221 : Nat) ({ cls := "TwoHeads$Court", name := "forceOn", desc := "(II)I" } : Jvm.MethodName))),
  (224, (Jvm.Cond.methodLink "TwoHeads" (224 : Nat) ({ cls := "TwoHeads$Court", name := "rightful", desc := "(III)I" } : Jvm.MethodName))),
  (227, (Jvm.Cond.methodLink "TwoHeads" (227 : Nat) ({ cls := "TwoHeads$Court", name := "knownFrom", desc := "(II)I" } : Jvm.MethodName))),
  (230, (Jvm.Cond.methodLink "TwoHeads" (230 : Nat) ({ cls := "TwoHeads$Court", name := "knewOf", desc := "(II)Z" } : Jvm.MethodName))),
  (234, (Jvm.Cond.methodLink "TwoHeads" (234 : Nat) ({ cls := "TwoHeads$Rents", name := "add", desc := "(IIII)I" } : Jvm.MethodName))),
  (237, (Jvm.Cond.methodLink "TwoHeads" (237 : Nat) ({ cls := "TwoHeads$Rents", name := "owedAgain", desc := "(LTwoHeads$Court;II)J" } : Jvm.MethodName))),
  (242, (Jvm.Cond.methodLink "TwoHeads" (242 : Nat) ({ cls := "TwoHeads$Electors", name := "add", desc := "(II)I" } : Jvm.MethodName))),
  (247, (Jvm.Cond.methodLink "TwoHeads" (247 : Nat) ({ cls := "TwoHeads", name := "setApart", desc := "([III)I" } : Jvm.MethodName))),
  (251, (Jvm.Cond.methodLink "TwoHeads" (251 : Nat) ({ cls := "TwoHeads$Electors", name := "cheapest", desc := "()I" } : Jvm.MethodName))),
  (257, (Jvm.Cond.methodLink "TwoHeads" (257 : Nat) ({ cls := "TwoHeads", name := "sumOver", desc := "([II)I" } : Jvm.MethodName))),
  (264, (Jvm.Cond.methodLink "TwoHeads" (264 : Nat) ({ cls := "TwoHeads$Lands", name := "within", desc := "(II)I" } : Jvm.MethodName))),
  (267, (Jvm.Cond.methodLink "TwoHeads" (267 : Nat) ({ cls := "TwoHeads$Lands", name := "holdingToOne", desc := "(I)I" } : Jvm.MethodName))),
  (270, (Jvm.Cond.methodLink "TwoHeads" (270 : Nat) ({ cls := "TwoHeads$Lands", name := "call", desc := "(III)I" } : Jvm.MethodName))),
  (275, (Jvm.Cond.methodLink "TwoHeads" (275 : Nat) ({ cls := "TwoHeads$Clauses", name := "add", desc := "(I)I" } : Jvm.MethodName))),
  (277, (Jvm.Cond.methodLink "TwoHeads" (277 : Nat) ({ cls := "TwoHeads", name := "isClause", desc := "(I)Z" } : Jvm.MethodName))),
  (286, (Jvm.Cond.methodLink "TwoHeads" (286 : Nat) ({ cls := "TwoHeads$Clauses", name := "settled", desc := "(II)I" } : Jvm.MethodName))),
  (289, (Jvm.Cond.methodLink "TwoHeads" (289 : Nat) ({ cls := "TwoHeads$Clauses", name := "undoneBy", desc := "(II)I" } : Jvm.MethodName))),
  (292, (Jvm.Cond.methodLink "TwoHeads" (292 : Nat) ({ cls := "TwoHeads$Clauses", name := "takersOf", desc := "(I)I" } : Jvm.MethodName))),
  (298, (Jvm.Cond.methodLink "TwoHeads" (298 : Nat) ({ cls := "TwoHeads$Envoys", name := "plan", desc := "(II)V" } : Jvm.MethodName))),
  (309, (Jvm.Cond.methodLink "TwoHeads" (309 : Nat) ({ cls := "TwoHeads", name := "isSheet", desc := "(I)Z" } : Jvm.MethodName))),
  (312, (Jvm.Cond.methodLink "TwoHeads" (312 : Nat) ({ cls := "TwoHeads$Sheet", name := "become", desc := "(II)V" } : Jvm.MethodName))),
  (315, (Jvm.Cond.methodLink "TwoHeads" (315 : Nat) ({ cls := "TwoHeads$Sheet", name := "isMissing", desc := "()Z" } : Jvm.MethodName))),
  (320, (Jvm.Cond.methodLink "TwoHeads" (320 : Nat) ({ cls := "TwoHeads$Sheet", name := "put", desc := "(II)V" } : Jvm.MethodName))),
  (326, (Jvm.Cond.methodLink "TwoHeads" (326 : Nat) ({ cls := "TwoHeads$Sheet", name := "holds", desc := "(II)Z" } : Jvm.MethodName))),
  (332, (Jvm.Cond.methodLink "TwoHeads" (332 : Nat) ({ cls := "java/lang/System", name := "arraycopy", desc := "(Ljava/lang/Object;ILjava/lang/Object;II)V" } : Jvm.MethodName))),
  (338, (Jvm.Cond.methodLink "TwoHeads" (338 : Nat) ({ cls := "TwoHeads", name := "isUnder", desc := "(II)Z" } : Jvm.MethodName)))]
theorem lk_11_in : ∀ q ∈ lk_11, q.2 ∈ am_T := lk_mem (ps := [120, 175, 199, 243, 294, 317, 367, 389, 412, 437, 457, 458, 459, 460, 461, 462, 463, 464, 465, 466, 142, 144, 185, 184, 187, 189, 151, 225, 220, 215, 208, 222, 325, 270, 327, 329, 272, 305, 379, 376, 374, 153, 402, 400, 398, 156, 425, 423, 421, 447, 445, 449, 1107, 1105, 826, 983, 117, 122, 177, 201, 245, 414, 492, 495, 498, 514, 521, 533, 536, 544, 556, 600, 608, 612, 615, 620, 630, 640, 648, 814, 819, 827, 835, 840, 848, 860, 866, 883, 895, 903, 912, 920, 929, 937, 944, 955, 964, 968, 973, 984, 992, 1004, 1024, 1025, 1034, 1065, 1068, 1077, 1081, 1089, 1093, 1102]) (by decide +kernel) (by decide +kernel)
def lk_12 : List (Nat × Cond) := [(7, (Jvm.Cond.fieldLink "TwoHeadsModel" (7 : Nat) "TwoHeadsModel" "road" "[I")),
  (13, (Jvm.Cond.fieldLink "TwoHeadsModel" (13 : Nat) "TwoHeadsModel" "far" "[I")),
  (16, (Jvm.Cond.fieldLink "TwoHeadsModel" (16 : Nat) "TwoHeadsModel" "persons" "I")),
  (20, (Jvm.Cond.fieldLink "TwoHeadsModel" (20 : Nat) "TwoHeadsModel" "turns" "I")),
  (23, (Jvm.Cond.fieldLink "TwoHeadsModel" (23 : Nat) "TwoHeadsModel" "landOf" "[I")),
  (26, (Jvm.Cond.fieldLink "TwoHeadsModel" (26 : Nat) "TwoHeadsModel" "officeLand" "[I")),
  (29, (Jvm.Cond.fieldLink "TwoHeadsModel" (29 : Nat) "TwoHeadsModel" "sits" "[I")),
  (32, (Jvm.Cond.fieldLink "TwoHeadsModel" (32 : Nat) "TwoHeadsModel" "turnLand" "[I")),
  (35, (Jvm.Cond.fieldLink "TwoHeadsModel" (35 : Nat) "TwoHeadsModel" "turnDay" "[I")),
  (38, (Jvm.Cond.fieldLink "TwoHeadsModel" (38 : Nat) "TwoHeadsModel" "turnSide" "[I")),
  (41, (Jvm.Cond.fieldLink "TwoHeadsModel" (41 : Nat) "TwoHeadsModel" "acts" "I")),
  (44, (Jvm.Cond.fieldLink "TwoHeadsModel" (44 : Nat) "TwoHeadsModel" "kind" "[I")),
  (47, (Jvm.Cond.fieldLink "TwoHeadsModel" (47 : Nat) "TwoHeadsModel" "by" "[I")),
  (50, (Jvm.Cond.fieldLink "TwoHeadsModel" (50 : Nat) "TwoHeadsModel" "on" "[I")),
  (53, (Jvm.Cond.fieldLink "TwoHeadsModel" (53 : Nat) "TwoHeadsModel" "day" "[I")),
  (56, (Jvm.Cond.fieldLink "TwoHeadsModel" (56 : Nat) "TwoHeadsModel" "faith" "[I")),
  (59, (Jvm.Cond.fieldLink "TwoHeadsModel" (59 : Nat) "TwoHeadsModel" "hangs" "[I")),
  (62, (Jvm.Cond.fieldLink "TwoHeadsModel" (62 : Nat) "TwoHeadsModel" "lifted" "[I")),
  (65, (Jvm.Cond.fieldLink "TwoHeadsModel" (65 : Nat) "TwoHeadsModel" "tape" "[B")),
  (69, (Jvm.Cond.fieldLink "TwoHeadsModel" (69 : Nat) "TwoHeadsModel" "taped" "I")),
  (72, (Jvm.Cond.fieldLink "TwoHeadsModel" (72 : Nat) "TwoHeadsModel" "texts" "I")),
  (75, (Jvm.Cond.fieldLink "TwoHeadsModel" (75 : Nat) "TwoHeadsModel" "ruleOf" "[I")),
  (78, (Jvm.Cond.fieldLink "TwoHeadsModel" (78 : Nat) "TwoHeadsModel" "many" "[I")),
  (81, (Jvm.Cond.fieldLink "TwoHeadsModel" (81 : Nat) "TwoHeadsModel" "row" "[I")),
  (84, (Jvm.Cond.fieldLink "TwoHeadsModel" (84 : Nat) "TwoHeadsModel" "at" "I")),
  (87, (Jvm.Cond.fieldLink "TwoHeadsModel" (87 : Nat) "TwoHeadsModel" "token" "I")),
  (90, (Jvm.Cond.fieldLink "TwoHeadsModel" (90 : Nat) "TwoHeadsModel" "value" "I")),
  (93, (Jvm.Cond.fieldLink "TwoHeadsModel" (93 : Nat) "TwoHeadsModel" "begin" "I")),
  (96, (Jvm.Cond.fieldLink "TwoHeadsModel" (96 : Nat) "TwoHeadsModel" "waits" "[I")),
  (99, (Jvm.Cond.fieldLink "TwoHeadsModel" (99 : Nat) "TwoHeadsModel" "compared" "[Z")),
  (103, (Jvm.Cond.fieldLink "TwoHeadsModel" (103 : Nat) "TwoHeadsModel" "held" "I")),
  (106, (Jvm.Cond.fieldLink "TwoHeadsModel" (106 : Nat) "TwoHeadsModel" "brackets" "I")),
  (109, (Jvm.Cond.fieldLink "TwoHeadsModel" (109 : Nat) "TwoHeadsModel" "open" "I")),
  (112, (Jvm.Cond.fieldLink "TwoHeadsModel" (112 : Nat) "TwoHeadsModel" "of" "I")),
  (115, (Jvm.Cond.fieldLink "TwoHeadsModel" (115 : Nat) "TwoHeadsModel" "facts" "[I")),
  (118, (Jvm.Cond.fieldLink "TwoHeadsModel" (118 : Nat) "TwoHeadsModel" "pile" "[I")),
  (121, (Jvm.Cond.fieldLink "TwoHeadsModel" (121 : Nat) "TwoHeadsModel" "payments" "I")),
  (124, (Jvm.Cond.fieldLink "TwoHeadsModel" (124 : Nat) "TwoHeadsModel" "payOffice" "[I")),
  (127, (Jvm.Cond.fieldLink "TwoHeadsModel" (127 : Nat) "TwoHeadsModel" "payTo" "[I")),
  (130, (Jvm.Cond.fieldLink "TwoHeadsModel" (130 : Nat) "TwoHeadsModel" "coins" "[I")),
  (133, (Jvm.Cond.fieldLink "TwoHeadsModel" (133 : Nat) "TwoHeadsModel" "payDay" "[I")),
  (136, (Jvm.Cond.fieldLink "TwoHeadsModel" (136 : Nat) "TwoHeadsModel" "electors" "I")),
  (139, (Jvm.Cond.fieldLink "TwoHeadsModel" (139 : Nat) "TwoHeadsModel" "price" "[I")),
  (142, (Jvm.Cond.fieldLink "TwoHeadsModel" (142 : Nat) "TwoHeadsModel" "ours" "[I")),
  (145, (Jvm.Cond.fieldLink "TwoHeadsModel" (145 : Nat) "TwoHeadsModel" "clashes" "[I")),
  (148, (Jvm.Cond.fieldLink "TwoHeadsModel" (148 : Nat) "TwoHeadsModel" "seats" "[I")),
  (151, (Jvm.Cond.fieldLink "TwoHeadsModel" (151 : Nat) "TwoHeadsModel" "clauses" "I")),
  (154, (Jvm.Cond.fieldLink "TwoHeadsModel" (154 : Nat) "TwoHeadsModel" "undoes" "[I")),
  (157, (Jvm.Cond.fieldLink "TwoHeadsModel" (157 : Nat) "TwoHeadsModel" "worths" "[I")),
  (160, (Jvm.Cond.fieldLink "TwoHeadsModel" (160 : Nat) "TwoHeadsModel" "notWith" "[I")),
  (163, (Jvm.Cond.fieldLink "TwoHeadsModel" (163 : Nat) "TwoHeadsModel" "bounds" "[I")),
  (166, (Jvm.Cond.fieldLink "TwoHeadsModel" (166 : Nat) "TwoHeadsModel" "order" "[I")),
  (169, (Jvm.Cond.fieldLink "TwoHeadsModel" (169 : Nat) "TwoHeadsModel" "bestOrder" "[I")),
  (172, (Jvm.Cond.fieldLink "TwoHeadsModel" (172 : Nat) "TwoHeadsModel" "goal" "[I")),
  (175, (Jvm.Cond.fieldLink "TwoHeadsModel" (175 : Nat) "TwoHeadsModel" "goals" "I")),
  (178, (Jvm.Cond.fieldLink "TwoHeadsModel" (178 : Nat) "TwoHeadsModel" "sort" "[I")),
  (181, (Jvm.Cond.fieldLink "TwoHeadsModel" (181 : Nat) "TwoHeadsModel" "size" "[I")),
  (184, (Jvm.Cond.fieldLink "TwoHeadsModel" (184 : Nat) "TwoHeadsModel" "item" "[I")),
  (187, (Jvm.Cond.fieldLink "TwoHeadsModel" (187 : Nat) "TwoHeadsModel" "aside" "[I")),
  (240, (Jvm.Cond.constantLong "TwoHeadsModel" (240 : Nat) (31 : Int64))),
  (245, (Jvm.Cond.constantLong "TwoHeadsModel" (245 : Nat) (370116 : Int64))),
  (251, (Jvm.Cond.constantLong "TwoHeadsModel" (251 : Nat) (4153 : Int64))),
  (253, (Jvm.Cond.constantLong "TwoHeadsModel" (253 : Nat) (591307 : Int64))),
  (255, (Jvm.Cond.constantLong "TwoHeadsModel" (255 : Nat) (624037 : Int64))),
  (257, (Jvm.Cond.constantLong "TwoHeadsModel" (257 : Nat) (8435955 : Int64))),
  (259, (Jvm.Cond.constantLong "TwoHeadsModel" (259 : Nat) (6334088 : Int64))),
  (261, (Jvm.Cond.constantLong "TwoHeadsModel" (261 : Nat) (2406547 : Int64))),
  (263, (Jvm.Cond.constantLong "TwoHeadsModel" (263 : Nat) (19978404 : Int64))),
  (265, (Jvm.Cond.constantLong "TwoHeadsModel" (265 : Nat) (498 : Int64))),
  (267, (Jvm.Cond.constantLong "TwoHeadsModel" (267 : Nat) (1476 : Int64))),
  (269, (Jvm.Cond.constantLong "TwoHeadsModel" (269 : Nat) (14836 : Int64))),
  (327, (Jvm.Cond.constantLong "TwoHeadsModel" (327 : Nat) (-4611686018427387904 : Int64))),
  (366, (Jvm.Cond.constant "TwoHeadsModel" (366 : Nat) (16777215 : Int32))),
  (1, (Jvm.Cond.methodLink "TwoHeadsModel" (1 : Nat) ({ cls := "java/lang/Object", name := "<init>", desc := "()V" } : Jvm.MethodName))),
  (190, (Jvm.Cond.methodLink "TwoHeadsModel" (190 : Nat) ({ cls := "TwoHeadsModel", name := "ruleZero", desc := "()V" } : Jvm.MethodName))),
  (193, (Jvm.Cond.methodLink "TwoHeadsModel" (193 : Nat) ({ cls := "TwoHeadsModel", name := "in", desc := "(III)Z" } : Jvm.MethodName))),
  (197, (Jvm.Cond.methodLink "TwoHeadsModel" (197 : Nat) ({ cls := "TwoHeadsModel", name := "isLand", desc := "(I)Z" } : Jvm.MethodName))),
  (201, (Jvm.Cond.methodLink "TwoHeadsModel" (201 : Nat) ({ cls := "TwoHeadsModel", name := "findFar", desc := "()V" } : Jvm.MethodName))),
  (204, (Jvm.Cond.methodLink "TwoHeadsModel" (204 : Nat) ({ cls := "TwoHeadsModel", name := "isOffice", desc := "(I)Z" } : Jvm.MethodName))),
  (207, (Jvm.Cond.methodLink "TwoHeadsModel" (207 : Nat) ({ cls := "TwoHeadsModel", name := "isPerson", desc := "(I)Z" } : Jvm.MethodName))),
  (210, (Jvm.Cond.methodLink "TwoHeadsModel" (210 : Nat) ({ cls := "TwoHeadsModel", name := "isDay", desc := "(I)Z" } : Jvm.MethodName))),
  (213, (Jvm.Cond.methodLink "TwoHeadsModel" (213 : Nat) ({ cls := "TwoHeadsModel", name := "isTurn", desc := "(III)Z" } : Jvm.MethodName))),
  (216, (Jvm.Cond.methodLink "TwoHeadsModel" (216 : Nat) ({ cls := "TwoHeadsModel", name := "note", desc := "(III)V" } : Jvm.MethodName))),
  (220, (Jvm.Cond.methodLink "TwoHeadsModel" (220 : Nat) ({ cls := "TwoHeadsModel", name := "sideOf", desc := "(II)I" } : Jvm.MethodName))),
  (224, (Jvm.Cond.methodLink "TwoHeadsModel" (224 : Nat) ({ cls := "TwoHeadsModel", name := "soundBy", desc := "(I)I" } : Jvm.MethodName))),
  (228, (Jvm.Cond.methodLink "TwoHeadsModel" (228 : Nat) ({ cls := "TwoHeadsModel", name := "isAct", desc := "(I)Z" } : Jvm.MethodName))),
  (231, (Jvm.Cond.methodLink "TwoHeadsModel" (231 : Nat) ({ cls := "TwoHeadsModel", name := "ones", desc := "(I)I" } : Jvm.MethodName))),
  (234, (Jvm.Cond.methodLink "TwoHeadsModel" (234 : Nat) ({ cls := "TwoHeadsModel", name := "rankOf", desc := "(I)I" } : Jvm.MethodName))),
  (237, (Jvm.Cond.methodLink "TwoHeadsModel" (237 : Nat) ({ cls := "TwoHeadsModel", name := "lastsOf", desc := "(I)I" } : Jvm.MethodName))),
  (242, (Jvm.Cond.methodLink "TwoHeadsModel" (242 : Nat) ({ cls := "TwoHeadsModel", name := "isLetter", desc := "(I)Z" } : Jvm.MethodName))),
  (247, (Jvm.Cond.methodLink "TwoHeadsModel" (247 : Nat) ({ cls := "TwoHeadsModel", name := "isWord", desc := "(J)Z" } : Jvm.MethodName))),
  (271, (Jvm.Cond.methodLink "TwoHeadsModel" (271 : Nat) ({ cls := "TwoHeadsModel", name := "wordToken", desc := "()V" } : Jvm.MethodName))),
  (274, (Jvm.Cond.methodLink "TwoHeadsModel" (274 : Nat) ({ cls := "TwoHeadsModel", name := "isDigit", desc := "(I)Z" } : Jvm.MethodName))),
  (277, (Jvm.Cond.methodLink "TwoHeadsModel" (277 : Nat) ({ cls := "TwoHeadsModel", name := "rank", desc := "(I)I" } : Jvm.MethodName))),
  (280, (Jvm.Cond.methodLink "TwoHeadsModel" (280 : Nat) ({ cls := "TwoHeadsModel", name := "put", desc := "(I)V" } : Jvm.MethodName))),
  (284, (Jvm.Cond.methodLink "TwoHeadsModel" (284 : Nat) ({ cls := "TwoHeadsModel", name := "isKey", desc := "(I)Z" } : Jvm.MethodName))),
  (287, (Jvm.Cond.methodLink "TwoHeadsModel" (287 : Nat) ({ cls := "TwoHeadsModel", name := "isSign", desc := "(I)Z" } : Jvm.MethodName))),
  (290, (Jvm.Cond.methodLink "TwoHeadsModel" (290 : Nat) ({ cls := "TwoHeadsModel", name := "ahead", desc := "(Z)Z" } : Jvm.MethodName))),
  (294, (Jvm.Cond.methodLink "TwoHeadsModel" (294 : Nat) ({ cls := "TwoHeadsModel", name := "hold", desc := "(I)V" } : Jvm.MethodName))),
  (297, (Jvm.Cond.methodLink "TwoHeadsModel" (297 : Nat) ({ cls := "TwoHeadsModel", name := "settle", desc := "(I)V" } : Jvm.MethodName))),
  (300, (Jvm.Cond.methodLink "TwoHeadsModel" (300 : Nat) ({ cls := "TwoHeadsModel", name := "next", desc := "()V" } : Jvm.MethodName))),
  (303, (Jvm.Cond.methodLink "TwoHeadsModel" (303 : Nat) ({ cls := "TwoHeadsModel", name := "signOf", desc := "()I" } : Jvm.MethodName))),
  (307, (Jvm.Cond.methodLink "TwoHeadsModel" (307 : Nat) ({ cls := "TwoHeadsModel", name := "part", desc := "()Z" } : Jvm.MethodName))),
  (311, (Jvm.Cond.methodLink "TwoHeadsModel" (311 : Nat) ({ cls := "TwoHeadsModel", name := "isText", desc := "()Z" } : Jvm.MethodName))),
  (314, (Jvm.Cond.methodLink "TwoHeadsModel" (314 : Nat) ({ cls := "TwoHeadsModel", name := "isSide", desc := "(I)Z" } : Jvm.MethodName))),
  (317, (Jvm.Cond.methodLink "TwoHeadsModel" (317 : Nat) ({ cls := "TwoHeadsModel", name := "both", desc := "(III)I" } : Jvm.MethodName))),
  (321, (Jvm.Cond.methodLink "TwoHeadsModel" (321 : Nat) ({ cls := "TwoHeadsModel", name := "work", desc := "(II)I" } : Jvm.MethodName))),
  (324, (Jvm.Cond.methodLink "TwoHeadsModel" (324 : Nat) ({ cls := "TwoHeadsModel", name := "ask", desc := "(III)I" } : Jvm.MethodName))),
  (329, (Jvm.Cond.methodLink "TwoHeadsModel" (329 : Nat) ({ cls := "TwoHeadsModel", name := "savedBy", desc := "(I)I" } : Jvm.MethodName))),
  (332, (Jvm.Cond.methodLink "TwoHeadsModel" (332 : Nat) ({ cls := "TwoHeadsModel", name := "goodOf", desc := "(II)I" } : Jvm.MethodName))),
  (335, (Jvm.Cond.methodLink "TwoHeadsModel" (335 : Nat) ({ cls := "TwoHeadsModel", name := "firmOf", desc := "(II)I" } : Jvm.MethodName))),
  (338, (Jvm.Cond.methodLink "TwoHeadsModel" (338 : Nat) ({ cls := "TwoHeadsModel", name := "goodBy", desc := "(I)I" } : Jvm.MethodName))),
  (341, (Jvm.Cond.methodLink "TwoHeadsModel" (341 : Nat) ({ cls := "TwoHeadsModel", name := "isOn", desc := "(II)Z" } : Jvm.MethodName))),
  (345, (Jvm.Cond.methodLink "TwoHeadsModel" (345 : Nat) ({ cls := "TwoHeadsModel", name := "namingOf", desc := "(III)I" } : Jvm.MethodName))),
  (348, (Jvm.Cond.methodLink "TwoHeadsModel" (348 : Nat) ({ cls := "TwoHeadsModel", name := "rightOf", desc := "(III)I" } : Jvm.MethodName))),
  (351, (Jvm.Cond.methodLink "TwoHeadsModel" (351 : Nat) ({ cls := "TwoHeadsModel", name := "knownIn", desc := "(II)I" } : Jvm.MethodName))),
  (354, (Jvm.Cond.methodLink "TwoHeadsModel" (354 : Nat) ({ cls := "TwoHeadsModel", name := "knew", desc := "(II)Z" } : Jvm.MethodName))),
  (357, (Jvm.Cond.methodLink "TwoHeadsModel" (357 : Nat) ({ cls := "TwoHeadsModel", name := "canBuy", desc := "(I)Z" } : Jvm.MethodName))),
  (360, (Jvm.Cond.methodLink "TwoHeadsModel" (360 : Nat) ({ cls := "TwoHeadsModel", name := "priceOf", desc := "(I)I" } : Jvm.MethodName))),
  (363, (Jvm.Cond.methodLink "TwoHeadsModel" (363 : Nat) ({ cls := "TwoHeadsModel", name := "seatsOf", desc := "(III)I" } : Jvm.MethodName))),
  (367, (Jvm.Cond.methodLink "TwoHeadsModel" (367 : Nat) ({ cls := "TwoHeadsModel", name := "isClause", desc := "(I)Z" } : Jvm.MethodName))),
  (370, (Jvm.Cond.methodLink "TwoHeadsModel" (370 : Nat) ({ cls := "TwoHeadsModel", name := "undoneBy", desc := "(II)I" } : Jvm.MethodName))),
  (373, (Jvm.Cond.methodLink "TwoHeadsModel" (373 : Nat) ({ cls := "TwoHeadsModel", name := "takersOf", desc := "(I)I" } : Jvm.MethodName))),
  (376, (Jvm.Cond.methodLink "TwoHeadsModel" (376 : Nat) ({ cls := "TwoHeadsModel", name := "goTogether", desc := "(I)Z" } : Jvm.MethodName))),
  (379, (Jvm.Cond.methodLink "TwoHeadsModel" (379 : Nat) ({ cls := "TwoHeadsModel", name := "isBetter", desc := "(III)Z" } : Jvm.MethodName))),
  (382, (Jvm.Cond.methodLink "TwoHeadsModel" (382 : Nat) ({ cls := "TwoHeadsModel", name := "wonBy", desc := "(I)I" } : Jvm.MethodName))),
  (385, (Jvm.Cond.methodLink "TwoHeadsModel" (385 : Nat) ({ cls := "TwoHeadsModel", name := "nextOrder", desc := "()Z" } : Jvm.MethodName))),
  (388, (Jvm.Cond.methodLink "TwoHeadsModel" (388 : Nat) ({ cls := "TwoHeadsModel", name := "isSheet", desc := "(I)Z" } : Jvm.MethodName))),
  (391, (Jvm.Cond.methodLink "TwoHeadsModel" (391 : Nat) ({ cls := "TwoHeadsModel", name := "seats", desc := "(II)I" } : Jvm.MethodName))),
  (393, (Jvm.Cond.methodLink "TwoHeadsModel" (393 : Nat) ({ cls := "TwoHeadsModel", name := "isUnder", desc := "(II)Z" } : Jvm.MethodName)))]
theorem lk_12_in : ∀ q ∈ lk_12, q.2 ∈ am_T := lk_mem (ps := [1118, 1119, 1120, 1121, 1122, 1123, 1124, 1125, 1126, 1127, 1128, 1129, 1130, 1131, 1132, 1133, 1134, 1135, 1136, 1137, 1138, 1139, 1140, 1141, 1142, 1143, 1144, 1145, 1146, 1147, 1148, 1149, 1150, 1151, 1152, 1153, 1154, 1155, 1156, 1157, 1158, 1159, 1160, 1161, 1162, 1163, 1164, 1165, 1166, 1167, 1168, 1169, 1170, 1171, 1172, 1173, 1174, 1175, 1176, 1446, 1441, 1447, 1448, 1449, 1450, 1451, 1452, 1453, 1454, 1455, 1456, 1509, 1618, 1113, 1114, 1305, 1301, 1313, 1325, 1333, 1349, 1345, 1353, 1361, 1369, 1401, 1381, 1377, 1413, 1433, 1442, 1437, 1457, 1489, 1481, 1461, 1473, 1469, 1477, 1485, 1429, 1493, 1465, 1425, 1501, 1389, 1385, 1373, 1514, 1518, 1522, 1534, 1538, 1542, 1550, 1562, 1570, 1594, 1598, 1610, 1623, 1647, 1639, 1635, 1643, 1659, 1663, 1675, 1691, 1696]) (by decide +kernel) (by decide +kernel)
def lk_13 : List (Nat × Cond) := [(7, (Jvm.Cond.classLink "TwoHeadsLaw" (7 : Nat) "TwoHeads")),
  (10, (Jvm.Cond.classLink "TwoHeadsLaw" (10 : Nat) "TwoHeadsModel")),
  (69, (Jvm.Cond.constantLong "TwoHeadsLaw" (69 : Nat) (4294967295 : Int64))),
  (9, (Jvm.Cond.methodLink "TwoHeadsLaw" (9 : Nat) ({ cls := "TwoHeads", name := "<init>", desc := "()V" } : Jvm.MethodName))),
  (12, (Jvm.Cond.methodLink "TwoHeadsLaw" (12 : Nat) ({ cls := "TwoHeadsModel", name := "<init>", desc := "()V" } : Jvm.MethodName))),
  (13, (Jvm.Cond.methodLink "TwoHeadsLaw" (13 : Nat) ({ cls := "TwoHeads", name := "road", desc := "(III)I" } : Jvm.MethodName))),
  (17, (Jvm.Cond.methodLink "TwoHeadsLaw" (17 : Nat) ({ cls := "TwoHeadsModel", name := "road", desc := "(III)I" } : Jvm.MethodName))),
  (18, (Jvm.Cond.methodLink "TwoHeadsLaw" (18 : Nat) ({ cls := "TwoHeads", name := "far", desc := "(II)I" } : Jvm.MethodName))),
  (22, (Jvm.Cond.methodLink "TwoHeadsLaw" (22 : Nat) ({ cls := "TwoHeadsModel", name := "far", desc := "(II)I" } : Jvm.MethodName))),
  (23, (Jvm.Cond.methodLink "TwoHeadsLaw" (23 : Nat) ({ cls := "TwoHeads", name := "person", desc := "(I)I" } : Jvm.MethodName))),
  (27, (Jvm.Cond.methodLink "TwoHeadsLaw" (27 : Nat) ({ cls := "TwoHeadsModel", name := "person", desc := "(I)I" } : Jvm.MethodName))),
  (28, (Jvm.Cond.methodLink "TwoHeadsLaw" (28 : Nat) ({ cls := "TwoHeads", name := "office", desc := "(II)I" } : Jvm.MethodName))),
  (31, (Jvm.Cond.methodLink "TwoHeadsLaw" (31 : Nat) ({ cls := "TwoHeadsModel", name := "office", desc := "(II)I" } : Jvm.MethodName))),
  (32, (Jvm.Cond.methodLink "TwoHeadsLaw" (32 : Nat) ({ cls := "TwoHeads", name := "seat", desc := "(II)I" } : Jvm.MethodName))),
  (35, (Jvm.Cond.methodLink "TwoHeadsLaw" (35 : Nat) ({ cls := "TwoHeadsModel", name := "seat", desc := "(II)I" } : Jvm.MethodName))),
  (36, (Jvm.Cond.methodLink "TwoHeadsLaw" (36 : Nat) ({ cls := "TwoHeads", name := "officeTold", desc := "(II)I" } : Jvm.MethodName))),
  (39, (Jvm.Cond.methodLink "TwoHeadsLaw" (39 : Nat) ({ cls := "TwoHeadsModel", name := "officeTold", desc := "(II)I" } : Jvm.MethodName))),
  (40, (Jvm.Cond.methodLink "TwoHeadsLaw" (40 : Nat) ({ cls := "TwoHeads", name := "turn", desc := "(III)I" } : Jvm.MethodName))),
  (43, (Jvm.Cond.methodLink "TwoHeadsLaw" (43 : Nat) ({ cls := "TwoHeadsModel", name := "turn", desc := "(III)I" } : Jvm.MethodName))),
  (44, (Jvm.Cond.methodLink "TwoHeadsLaw" (44 : Nat) ({ cls := "TwoHeads", name := "side", desc := "(II)I" } : Jvm.MethodName))),
  (47, (Jvm.Cond.methodLink "TwoHeadsLaw" (47 : Nat) ({ cls := "TwoHeadsModel", name := "side", desc := "(II)I" } : Jvm.MethodName))),
  (48, (Jvm.Cond.methodLink "TwoHeadsLaw" (48 : Nat) ({ cls := "TwoHeads", name := "changed", desc := "(III)I" } : Jvm.MethodName))),
  (51, (Jvm.Cond.methodLink "TwoHeadsLaw" (51 : Nat) ({ cls := "TwoHeadsModel", name := "changed", desc := "(III)I" } : Jvm.MethodName))),
  (52, (Jvm.Cond.methodLink "TwoHeadsLaw" (52 : Nat) ({ cls := "TwoHeads", name := "act", desc := "(IIIII)I" } : Jvm.MethodName))),
  (56, (Jvm.Cond.methodLink "TwoHeadsLaw" (56 : Nat) ({ cls := "TwoHeadsModel", name := "act", desc := "(IIIII)I" } : Jvm.MethodName))),
  (57, (Jvm.Cond.methodLink "TwoHeadsLaw" (57 : Nat) ({ cls := "TwoHeads", name := "hang", desc := "(II)I" } : Jvm.MethodName))),
  (60, (Jvm.Cond.methodLink "TwoHeadsLaw" (60 : Nat) ({ cls := "TwoHeadsModel", name := "hang", desc := "(II)I" } : Jvm.MethodName))),
  (61, (Jvm.Cond.methodLink "TwoHeadsLaw" (61 : Nat) ({ cls := "TwoHeads", name := "lift", desc := "(II)I" } : Jvm.MethodName))),
  (64, (Jvm.Cond.methodLink "TwoHeadsLaw" (64 : Nat) ({ cls := "TwoHeadsModel", name := "lift", desc := "(II)I" } : Jvm.MethodName))),
  (65, (Jvm.Cond.methodLink "TwoHeadsLaw" (65 : Nat) ({ cls := "TwoHeads", name := "actTold", desc := "(II)I" } : Jvm.MethodName))),
  (68, (Jvm.Cond.methodLink "TwoHeadsLaw" (68 : Nat) ({ cls := "TwoHeadsModel", name := "actTold", desc := "(II)I" } : Jvm.MethodName))),
  (71, (Jvm.Cond.methodLink "TwoHeadsLaw" (71 : Nat) ({ cls := "TwoHeads", name := "feed", desc := "(IJ)I" } : Jvm.MethodName))),
  (75, (Jvm.Cond.methodLink "TwoHeadsLaw" (75 : Nat) ({ cls := "TwoHeadsModel", name := "feed", desc := "(IJ)I" } : Jvm.MethodName))),
  (76, (Jvm.Cond.methodLink "TwoHeadsLaw" (76 : Nat) ({ cls := "TwoHeads", name := "text", desc := "()I" } : Jvm.MethodName))),
  (80, (Jvm.Cond.methodLink "TwoHeadsLaw" (80 : Nat) ({ cls := "TwoHeadsModel", name := "text", desc := "()I" } : Jvm.MethodName))),
  (81, (Jvm.Cond.methodLink "TwoHeadsLaw" (81 : Nat) ({ cls := "TwoHeads", name := "rule", desc := "(II)I" } : Jvm.MethodName))),
  (84, (Jvm.Cond.methodLink "TwoHeadsLaw" (84 : Nat) ({ cls := "TwoHeadsModel", name := "rule", desc := "(II)I" } : Jvm.MethodName))),
  (85, (Jvm.Cond.methodLink "TwoHeadsLaw" (85 : Nat) ({ cls := "TwoHeads", name := "says", desc := "(III)J" } : Jvm.MethodName))),
  (89, (Jvm.Cond.methodLink "TwoHeadsLaw" (89 : Nat) ({ cls := "TwoHeadsModel", name := "says", desc := "(III)J" } : Jvm.MethodName))),
  (90, (Jvm.Cond.methodLink "TwoHeadsLaw" (90 : Nat) ({ cls := "TwoHeads", name := "acts", desc := "(II)I" } : Jvm.MethodName))),
  (93, (Jvm.Cond.methodLink "TwoHeadsLaw" (93 : Nat) ({ cls := "TwoHeadsModel", name := "acts", desc := "(II)I" } : Jvm.MethodName))),
  (94, (Jvm.Cond.methodLink "TwoHeadsLaw" (94 : Nat) ({ cls := "TwoHeads", name := "felled", desc := "(II)I" } : Jvm.MethodName))),
  (97, (Jvm.Cond.methodLink "TwoHeadsLaw" (97 : Nat) ({ cls := "TwoHeadsModel", name := "felled", desc := "(II)I" } : Jvm.MethodName))),
  (98, (Jvm.Cond.methodLink "TwoHeadsLaw" (98 : Nat) ({ cls := "TwoHeads", name := "inForce", desc := "(II)I" } : Jvm.MethodName))),
  (101, (Jvm.Cond.methodLink "TwoHeadsLaw" (101 : Nat) ({ cls := "TwoHeadsModel", name := "inForce", desc := "(II)I" } : Jvm.MethodName))),
  (102, (Jvm.Cond.methodLink "TwoHeadsLaw" (102 : Nat) ({ cls := "TwoHeads", name := "byRight", desc := "(III)I" } : Jvm.MethodName))),
  (105, (Jvm.Cond.methodLink "TwoHeadsLaw" (105 : Nat) ({ cls := "TwoHeadsModel", name := "byRight", desc := "(III)I" } : Jvm.MethodName))),
  (106, (Jvm.Cond.methodLink "TwoHeadsLaw" (106 : Nat) ({ cls := "TwoHeads", name := "quarrels", desc := "(I)I" } : Jvm.MethodName))),
  (109, (Jvm.Cond.methodLink "TwoHeadsLaw" (109 : Nat) ({ cls := "TwoHeadsModel", name := "quarrels", desc := "(I)I" } : Jvm.MethodName))),
  (110, (Jvm.Cond.methodLink "TwoHeadsLaw" (110 : Nat) ({ cls := "TwoHeads", name := "known", desc := "(II)I" } : Jvm.MethodName))),
  (113, (Jvm.Cond.methodLink "TwoHeadsLaw" (113 : Nat) ({ cls := "TwoHeadsModel", name := "known", desc := "(II)I" } : Jvm.MethodName))),
  (114, (Jvm.Cond.methodLink "TwoHeadsLaw" (114 : Nat) ({ cls := "TwoHeads", name := "crossed", desc := "(II)I" } : Jvm.MethodName))),
  (117, (Jvm.Cond.methodLink "TwoHeadsLaw" (117 : Nat) ({ cls := "TwoHeadsModel", name := "crossed", desc := "(II)I" } : Jvm.MethodName))),
  (118, (Jvm.Cond.methodLink "TwoHeadsLaw" (118 : Nat) ({ cls := "TwoHeads", name := "pay", desc := "(IIII)I" } : Jvm.MethodName))),
  (122, (Jvm.Cond.methodLink "TwoHeadsLaw" (122 : Nat) ({ cls := "TwoHeadsModel", name := "pay", desc := "(IIII)I" } : Jvm.MethodName))),
  (123, (Jvm.Cond.methodLink "TwoHeadsLaw" (123 : Nat) ({ cls := "TwoHeads", name := "owed", desc := "(II)J" } : Jvm.MethodName))),
  (127, (Jvm.Cond.methodLink "TwoHeadsLaw" (127 : Nat) ({ cls := "TwoHeadsModel", name := "owed", desc := "(II)J" } : Jvm.MethodName))),
  (128, (Jvm.Cond.methodLink "TwoHeadsLaw" (128 : Nat) ({ cls := "TwoHeads", name := "elector", desc := "(II)I" } : Jvm.MethodName))),
  (131, (Jvm.Cond.methodLink "TwoHeadsLaw" (131 : Nat) ({ cls := "TwoHeadsModel", name := "elector", desc := "(II)I" } : Jvm.MethodName))),
  (132, (Jvm.Cond.methodLink "TwoHeadsLaw" (132 : Nat) ({ cls := "TwoHeads", name := "clash", desc := "(II)I" } : Jvm.MethodName))),
  (135, (Jvm.Cond.methodLink "TwoHeadsLaw" (135 : Nat) ({ cls := "TwoHeadsModel", name := "clash", desc := "(II)I" } : Jvm.MethodName))),
  (136, (Jvm.Cond.methodLink "TwoHeadsLaw" (136 : Nat) ({ cls := "TwoHeads", name := "bought", desc := "(I)I" } : Jvm.MethodName))),
  (139, (Jvm.Cond.methodLink "TwoHeadsLaw" (139 : Nat) ({ cls := "TwoHeadsModel", name := "bought", desc := "(I)I" } : Jvm.MethodName))),
  (140, (Jvm.Cond.methodLink "TwoHeadsLaw" (140 : Nat) ({ cls := "TwoHeads", name := "seats", desc := "(II)I" } : Jvm.MethodName))),
  (143, (Jvm.Cond.methodLink "TwoHeadsLaw" (143 : Nat) ({ cls := "TwoHeadsModel", name := "seats", desc := "(II)I" } : Jvm.MethodName))),
  (144, (Jvm.Cond.methodLink "TwoHeadsLaw" (144 : Nat) ({ cls := "TwoHeads", name := "council", desc := "(IIII)I" } : Jvm.MethodName))),
  (147, (Jvm.Cond.methodLink "TwoHeadsLaw" (147 : Nat) ({ cls := "TwoHeadsModel", name := "council", desc := "(IIII)I" } : Jvm.MethodName))),
  (148, (Jvm.Cond.methodLink "TwoHeadsLaw" (148 : Nat) ({ cls := "TwoHeads", name := "clause", desc := "(I)I" } : Jvm.MethodName))),
  (151, (Jvm.Cond.methodLink "TwoHeadsLaw" (151 : Nat) ({ cls := "TwoHeadsModel", name := "clause", desc := "(I)I" } : Jvm.MethodName))),
  (152, (Jvm.Cond.methodLink "TwoHeadsLaw" (152 : Nat) ({ cls := "TwoHeads", name := "worth", desc := "(III)I" } : Jvm.MethodName))),
  (155, (Jvm.Cond.methodLink "TwoHeadsLaw" (155 : Nat) ({ cls := "TwoHeadsModel", name := "worth", desc := "(III)I" } : Jvm.MethodName))),
  (156, (Jvm.Cond.methodLink "TwoHeadsLaw" (156 : Nat) ({ cls := "TwoHeads", name := "against", desc := "(II)I" } : Jvm.MethodName))),
  (159, (Jvm.Cond.methodLink "TwoHeadsLaw" (159 : Nat) ({ cls := "TwoHeadsModel", name := "against", desc := "(II)I" } : Jvm.MethodName))),
  (160, (Jvm.Cond.methodLink "TwoHeadsLaw" (160 : Nat) ({ cls := "TwoHeads", name := "settling", desc := "(II)I" } : Jvm.MethodName))),
  (163, (Jvm.Cond.methodLink "TwoHeadsLaw" (163 : Nat) ({ cls := "TwoHeadsModel", name := "settling", desc := "(II)I" } : Jvm.MethodName))),
  (164, (Jvm.Cond.methodLink "TwoHeadsLaw" (164 : Nat) ({ cls := "TwoHeads", name := "bound", desc := "(II)I" } : Jvm.MethodName))),
  (167, (Jvm.Cond.methodLink "TwoHeadsLaw" (167 : Nat) ({ cls := "TwoHeadsModel", name := "bound", desc := "(II)I" } : Jvm.MethodName))),
  (168, (Jvm.Cond.methodLink "TwoHeadsLaw" (168 : Nat) ({ cls := "TwoHeads", name := "journey", desc := "(III)I" } : Jvm.MethodName))),
  (171, (Jvm.Cond.methodLink "TwoHeadsLaw" (171 : Nat) ({ cls := "TwoHeadsModel", name := "journey", desc := "(III)I" } : Jvm.MethodName))),
  (172, (Jvm.Cond.methodLink "TwoHeadsLaw" (172 : Nat) ({ cls := "TwoHeads", name := "count", desc := "(I)I" } : Jvm.MethodName))),
  (175, (Jvm.Cond.methodLink "TwoHeadsLaw" (175 : Nat) ({ cls := "TwoHeadsModel", name := "count", desc := "(I)I" } : Jvm.MethodName))),
  (176, (Jvm.Cond.methodLink "TwoHeadsLaw" (176 : Nat) ({ cls := "TwoHeads", name := "sheet", desc := "(III)I" } : Jvm.MethodName))),
  (179, (Jvm.Cond.methodLink "TwoHeadsLaw" (179 : Nat) ({ cls := "TwoHeadsModel", name := "sheet", desc := "(III)I" } : Jvm.MethodName))),
  (180, (Jvm.Cond.methodLink "TwoHeadsLaw" (180 : Nat) ({ cls := "TwoHeads", name := "cell", desc := "(III)I" } : Jvm.MethodName))),
  (183, (Jvm.Cond.methodLink "TwoHeadsLaw" (183 : Nat) ({ cls := "TwoHeadsModel", name := "cell", desc := "(III)I" } : Jvm.MethodName))),
  (184, (Jvm.Cond.methodLink "TwoHeadsLaw" (184 : Nat) ({ cls := "TwoHeads", name := "copy", desc := "(IIIII)I" } : Jvm.MethodName))),
  (187, (Jvm.Cond.methodLink "TwoHeadsLaw" (187 : Nat) ({ cls := "TwoHeadsModel", name := "copy", desc := "(IIIII)I" } : Jvm.MethodName))),
  (188, (Jvm.Cond.methodLink "TwoHeadsLaw" (188 : Nat) ({ cls := "TwoHeads", name := "seatsRow", desc := "(IIII)I" } : Jvm.MethodName))),
  (191, (Jvm.Cond.methodLink "TwoHeadsLaw" (191 : Nat) ({ cls := "TwoHeadsModel", name := "seatsRow", desc := "(IIII)I" } : Jvm.MethodName))),
  (192, (Jvm.Cond.methodLink "TwoHeadsLaw" (192 : Nat) ({ cls := "TwoHeads", name := "taken", desc := "(II)I" } : Jvm.MethodName))),
  (195, (Jvm.Cond.methodLink "TwoHeadsLaw" (195 : Nat) ({ cls := "TwoHeadsModel", name := "taken", desc := "(II)I" } : Jvm.MethodName)))]
theorem lk_13_in : ∀ q ∈ lk_13, q.2 ∈ am_T := lk_mem (ps := [112, 1108, 1700, 114, 1110, 488, 1297, 502, 1309, 506, 1317, 510, 1321, 517, 1329, 525, 1337, 529, 1341, 540, 1357, 552, 1365, 596, 1393, 604, 1397, 616, 1405, 626, 1409, 636, 1417, 644, 1421, 815, 1497, 822, 1505, 831, 1510, 852, 1526, 856, 1530, 879, 1546, 887, 1554, 891, 1558, 899, 1566, 908, 1574, 916, 1578, 925, 1582, 933, 1586, 940, 1590, 956, 1602, 960, 1606, 979, 1614, 988, 1619, 996, 1627, 1000, 1631, 1026, 1651, 1030, 1655, 1057, 1667, 1061, 1671, 1073, 1679, 1085, 1683, 1094, 1687, 1098, 1692]) (by decide +kernel) (by decide +kernel)
def lk_14 : List (Nat × Cond) := [(317, (Jvm.Cond.classLink "java/util/Arrays" (317 : Nat) "[I")),
  (150, (Jvm.Cond.methodLink "java/util/Arrays" (150 : Nat) ({ cls := "java/lang/System", name := "arraycopy", desc := "(Ljava/lang/Object;ILjava/lang/Object;II)V" } : Jvm.MethodName))),
  (304, (Jvm.Cond.methodLink "java/util/Arrays" (304 : Nat) ({ cls := "java/lang/Math", name := "min", desc := "(II)I" } : Jvm.MethodName))),
  (316, (Jvm.Cond.methodLink "java/util/Arrays" (316 : Nat) ({ cls := "[I", name := "clone", desc := "()Ljava/lang/Object;" } : Jvm.MethodName)))]
theorem lk_14_in : ∀ q ∈ lk_14, q.2 ∈ am_T := lk_mem (ps := [810, 812, 811, 804]) (by decide +kernel) (by decide +kernel)
def lk_15 : List (Nat × Cond) := [(265, (Jvm.Cond.constant "java/lang/Integer" (265 : Nat) (1431655765 : Int32))),
  (266, (Jvm.Cond.constant "java/lang/Integer" (266 : Nat) (858993459 : Int32))),
  (267, (Jvm.Cond.constant "java/lang/Integer" (267 : Nat) (252645135 : Int32)))]
theorem lk_15_in : ∀ q ∈ lk_15, q.2 ∈ am_T := lk_mem (ps := [586, 587, 588]) (by decide +kernel) (by decide +kernel)
def lk_16 : List (Nat × Cond) := []
theorem lk_16_in : ∀ q ∈ lk_16, q.2 ∈ am_T := lk_mem (ps := []) (by decide +kernel) (by decide +kernel)
def lk_17 : List (Nat × Cond) := []
theorem lk_17_in : ∀ q ∈ lk_17, q.2 ∈ am_T := lk_mem (ps := []) (by decide +kernel) (by decide +kernel)
def lk_L (oc : Nat) : List (Nat × Cond) := match oc with
  | 0 => lk_0
  | 1 => lk_1
  | 2 => lk_2
  | 3 => lk_3
  | 4 => lk_4
  | 5 => lk_5
  | 6 => lk_6
  | 7 => lk_7
  | 8 => lk_8
  | 9 => lk_9
  | 10 => lk_10
  | 11 => lk_11
  | 12 => lk_12
  | 13 => lk_13
  | 14 => lk_14
  | 15 => lk_15
  | 16 => lk_16
  | 17 => lk_17
  | _ => []
theorem lk_L_in (oc : Nat) : ∀ q ∈ lk_L oc, q.2 ∈ am_T := by
  unfold lk_L
  split
  · exact lk_0_in
  · exact lk_1_in
  · exact lk_2_in
  · exact lk_3_in
  · exact lk_4_in
  · exact lk_5_in
  · exact lk_6_in
  · exact lk_7_in
  · exact lk_8_in
  · exact lk_9_in
  · exact lk_10_in
  · exact lk_11_in
  · exact lk_12_in
  · exact lk_13_in
  · exact lk_14_in
  · exact lk_15_in
  · exact lk_16_in
  · exact lk_17_in
  · intro q hq; cases hq
def am_lk (oc idx : Nat) : Option Cond := (lk_L oc).lookup idx
theorem am_lk_in {oc idx : Nat} {w : Cond} (h : am_lk oc idx = some w) : w ∈ am_T := by
  have key : ∀ (l : List (Nat × Cond)), l.lookup idx = some w → ∃ q ∈ l, q.2 = w := by
    intro l
    induction l with
    | nil => intro h; cases h
    | cons q l ih =>
      intro h
      rw [List.lookup_cons] at h
      split at h
      · cases h; exact ⟨q, List.mem_cons_self, rfl⟩
      · obtain ⟨q2, h1, h2⟩ := ih h
        exact ⟨q2, List.mem_cons_of_mem _ h1, h2⟩
  obtain ⟨q, h1, rfl⟩ := key _ h
  exact lk_L_in oc q h1
