-- ===== PART A: goes FIRST, ahead of the names: the tables' words, and 'selects' of the private methods out of them =====
/-- a private method of a class that the tables say can be made, by its rows of tables_1 -/
def lw_okq (q : MethodName × Nat) : Prop := (q.1.cls ≠ "java/lang/invoke/MethodHandle" ∧ q.1.cls ≠ "java/lang/invoke/VarHandle") ∧ Cond.instantiable q.1.cls q.2 ∈ tables_1 ∧ Cond.privateMethod q.1 ∈ tables_1 ∧ Cond.instanceMethod q.1 ∈ tables_1
theorem lw_p0 : lw_okq (⟨"CapitalMoved", "refuse", "(I)I"⟩, 11) := ⟨⟨by decide +kernel, by decide +kernel⟩, List.mem_of_getElem? (i := 15) (by decide +kernel), List.mem_of_getElem? (i := 352) (by decide +kernel), List.mem_of_getElem? (i := 353) (by decide +kernel)⟩
theorem lw_p1 : lw_okq (⟨"CapitalMoved", "wantRow", "(I)I"⟩, 11) := ⟨⟨by decide +kernel, by decide +kernel⟩, List.mem_of_getElem? (i := 15) (by decide +kernel), List.mem_of_getElem? (i := 434) (by decide +kernel), List.mem_of_getElem? (i := 435) (by decide +kernel)⟩
theorem lw_p2 : lw_okq (⟨"CapitalMoved", "mayGet", "(II)Z"⟩, 11) := ⟨⟨by decide +kernel, by decide +kernel⟩, List.mem_of_getElem? (i := 15) (by decide +kernel), List.mem_of_getElem? (i := 496) (by decide +kernel), List.mem_of_getElem? (i := 497) (by decide +kernel)⟩
theorem lw_p3 : lw_okq (⟨"CapitalMoved$Homes", "hasChildren", "(I)Z"⟩, 11) := ⟨⟨by decide +kernel, by decide +kernel⟩, List.mem_of_getElem? (i := 92) (by decide +kernel), List.mem_of_getElem? (i := 549) (by decide +kernel), List.mem_of_getElem? (i := 550) (by decide +kernel)⟩
theorem lw_p4 : lw_okq (⟨"CapitalMoved$Homes", "trait", "(II)I"⟩, 11) := ⟨⟨by decide +kernel, by decide +kernel⟩, List.mem_of_getElem? (i := 92) (by decide +kernel), List.mem_of_getElem? (i := 553) (by decide +kernel), List.mem_of_getElem? (i := 554) (by decide +kernel)⟩
theorem lw_p5 : lw_okq (⟨"CapitalMoved$Planner", "makeBest", "(LCapitalMoved$Offices;Z)Z"⟩, 10) := ⟨⟨by decide +kernel, by decide +kernel⟩, List.mem_of_getElem? (i := 234) (by decide +kernel), List.mem_of_getElem? (i := 565) (by decide +kernel), List.mem_of_getElem? (i := 566) (by decide +kernel)⟩
theorem lw_p6 : lw_okq (⟨"CapitalMoved$Planner", "move", "(II)V"⟩, 10) := ⟨⟨by decide +kernel, by decide +kernel⟩, List.mem_of_getElem? (i := 234) (by decide +kernel), List.mem_of_getElem? (i := 579) (by decide +kernel), List.mem_of_getElem? (i := 580) (by decide +kernel)⟩
theorem lw_p7 : lw_okq (⟨"CapitalMoved$Planner", "priceOf", "(LCapitalMoved$Offices;I)I"⟩, 10) := ⟨⟨by decide +kernel, by decide +kernel⟩, List.mem_of_getElem? (i := 234) (by decide +kernel), List.mem_of_getElem? (i := 583) (by decide +kernel), List.mem_of_getElem? (i := 584) (by decide +kernel)⟩
theorem lw_p8 : lw_okq (⟨"CapitalMoved$Planner", "makeByRule", "(LCapitalMoved$Offices;)Z"⟩, 10) := ⟨⟨by decide +kernel, by decide +kernel⟩, List.mem_of_getElem? (i := 234) (by decide +kernel), List.mem_of_getElem? (i := 590) (by decide +kernel), List.mem_of_getElem? (i := 591) (by decide +kernel)⟩
theorem lw_p9 : lw_okq (⟨"CapitalMoved$Planner", "placeEarliest", "(I)Z"⟩, 10) := ⟨⟨by decide +kernel, by decide +kernel⟩, List.mem_of_getElem? (i := 234) (by decide +kernel), List.mem_of_getElem? (i := 594) (by decide +kernel), List.mem_of_getElem? (i := 595) (by decide +kernel)⟩
theorem lw_p10 : lw_okq (⟨"CapitalMoved$Planner", "improveBySwaps", "(LCapitalMoved$Offices;)V"⟩, 10) := ⟨⟨by decide +kernel, by decide +kernel⟩, List.mem_of_getElem? (i := 234) (by decide +kernel), List.mem_of_getElem? (i := 598) (by decide +kernel), List.mem_of_getElem? (i := 599) (by decide +kernel)⟩
theorem lw_p11 : lw_okq (⟨"CapitalMoved$Planner", "tryMoves", "(LCapitalMoved$Offices;)V"⟩, 10) := ⟨⟨by decide +kernel, by decide +kernel⟩, List.mem_of_getElem? (i := 234) (by decide +kernel), List.mem_of_getElem? (i := 607) (by decide +kernel), List.mem_of_getElem? (i := 608) (by decide +kernel)⟩
theorem lw_p12 : lw_okq (⟨"CapitalMoved$Planner", "isBetter", "(LCapitalMoved$Offices;)Z"⟩, 10) := ⟨⟨by decide +kernel, by decide +kernel⟩, List.mem_of_getElem? (i := 234) (by decide +kernel), List.mem_of_getElem? (i := 611) (by decide +kernel), List.mem_of_getElem? (i := 612) (by decide +kernel)⟩
theorem lw_p13 : lw_okq (⟨"CapitalMoved$Planner", "tryExchanges", "(LCapitalMoved$Offices;)V"⟩, 10) := ⟨⟨by decide +kernel, by decide +kernel⟩, List.mem_of_getElem? (i := 234) (by decide +kernel), List.mem_of_getElem? (i := 619) (by decide +kernel), List.mem_of_getElem? (i := 620) (by decide +kernel)⟩
theorem lw_p14 : lw_okq (⟨"CapitalMoved$Planner", "exchange", "(II)V"⟩, 10) := ⟨⟨by decide +kernel, by decide +kernel⟩, List.mem_of_getElem? (i := 234) (by decide +kernel), List.mem_of_getElem? (i := 623) (by decide +kernel), List.mem_of_getElem? (i := 624) (by decide +kernel)⟩
theorem lw_p15 : lw_okq (⟨"CapitalMoved$Homes", "ask", "(III)I"⟩, 11) := ⟨⟨by decide +kernel, by decide +kernel⟩, List.mem_of_getElem? (i := 92) (by decide +kernel), List.mem_of_getElem? (i := 684) (by decide +kernel), List.mem_of_getElem? (i := 685) (by decide +kernel)⟩
def lw_privs_1 : List (MethodName × Nat) := [(⟨"CapitalMoved", "refuse", "(I)I"⟩, 11), (⟨"CapitalMoved", "wantRow", "(I)I"⟩, 11), (⟨"CapitalMoved", "mayGet", "(II)Z"⟩, 11), (⟨"CapitalMoved$Homes", "hasChildren", "(I)Z"⟩, 11), (⟨"CapitalMoved$Homes", "trait", "(II)I"⟩, 11), (⟨"CapitalMoved$Planner", "makeBest", "(LCapitalMoved$Offices;Z)Z"⟩, 10), (⟨"CapitalMoved$Planner", "move", "(II)V"⟩, 10), (⟨"CapitalMoved$Planner", "priceOf", "(LCapitalMoved$Offices;I)I"⟩, 10), (⟨"CapitalMoved$Planner", "makeByRule", "(LCapitalMoved$Offices;)Z"⟩, 10), (⟨"CapitalMoved$Planner", "placeEarliest", "(I)Z"⟩, 10), (⟨"CapitalMoved$Planner", "improveBySwaps", "(LCapitalMoved$Offices;)V"⟩, 10), (⟨"CapitalMoved$Planner", "tryMoves", "(LCapitalMoved$Offices;)V"⟩, 10), (⟨"CapitalMoved$Planner", "isBetter", "(LCapitalMoved$Offices;)Z"⟩, 10), (⟨"CapitalMoved$Planner", "tryExchanges", "(LCapitalMoved$Offices;)V"⟩, 10), (⟨"CapitalMoved$Planner", "exchange", "(II)V"⟩, 10), (⟨"CapitalMoved$Homes", "ask", "(III)I"⟩, 11)]
theorem lw_r1 : ∀ q ∈ lw_privs_1, lw_okq q := List.forall_mem_cons.mpr ⟨lw_p0, List.forall_mem_cons.mpr ⟨lw_p1, List.forall_mem_cons.mpr ⟨lw_p2, List.forall_mem_cons.mpr ⟨lw_p3, List.forall_mem_cons.mpr ⟨lw_p4, List.forall_mem_cons.mpr ⟨lw_p5, List.forall_mem_cons.mpr ⟨lw_p6, List.forall_mem_cons.mpr ⟨lw_p7, List.forall_mem_cons.mpr ⟨lw_p8, List.forall_mem_cons.mpr ⟨lw_p9, List.forall_mem_cons.mpr ⟨lw_p10, List.forall_mem_cons.mpr ⟨lw_p11, List.forall_mem_cons.mpr ⟨lw_p12, List.forall_mem_cons.mpr ⟨lw_p13, List.forall_mem_cons.mpr ⟨lw_p14, List.forall_mem_cons.mpr ⟨lw_p15, fun _ h => absurd h List.not_mem_nil⟩⟩⟩⟩⟩⟩⟩⟩⟩⟩⟩⟩⟩⟩⟩⟩
theorem lw_p16 : lw_okq (⟨"CapitalMoved$Homes", "mayMove", "(I)Z"⟩, 11) := ⟨⟨by decide +kernel, by decide +kernel⟩, List.mem_of_getElem? (i := 92) (by decide +kernel), List.mem_of_getElem? (i := 689) (by decide +kernel), List.mem_of_getElem? (i := 690) (by decide +kernel)⟩
theorem lw_p17 : lw_okq (⟨"CapitalMoved$Homes", "settle", "(III)V"⟩, 11) := ⟨⟨by decide +kernel, by decide +kernel⟩, List.mem_of_getElem? (i := 92) (by decide +kernel), List.mem_of_getElem? (i := 693) (by decide +kernel), List.mem_of_getElem? (i := 694) (by decide +kernel)⟩
theorem lw_p18 : lw_okq (⟨"CapitalMoved$Laws", "step", "(II)I"⟩, 9) := ⟨⟨by decide +kernel, by decide +kernel⟩, List.mem_of_getElem? (i := 141) (by decide +kernel), List.mem_of_getElem? (i := 735) (by decide +kernel), List.mem_of_getElem? (i := 736) (by decide +kernel)⟩
theorem lw_p19 : lw_okq (⟨"CapitalMoved$Embassies", "countAhead", "(I)I"⟩, 3) := ⟨⟨by decide +kernel, by decide +kernel⟩, List.mem_of_getElem? (i := 178) (by decide +kernel), List.mem_of_getElem? (i := 780) (by decide +kernel), List.mem_of_getElem? (i := 781) (by decide +kernel)⟩
theorem lw_p20 : lw_okq (⟨"CapitalMoved$Embassies", "distanceOf", "(I)I"⟩, 3) := ⟨⟨by decide +kernel, by decide +kernel⟩, List.mem_of_getElem? (i := 178) (by decide +kernel), List.mem_of_getElem? (i := 784) (by decide +kernel), List.mem_of_getElem? (i := 785) (by decide +kernel)⟩
theorem lw_p21 : lw_okq (⟨"CapitalMovedModel", "no", "(I)I"⟩, 51) := ⟨⟨by decide +kernel, by decide +kernel⟩, List.mem_of_getElem? (i := 819) (by decide +kernel), List.mem_of_getElem? (i := 983) (by decide +kernel), List.mem_of_getElem? (i := 984) (by decide +kernel)⟩
theorem lw_p22 : lw_okq (⟨"CapitalMovedModel", "isOffice", "(I)Z"⟩, 51) := ⟨⟨by decide +kernel, by decide +kernel⟩, List.mem_of_getElem? (i := 819) (by decide +kernel), List.mem_of_getElem? (i := 991) (by decide +kernel), List.mem_of_getElem? (i := 992) (by decide +kernel)⟩
theorem lw_p23 : lw_okq (⟨"CapitalMovedModel", "mayGive", "(II)Z"⟩, 51) := ⟨⟨by decide +kernel, by decide +kernel⟩, List.mem_of_getElem? (i := 819) (by decide +kernel), List.mem_of_getElem? (i := 1064) (by decide +kernel), List.mem_of_getElem? (i := 1065) (by decide +kernel)⟩
theorem lw_p24 : lw_okq (⟨"CapitalMovedModel", "freeOnes", "()I"⟩, 51) := ⟨⟨by decide +kernel, by decide +kernel⟩, List.mem_of_getElem? (i := 819) (by decide +kernel), List.mem_of_getElem? (i := 1076) (by decide +kernel), List.mem_of_getElem? (i := 1077) (by decide +kernel)⟩
theorem lw_p25 : lw_okq (⟨"CapitalMovedModel", "isFree", "(I)Z"⟩, 51) := ⟨⟨by decide +kernel, by decide +kernel⟩, List.mem_of_getElem? (i := 819) (by decide +kernel), List.mem_of_getElem? (i := 1080) (by decide +kernel), List.mem_of_getElem? (i := 1081) (by decide +kernel)⟩
theorem lw_p26 : lw_okq (⟨"CapitalMovedModel", "byRule", "()Z"⟩, 51) := ⟨⟨by decide +kernel, by decide +kernel⟩, List.mem_of_getElem? (i := 819) (by decide +kernel), List.mem_of_getElem? (i := 1084) (by decide +kernel), List.mem_of_getElem? (i := 1085) (by decide +kernel)⟩
theorem lw_p27 : lw_okq (⟨"CapitalMovedModel", "bare", "()V"⟩, 51) := ⟨⟨by decide +kernel, by decide +kernel⟩, List.mem_of_getElem? (i := 819) (by decide +kernel), List.mem_of_getElem? (i := 1088) (by decide +kernel), List.mem_of_getElem? (i := 1089) (by decide +kernel)⟩
theorem lw_p28 : lw_okq (⟨"CapitalMovedModel", "firstWrong", "([I)I"⟩, 51) := ⟨⟨by decide +kernel, by decide +kernel⟩, List.mem_of_getElem? (i := 819) (by decide +kernel), List.mem_of_getElem? (i := 1092) (by decide +kernel), List.mem_of_getElem? (i := 1093) (by decide +kernel)⟩
theorem lw_p29 : lw_okq (⟨"CapitalMovedModel", "isLegal", "([II)Z"⟩, 51) := ⟨⟨by decide +kernel, by decide +kernel⟩, List.mem_of_getElem? (i := 819) (by decide +kernel), List.mem_of_getElem? (i := 1096) (by decide +kernel), List.mem_of_getElem? (i := 1097) (by decide +kernel)⟩
theorem lw_p30 : lw_okq (⟨"CapitalMovedModel", "isOver", "([III)Z"⟩, 51) := ⟨⟨by decide +kernel, by decide +kernel⟩, List.mem_of_getElem? (i := 819) (by decide +kernel), List.mem_of_getElem? (i := 1100) (by decide +kernel), List.mem_of_getElem? (i := 1101) (by decide +kernel)⟩
theorem lw_p31 : lw_okq (⟨"CapitalMovedModel", "bySwaps", "()Z"⟩, 51) := ⟨⟨by decide +kernel, by decide +kernel⟩, List.mem_of_getElem? (i := 819) (by decide +kernel), List.mem_of_getElem? (i := 1104) (by decide +kernel), List.mem_of_getElem? (i := 1105) (by decide +kernel)⟩
def lw_privs_2 : List (MethodName × Nat) := [(⟨"CapitalMoved$Homes", "mayMove", "(I)Z"⟩, 11), (⟨"CapitalMoved$Homes", "settle", "(III)V"⟩, 11), (⟨"CapitalMoved$Laws", "step", "(II)I"⟩, 9), (⟨"CapitalMoved$Embassies", "countAhead", "(I)I"⟩, 3), (⟨"CapitalMoved$Embassies", "distanceOf", "(I)I"⟩, 3), (⟨"CapitalMovedModel", "no", "(I)I"⟩, 51), (⟨"CapitalMovedModel", "isOffice", "(I)Z"⟩, 51), (⟨"CapitalMovedModel", "mayGive", "(II)Z"⟩, 51), (⟨"CapitalMovedModel", "freeOnes", "()I"⟩, 51), (⟨"CapitalMovedModel", "isFree", "(I)Z"⟩, 51), (⟨"CapitalMovedModel", "byRule", "()Z"⟩, 51), (⟨"CapitalMovedModel", "bare", "()V"⟩, 51), (⟨"CapitalMovedModel", "firstWrong", "([I)I"⟩, 51), (⟨"CapitalMovedModel", "isLegal", "([II)Z"⟩, 51), (⟨"CapitalMovedModel", "isOver", "([III)Z"⟩, 51), (⟨"CapitalMovedModel", "bySwaps", "()Z"⟩, 51)]
theorem lw_r2 : ∀ q ∈ lw_privs_2, lw_okq q := List.forall_mem_cons.mpr ⟨lw_p16, List.forall_mem_cons.mpr ⟨lw_p17, List.forall_mem_cons.mpr ⟨lw_p18, List.forall_mem_cons.mpr ⟨lw_p19, List.forall_mem_cons.mpr ⟨lw_p20, List.forall_mem_cons.mpr ⟨lw_p21, List.forall_mem_cons.mpr ⟨lw_p22, List.forall_mem_cons.mpr ⟨lw_p23, List.forall_mem_cons.mpr ⟨lw_p24, List.forall_mem_cons.mpr ⟨lw_p25, List.forall_mem_cons.mpr ⟨lw_p26, List.forall_mem_cons.mpr ⟨lw_p27, List.forall_mem_cons.mpr ⟨lw_p28, List.forall_mem_cons.mpr ⟨lw_p29, List.forall_mem_cons.mpr ⟨lw_p30, List.forall_mem_cons.mpr ⟨lw_p31, fun _ h => absurd h List.not_mem_nil⟩⟩⟩⟩⟩⟩⟩⟩⟩⟩⟩⟩⟩⟩⟩⟩
theorem lw_p32 : lw_okq (⟨"CapitalMovedModel", "costOf", "([I)I"⟩, 51) := ⟨⟨by decide +kernel, by decide +kernel⟩, List.mem_of_getElem? (i := 819) (by decide +kernel), List.mem_of_getElem? (i := 1108) (by decide +kernel), List.mem_of_getElem? (i := 1109) (by decide +kernel)⟩
theorem lw_p33 : lw_okq (⟨"CapitalMovedModel", "swap", "(II)V"⟩, 51) := ⟨⟨by decide +kernel, by decide +kernel⟩, List.mem_of_getElem? (i := 819) (by decide +kernel), List.mem_of_getElem? (i := 1112) (by decide +kernel), List.mem_of_getElem? (i := 1113) (by decide +kernel)⟩
theorem lw_p34 : lw_okq (⟨"CapitalMovedModel", "byAll", "(Z)Z"⟩, 51) := ⟨⟨by decide +kernel, by decide +kernel⟩, List.mem_of_getElem? (i := 819) (by decide +kernel), List.mem_of_getElem? (i := 1116) (by decide +kernel), List.mem_of_getElem? (i := 1117) (by decide +kernel)⟩
theorem lw_p35 : lw_okq (⟨"CapitalMovedModel", "others", "(IZ)I"⟩, 51) := ⟨⟨by decide +kernel, by decide +kernel⟩, List.mem_of_getElem? (i := 819) (by decide +kernel), List.mem_of_getElem? (i := 1120) (by decide +kernel), List.mem_of_getElem? (i := 1121) (by decide +kernel)⟩
theorem lw_p36 : lw_okq (⟨"CapitalMovedModel", "hopes", "(IZII)Z"⟩, 51) := ⟨⟨by decide +kernel, by decide +kernel⟩, List.mem_of_getElem? (i := 819) (by decide +kernel), List.mem_of_getElem? (i := 1124) (by decide +kernel), List.mem_of_getElem? (i := 1125) (by decide +kernel)⟩
theorem lw_p37 : lw_okq (⟨"CapitalMovedModel", "isOpen", "(II)Z"⟩, 51) := ⟨⟨by decide +kernel, by decide +kernel⟩, List.mem_of_getElem? (i := 819) (by decide +kernel), List.mem_of_getElem? (i := 1128) (by decide +kernel), List.mem_of_getElem? (i := 1129) (by decide +kernel)⟩
theorem lw_p38 : lw_okq (⟨"CapitalMovedModel", "chooses", "(II)I"⟩, 51) := ⟨⟨by decide +kernel, by decide +kernel⟩, List.mem_of_getElem? (i := 819) (by decide +kernel), List.mem_of_getElem? (i := 1156) (by decide +kernel), List.mem_of_getElem? (i := 1157) (by decide +kernel)⟩
theorem lw_p39 : lw_okq (⟨"CapitalMovedModel", "payOf", "(II)I"⟩, 51) := ⟨⟨by decide +kernel, by decide +kernel⟩, List.mem_of_getElem? (i := 819) (by decide +kernel), List.mem_of_getElem? (i := 1160) (by decide +kernel), List.mem_of_getElem? (i := 1161) (by decide +kernel)⟩
theorem lw_p40 : lw_okq (⟨"CapitalMovedModel", "readyBy", "([II)I"⟩, 51) := ⟨⟨by decide +kernel, by decide +kernel⟩, List.mem_of_getElem? (i := 819) (by decide +kernel), List.mem_of_getElem? (i := 1164) (by decide +kernel), List.mem_of_getElem? (i := 1165) (by decide +kernel)⟩
theorem lw_p41 : lw_okq (⟨"CapitalMovedModel", "is", "(II)Z"⟩, 51) := ⟨⟨by decide +kernel, by decide +kernel⟩, List.mem_of_getElem? (i := 819) (by decide +kernel), List.mem_of_getElem? (i := 1180) (by decide +kernel), List.mem_of_getElem? (i := 1181) (by decide +kernel)⟩
theorem lw_p42 : lw_okq (⟨"CapitalMovedModel", "isEnd", "(I)Z"⟩, 51) := ⟨⟨by decide +kernel, by decide +kernel⟩, List.mem_of_getElem? (i := 819) (by decide +kernel), List.mem_of_getElem? (i := 1184) (by decide +kernel), List.mem_of_getElem? (i := 1185) (by decide +kernel)⟩
theorem lw_p43 : lw_okq (⟨"CapitalMovedModel", "letter", "(I)I"⟩, 51) := ⟨⟨by decide +kernel, by decide +kernel⟩, List.mem_of_getElem? (i := 819) (by decide +kernel), List.mem_of_getElem? (i := 1188) (by decide +kernel), List.mem_of_getElem? (i := 1189) (by decide +kernel)⟩
theorem lw_p44 : lw_okq (⟨"CapitalMovedModel", "number", "(II)I"⟩, 51) := ⟨⟨by decide +kernel, by decide +kernel⟩, List.mem_of_getElem? (i := 819) (by decide +kernel), List.mem_of_getElem? (i := 1192) (by decide +kernel), List.mem_of_getElem? (i := 1193) (by decide +kernel)⟩
def lw_privs_3 : List (MethodName × Nat) := [(⟨"CapitalMovedModel", "costOf", "([I)I"⟩, 51), (⟨"CapitalMovedModel", "swap", "(II)V"⟩, 51), (⟨"CapitalMovedModel", "byAll", "(Z)Z"⟩, 51), (⟨"CapitalMovedModel", "others", "(IZ)I"⟩, 51), (⟨"CapitalMovedModel", "hopes", "(IZII)Z"⟩, 51), (⟨"CapitalMovedModel", "isOpen", "(II)Z"⟩, 51), (⟨"CapitalMovedModel", "chooses", "(II)I"⟩, 51), (⟨"CapitalMovedModel", "payOf", "(II)I"⟩, 51), (⟨"CapitalMovedModel", "readyBy", "([II)I"⟩, 51), (⟨"CapitalMovedModel", "is", "(II)Z"⟩, 51), (⟨"CapitalMovedModel", "isEnd", "(I)Z"⟩, 51), (⟨"CapitalMovedModel", "letter", "(I)I"⟩, 51), (⟨"CapitalMovedModel", "number", "(II)I"⟩, 51)]
theorem lw_r3 : ∀ q ∈ lw_privs_3, lw_okq q := List.forall_mem_cons.mpr ⟨lw_p32, List.forall_mem_cons.mpr ⟨lw_p33, List.forall_mem_cons.mpr ⟨lw_p34, List.forall_mem_cons.mpr ⟨lw_p35, List.forall_mem_cons.mpr ⟨lw_p36, List.forall_mem_cons.mpr ⟨lw_p37, List.forall_mem_cons.mpr ⟨lw_p38, List.forall_mem_cons.mpr ⟨lw_p39, List.forall_mem_cons.mpr ⟨lw_p40, List.forall_mem_cons.mpr ⟨lw_p41, List.forall_mem_cons.mpr ⟨lw_p42, List.forall_mem_cons.mpr ⟨lw_p43, List.forall_mem_cons.mpr ⟨lw_p44, fun _ h => absurd h List.not_mem_nil⟩⟩⟩⟩⟩⟩⟩⟩⟩⟩⟩⟩⟩
def lw_privs : List (MethodName × Nat) := lw_privs_1 ++ (lw_privs_2 ++ (lw_privs_3))
def lw_tbl : List Cond := k2_sels lw_privs ++ tables_1
theorem lw_privs_ok : ∀ q ∈ lw_privs, lw_okq q := by
  show ∀ q ∈ lw_privs_1 ++ (lw_privs_2 ++ (lw_privs_3)), lw_okq q
  exact List.forall_mem_append.mpr ⟨lw_r1, List.forall_mem_append.mpr ⟨lw_r2, lw_r3⟩⟩
def RX0 : String := "CapitalMoved$Embassies"
def TX0 : u_T := fun k => match k with
  | 0 => ("CapitalMoved$Embassies", "count", "I", false)
  | 1 => ("CapitalMoved$Embassies", "palacePlot", "I", false)
  | _ => ("CapitalMoved$Embassies", "ranks", "[I", true)
def tyX0 : Nat → FieldType := fun k => match k with
  | 0 => .int
  | 1 => .int
  | _ => .array .int
theorem nmX0 : ∀ a, a < 3 → ∀ b, b < 3 → a ≠ b → (TX0 a).2.1 ≠ (TX0 b).2.1 := by decide +kernel
theorem tyX0_ok : ∀ k, k < 3 → parseFieldDescriptor (TX0 k).2.2.1 = some (tyX0 k) := by decide +kernel
abbrev cX0_init : ByteArray := prog_2_method_1_code
def yX0_init : MethodName := ⟨RX0, "<init>", "()V"⟩
abbrev cX0_add : ByteArray := prog_2_method_2_code
def yX0_add : MethodName := ⟨RX0, "add", "(I)I"⟩
abbrev cX0_plotOf : ByteArray := prog_2_method_3_code
def yX0_plotOf : MethodName := ⟨RX0, "plotOf", "(I)I"⟩
abbrev cX0_countAhead : ByteArray := prog_2_method_4_code
def yX0_countAhead : MethodName := ⟨RX0, "countAhead", "(I)I"⟩
abbrev cX0_distanceOf : ByteArray := prog_2_method_5_code
def yX0_distanceOf : MethodName := ⟨RX0, "distanceOf", "(I)I"⟩
def RX1 : String := "CapitalMoved$Files"
def TX1 : u_T := fun k => match k with
  | 0 => ("CapitalMoved$Files", "count", "I", false)
  | _ => ("CapitalMoved$Files", "place", "[I", true)
def tyX1 : Nat → FieldType := fun k => match k with
  | 0 => .int
  | _ => .array .int
theorem nmX1 : ∀ a, a < 2 → ∀ b, b < 2 → a ≠ b → (TX1 a).2.1 ≠ (TX1 b).2.1 := by decide +kernel
theorem tyX1_ok : ∀ k, k < 2 → parseFieldDescriptor (TX1 k).2.2.1 = some (tyX1 k) := by decide +kernel
abbrev cX1_init : ByteArray := prog_3_method_1_code
def yX1_init : MethodName := ⟨RX1, "<init>", "()V"⟩
abbrev cX1_add : ByteArray := prog_3_method_2_code
def yX1_add : MethodName := ⟨RX1, "add", "(I)I"⟩
abbrev cX1_arrive : ByteArray := prog_3_method_3_code
def yX1_arrive : MethodName := ⟨RX1, "arrive", "()V"⟩
abbrev cX1_countOnRoad : ByteArray := prog_3_method_4_code
def yX1_countOnRoad : MethodName := ⟨RX1, "countOnRoad", "()I"⟩
def RX2 : String := "CapitalMoved$Homes"
def TX2 : u_T := fun k => match k with
  | 0 => ("CapitalMoved$Homes", "folk", "[I", true)
  | 1 => ("CapitalMoved$Homes", "traits", "[I", true)
  | 2 => ("CapitalMoved$Homes", "travellers", "[I", true)
  | 3 => ("CapitalMoved$Homes", "settled", "[I", true)
  | 4 => ("CapitalMoved$Homes", "quitters", "[I", true)
  | 5 => ("CapitalMoved$Homes", "train", "I", false)
  | 6 => ("CapitalMoved$Homes", "rent", "I", false)
  | 7 => ("CapitalMoved$Homes", "onTrain", "I", false)
  | 8 => ("CapitalMoved$Homes", "freeFlats", "I", false)
  | 9 => ("CapitalMoved$Homes", "freeSeats", "I", false)
  | _ => ("CapitalMoved$Homes", "paid", "I", false)
def tyX2 : Nat → FieldType := fun k => match k with
  | 0 => .array .int
  | 1 => .array .int
  | 2 => .array .int
  | 3 => .array .int
  | 4 => .array .int
  | 5 => .int
  | 6 => .int
  | 7 => .int
  | 8 => .int
  | 9 => .int
  | _ => .int
theorem nmX2 : ∀ a, a < 11 → ∀ b, b < 11 → a ≠ b → (TX2 a).2.1 ≠ (TX2 b).2.1 := by decide +kernel
theorem tyX2_ok : ∀ k, k < 11 → parseFieldDescriptor (TX2 k).2.2.1 = some (tyX2 k) := by decide +kernel
abbrev cX2_init : ByteArray := prog_4_method_1_code
def yX2_init : MethodName := ⟨RX2, "<init>", "()V"⟩
abbrev cX2_tellFolk : ByteArray := prog_4_method_2_code
def yX2_tellFolk : MethodName := ⟨RX2, "tellFolk", "(III)I"⟩
abbrev cX2_tellTrait : ByteArray := prog_4_method_3_code
def yX2_tellTrait : MethodName := ⟨RX2, "tellTrait", "(III)I"⟩
abbrev cX2_folkOf : ByteArray := prog_4_method_4_code
def yX2_folkOf : MethodName := ⟨RX2, "folkOf", "(I)I"⟩
abbrev cX2_pupilsOf : ByteArray := prog_4_method_5_code
def yX2_pupilsOf : MethodName := ⟨RX2, "pupilsOf", "(I)I"⟩
abbrev cX2_travellersOf : ByteArray := prog_4_method_6_code
def yX2_travellersOf : MethodName := ⟨RX2, "travellersOf", "(I)I"⟩
abbrev cX2_open : ByteArray := prog_4_method_7_code
def yX2_open : MethodName := ⟨RX2, "open", "(LCapitalMoved$Supply;I)V"⟩
abbrev cX2_askTravellers : ByteArray := prog_4_method_8_code
def yX2_askTravellers : MethodName := ⟨RX2, "askTravellers", "(LCapitalMoved$Offices;LCapitalMoved$Laws;I)I"⟩
abbrev cX2_askOffice : ByteArray := prog_4_method_9_code
def yX2_askOffice : MethodName := ⟨RX2, "askOffice", "(II)I"⟩
abbrev cX2_changeRent : ByteArray := prog_4_method_10_code
def yX2_changeRent : MethodName := ⟨RX2, "changeRent", "(I)V"⟩
abbrev cX2_ask : ByteArray := prog_4_method_11_code
def yX2_ask : MethodName := ⟨RX2, "ask", "(III)I"⟩
abbrev cX2_settle : ByteArray := prog_4_method_12_code
def yX2_settle : MethodName := ⟨RX2, "settle", "(III)V"⟩
abbrev cX2_mayMove : ByteArray := prog_4_method_13_code
def yX2_mayMove : MethodName := ⟨RX2, "mayMove", "(I)Z"⟩
abbrev cX2_hasChildren : ByteArray := prog_4_method_14_code
def yX2_hasChildren : MethodName := ⟨RX2, "hasChildren", "(I)Z"⟩
abbrev cX2_trait : ByteArray := prog_4_method_15_code
def yX2_trait : MethodName := ⟨RX2, "trait", "(II)I"⟩
def RX3 : String := "CapitalMoved$Laws"
def TX3 : u_T := fun k => match k with
  | 0 => ("CapitalMoved$Laws", "count", "I", false)
  | 1 => ("CapitalMoved$Laws", "owners", "[I", true)
  | 2 => ("CapitalMoved$Laws", "numbers", "[I", true)
  | 3 => ("CapitalMoved$Laws", "firstWaves", "[I", true)
  | 4 => ("CapitalMoved$Laws", "inForce", "[Z", true)
  | 5 => ("CapitalMoved$Laws", "latestFault", "I", false)
  | 6 => ("CapitalMoved$Laws", "owner", "I", false)
  | 7 => ("CapitalMoved$Laws", "number", "I", false)
  | _ => ("CapitalMoved$Laws", "firstWave", "I", false)
def tyX3 : Nat → FieldType := fun k => match k with
  | 0 => .int
  | 1 => .array .int
  | 2 => .array .int
  | 3 => .array .int
  | 4 => .array .boolean
  | 5 => .int
  | 6 => .int
  | 7 => .int
  | _ => .int
theorem nmX3 : ∀ a, a < 9 → ∀ b, b < 9 → a ≠ b → (TX3 a).2.1 ≠ (TX3 b).2.1 := by decide +kernel
theorem tyX3_ok : ∀ k, k < 9 → parseFieldDescriptor (TX3 k).2.2.1 = some (tyX3 k) := by decide +kernel
abbrev cX3_init : ByteArray := prog_5_method_1_code
def yX3_init : MethodName := ⟨RX3, "<init>", "()V"⟩
abbrev cX3_read : ByteArray := prog_5_method_2_code
def yX3_read : MethodName := ⟨RX3, "read", "(LCapitalMoved$Shelves;I)V"⟩
abbrev cX3_enact : ByteArray := prog_5_method_3_code
def yX3_enact : MethodName := ⟨RX3, "enact", "()I"⟩
abbrev cX3_payOf : ByteArray := prog_5_method_4_code
def yX3_payOf : MethodName := ⟨RX3, "payOf", "(II)I"⟩
abbrev cX3_step : ByteArray := prog_5_method_5_code
def yX3_step : MethodName := ⟨RX3, "step", "(II)I"⟩
def RX4 : String := "CapitalMoved$Load"
def TX4 : u_T := fun k => match k with
  | 0 => ("CapitalMoved$Load", "desksOver", "[I", true)
  | 1 => ("CapitalMoved$Load", "desksGoing", "[I", true)
  | 2 => ("CapitalMoved$Load", "homesOver", "[I", true)
  | 3 => ("CapitalMoved$Load", "pupilsOver", "[I", true)
  | 4 => ("CapitalMoved$Load", "desksReady", "[I", true)
  | 5 => ("CapitalMoved$Load", "flatsReady", "[I", true)
  | 6 => ("CapitalMoved$Load", "seatsReady", "[I", true)
  | 7 => ("CapitalMoved$Load", "desks", "[I", true)
  | 8 => ("CapitalMoved$Load", "homes", "[I", true)
  | 9 => ("CapitalMoved$Load", "pupils", "[I", true)
  | _ => ("CapitalMoved$Load", "most", "I", false)
def tyX4 : Nat → FieldType := fun k => match k with
  | 0 => .array .int
  | 1 => .array .int
  | 2 => .array .int
  | 3 => .array .int
  | 4 => .array .int
  | 5 => .array .int
  | 6 => .array .int
  | 7 => .array .int
  | 8 => .array .int
  | 9 => .array .int
  | _ => .int
theorem nmX4 : ∀ a, a < 11 → ∀ b, b < 11 → a ≠ b → (TX4 a).2.1 ≠ (TX4 b).2.1 := by decide +kernel
theorem tyX4_ok : ∀ k, k < 11 → parseFieldDescriptor (TX4 k).2.2.1 = some (tyX4 k) := by decide +kernel
abbrev cX4_init : ByteArray := prog_6_method_1_code
def yX4_init : MethodName := ⟨RX4, "<init>", "()V"⟩
abbrev cX4_clear : ByteArray := prog_6_method_2_code
def yX4_clear : MethodName := ⟨RX4, "clear", "(LCapitalMoved$Offices;LCapitalMoved$Homes;LCapitalMoved$Supply;)V"⟩
abbrev cX4_change : ByteArray := prog_6_method_3_code
def yX4_change : MethodName := ⟨RX4, "change", "(III)V"⟩
abbrev cX4_isLegal : ByteArray := prog_6_method_4_code
def yX4_isLegal : MethodName := ⟨RX4, "isLegal", "(I)Z"⟩
abbrev cX4_fits : ByteArray := prog_6_method_5_code
def yX4_fits : MethodName := ⟨RX4, "fits", "(II)Z"⟩
def RX5 : String := "CapitalMoved$Offices"
def TX5 : u_T := fun k => match k with
  | 0 => ("CapitalMoved$Offices", "count", "I", false)
  | 1 => ("CapitalMoved$Offices", "desks", "[I", true)
  | 2 => ("CapitalMoved$Offices", "ranks", "[I", true)
  | 3 => ("CapitalMoved$Offices", "waves", "[I", true)
  | 4 => ("CapitalMoved$Offices", "stays", "[Z", true)
  | 5 => ("CapitalMoved$Offices", "moved", "[Z", true)
  | _ => ("CapitalMoved$Offices", "ties", "[I", true)
def tyX5 : Nat → FieldType := fun k => match k with
  | 0 => .int
  | 1 => .array .int
  | 2 => .array .int
  | 3 => .array .int
  | 4 => .array .boolean
  | 5 => .array .boolean
  | _ => .array .int
theorem nmX5 : ∀ a, a < 7 → ∀ b, b < 7 → a ≠ b → (TX5 a).2.1 ≠ (TX5 b).2.1 := by decide +kernel
theorem tyX5_ok : ∀ k, k < 7 → parseFieldDescriptor (TX5 k).2.2.1 = some (tyX5 k) := by decide +kernel
abbrev cX5_init : ByteArray := prog_7_method_1_code
def yX5_init : MethodName := ⟨RX5, "<init>", "()V"⟩
abbrev cX5_has : ByteArray := prog_7_method_2_code
def yX5_has : MethodName := ⟨RX5, "has", "(I)Z"⟩
abbrev cX5_add : ByteArray := prog_7_method_3_code
def yX5_add : MethodName := ⟨RX5, "add", "(II)I"⟩
abbrev cX5_bind : ByteArray := prog_7_method_4_code
def yX5_bind : MethodName := ⟨RX5, "bind", "(III)I"⟩
abbrev cX5_waveOf : ByteArray := prog_7_method_5_code
def yX5_waveOf : MethodName := ⟨RX5, "waveOf", "(I)I"⟩
abbrev cX5_assign : ByteArray := prog_7_method_6_code
def yX5_assign : MethodName := ⟨RX5, "assign", "(II)V"⟩
abbrev cX5_isFree : ByteArray := prog_7_method_7_code
def yX5_isFree : MethodName := ⟨RX5, "isFree", "(I)Z"⟩
abbrev cX5_countFree : ByteArray := prog_7_method_8_code
def yX5_countFree : MethodName := ⟨RX5, "countFree", "()I"⟩
abbrev cX5_countWithWave : ByteArray := prog_7_method_9_code
def yX5_countWithWave : MethodName := ⟨RX5, "countWithWave", "()I"⟩
abbrev cX5_cutOf : ByteArray := prog_7_method_10_code
def yX5_cutOf : MethodName := ⟨RX5, "cutOf", "(I)I"⟩
abbrev cX5_costOf : ByteArray := prog_7_method_11_code
def yX5_costOf : MethodName := ⟨RX5, "costOf", "([I)I"⟩
def RX6 : String := "CapitalMoved$Planner"
def TX6 : u_T := fun k => match k with
  | 0 => ("CapitalMoved$Planner", "load", "LCapitalMoved$Load;", true)
  | 1 => ("CapitalMoved$Planner", "trial", "[I", true)
  | 2 => ("CapitalMoved$Planner", "best", "[I", true)
  | 3 => ("CapitalMoved$Planner", "firstWave", "I", false)
  | 4 => ("CapitalMoved$Planner", "leastPrice", "I", false)
  | 5 => ("CapitalMoved$Planner", "changePrice", "I", false)
  | 6 => ("CapitalMoved$Planner", "leastCost", "I", false)
  | 7 => ("CapitalMoved$Planner", "changed", "I", false)
  | 8 => ("CapitalMoved$Planner", "changedToo", "I", false)
  | _ => ("CapitalMoved$Planner", "newWave", "I", false)
def tyX6 : Nat → FieldType := fun k => match k with
  | 0 => .object "CapitalMoved$Load"
  | 1 => .array .int
  | 2 => .array .int
  | 3 => .int
  | 4 => .int
  | 5 => .int
  | 6 => .int
  | 7 => .int
  | 8 => .int
  | _ => .int
theorem nmX6 : ∀ a, a < 10 → ∀ b, b < 10 → a ≠ b → (TX6 a).2.1 ≠ (TX6 b).2.1 := by decide +kernel
theorem tyX6_ok : ∀ k, k < 10 → parseFieldDescriptor (TX6 k).2.2.1 = some (tyX6 k) := by decide +kernel
abbrev cX6_init : ByteArray := prog_8_method_1_code
def yX6_init : MethodName := ⟨RX6, "<init>", "()V"⟩
abbrev cX6_firstBreach : ByteArray := prog_8_method_2_code
def yX6_firstBreach : MethodName := ⟨RX6, "firstBreach", "(LCapitalMoved$Offices;LCapitalMoved$Homes;LCapitalMoved$Supply;)I"⟩
abbrev cX6_start : ByteArray := prog_8_method_3_code
def yX6_start : MethodName := ⟨RX6, "start", "(LCapitalMoved$Offices;LCapitalMoved$Homes;LCapitalMoved$Supply;I)V"⟩
abbrev cX6_make : ByteArray := prog_8_method_4_code
def yX6_make : MethodName := ⟨RX6, "make", "(LCapitalMoved$Offices;I)Z"⟩
abbrev cX6_adopt : ByteArray := prog_8_method_5_code
def yX6_adopt : MethodName := ⟨RX6, "adopt", "(LCapitalMoved$Offices;)V"⟩
abbrev cX6_makeByRule : ByteArray := prog_8_method_6_code
def yX6_makeByRule : MethodName := ⟨RX6, "makeByRule", "(LCapitalMoved$Offices;)Z"⟩
abbrev cX6_placeEarliest : ByteArray := prog_8_method_7_code
def yX6_placeEarliest : MethodName := ⟨RX6, "placeEarliest", "(I)Z"⟩
abbrev cX6_move : ByteArray := prog_8_method_8_code
def yX6_move : MethodName := ⟨RX6, "move", "(II)V"⟩
abbrev cX6_exchange : ByteArray := prog_8_method_9_code
def yX6_exchange : MethodName := ⟨RX6, "exchange", "(II)V"⟩
abbrev cX6_improveBySwaps : ByteArray := prog_8_method_10_code
def yX6_improveBySwaps : MethodName := ⟨RX6, "improveBySwaps", "(LCapitalMoved$Offices;)V"⟩
abbrev cX6_tryMoves : ByteArray := prog_8_method_11_code
def yX6_tryMoves : MethodName := ⟨RX6, "tryMoves", "(LCapitalMoved$Offices;)V"⟩
abbrev cX6_tryExchanges : ByteArray := prog_8_method_12_code
def yX6_tryExchanges : MethodName := ⟨RX6, "tryExchanges", "(LCapitalMoved$Offices;)V"⟩
abbrev cX6_isBetter : ByteArray := prog_8_method_13_code
def yX6_isBetter : MethodName := ⟨RX6, "isBetter", "(LCapitalMoved$Offices;)Z"⟩
abbrev cX6_makeBest : ByteArray := prog_8_method_14_code
def yX6_makeBest : MethodName := ⟨RX6, "makeBest", "(LCapitalMoved$Offices;Z)Z"⟩
abbrev cX6_search : ByteArray := prog_8_method_15_code
def yX6_search : MethodName := ⟨RX6, "search", "(LCapitalMoved$Planner;LCapitalMoved$Offices;II)V"⟩
abbrev cX6_priceOf : ByteArray := prog_8_method_16_code
def yX6_priceOf : MethodName := ⟨RX6, "priceOf", "(LCapitalMoved$Offices;I)I"⟩
def RX7 : String := "CapitalMoved$Shelves"
def TX7 : u_T := fun k => match k with
  | 0 => ("CapitalMoved$Shelves", "holding", "[I", true)
  | 1 => ("CapitalMoved$Shelves", "length", "[I", true)
  | _ => ("CapitalMoved$Shelves", "elements", "[[J", true)
def tyX7 : Nat → FieldType := fun k => match k with
  | 0 => .array .int
  | 1 => .array .int
  | _ => .array (.array .long)
theorem nmX7 : ∀ a, a < 3 → ∀ b, b < 3 → a ≠ b → (TX7 a).2.1 ≠ (TX7 b).2.1 := by decide +kernel
theorem tyX7_ok : ∀ k, k < 3 → parseFieldDescriptor (TX7 k).2.2.1 = some (tyX7 k) := by decide +kernel
abbrev cX7_init : ByteArray := prog_9_method_1_code
def yX7_init : MethodName := ⟨RX7, "<init>", "()V"⟩
abbrev cX7_isEmpty : ByteArray := prog_9_method_2_code
def yX7_isEmpty : MethodName := ⟨RX7, "isEmpty", "(I)Z"⟩
abbrev cX7_isRow : ByteArray := prog_9_method_3_code
def yX7_isRow : MethodName := ⟨RX7, "isRow", "(I)Z"⟩
abbrev cX7_clash : ByteArray := prog_9_method_4_code
def yX7_clash : MethodName := ⟨RX7, "clash", "(II)Z"⟩
abbrev cX7_reaches : ByteArray := prog_9_method_5_code
def yX7_reaches : MethodName := ⟨RX7, "reaches", "(III)Z"⟩
abbrev cX7_putRow : ByteArray := prog_9_method_6_code
def yX7_putRow : MethodName := ⟨RX7, "putRow", "(III)V"⟩
abbrev cX7_put : ByteArray := prog_9_method_7_code
def yX7_put : MethodName := ⟨RX7, "put", "(IIJ)V"⟩
abbrev cX7_valueAt : ByteArray := prog_9_method_8_code
def yX7_valueAt : MethodName := ⟨RX7, "valueAt", "(II)J"⟩
def RX8 : String := "CapitalMoved$Supply"
def TX8 : u_T := fun k => match k with
  | 0 => ("CapitalMoved$Supply", "buildings", "I", false)
  | 1 => ("CapitalMoved$Supply", "most", "I", false)
  | 2 => ("CapitalMoved$Supply", "buildingDesks", "[I", true)
  | 3 => ("CapitalMoved$Supply", "buildingReady", "[I", true)
  | _ => ("CapitalMoved$Supply", "becoming", "[I", true)
def tyX8 : Nat → FieldType := fun k => match k with
  | 0 => .int
  | 1 => .int
  | 2 => .array .int
  | 3 => .array .int
  | _ => .array .int
theorem nmX8 : ∀ a, a < 5 → ∀ b, b < 5 → a ≠ b → (TX8 a).2.1 ≠ (TX8 b).2.1 := by decide +kernel
theorem tyX8_ok : ∀ k, k < 5 → parseFieldDescriptor (TX8 k).2.2.1 = some (tyX8 k) := by decide +kernel
abbrev cX8_init : ByteArray := prog_10_method_1_code
def yX8_init : MethodName := ⟨RX8, "<init>", "()V"⟩
abbrev cX8_add : ByteArray := prog_10_method_2_code
def yX8_add : MethodName := ⟨RX8, "add", "(II)I"⟩
abbrev cX8_makeReady : ByteArray := prog_10_method_3_code
def yX8_makeReady : MethodName := ⟨RX8, "makeReady", "(III)I"⟩
abbrev cX8_readyIn : ByteArray := prog_10_method_4_code
def yX8_readyIn : MethodName := ⟨RX8, "readyIn", "(II)I"⟩
abbrev cX8_desksBy : ByteArray := prog_10_method_5_code
def yX8_desksBy : MethodName := ⟨RX8, "desksBy", "(I)I"⟩
def RX9 : String := "CapitalMoved"
def TX9 : u_T := fun k => match k with
  | 0 => ("CapitalMoved", "refusals", "[I", true)
  | 1 => ("CapitalMoved", "offices", "LCapitalMoved$Offices;", true)
  | 2 => ("CapitalMoved", "supply", "LCapitalMoved$Supply;", true)
  | 3 => ("CapitalMoved", "homes", "LCapitalMoved$Homes;", true)
  | 4 => ("CapitalMoved", "laws", "LCapitalMoved$Laws;", true)
  | 5 => ("CapitalMoved", "embassies", "LCapitalMoved$Embassies;", true)
  | 6 => ("CapitalMoved", "files", "LCapitalMoved$Files;", true)
  | 7 => ("CapitalMoved", "shelves", "LCapitalMoved$Shelves;", true)
  | 8 => ("CapitalMoved", "planner", "LCapitalMoved$Planner;", true)
  | 9 => ("CapitalMoved", "begun", "Z", false)
  | _ => ("CapitalMoved", "now", "I", false)
def tyX9 : Nat → FieldType := fun k => match k with
  | 0 => .array .int
  | 1 => .object "CapitalMoved$Offices"
  | 2 => .object "CapitalMoved$Supply"
  | 3 => .object "CapitalMoved$Homes"
  | 4 => .object "CapitalMoved$Laws"
  | 5 => .object "CapitalMoved$Embassies"
  | 6 => .object "CapitalMoved$Files"
  | 7 => .object "CapitalMoved$Shelves"
  | 8 => .object "CapitalMoved$Planner"
  | 9 => .boolean
  | _ => .int
theorem nmX9 : ∀ a, a < 11 → ∀ b, b < 11 → a ≠ b → (TX9 a).2.1 ≠ (TX9 b).2.1 := by decide +kernel
theorem tyX9_ok : ∀ k, k < 11 → parseFieldDescriptor (TX9 k).2.2.1 = some (tyX9 k) := by decide +kernel
abbrev cX9_init : ByteArray := prog_1_method_1_code
def yX9_init : MethodName := ⟨RX9, "<init>", "()V"⟩
abbrev cX9_office : ByteArray := prog_1_method_2_code
def yX9_office : MethodName := ⟨RX9, "office", "(II)I"⟩
abbrev cX9_tie : ByteArray := prog_1_method_3_code
def yX9_tie : MethodName := ⟨RX9, "tie", "(III)I"⟩
abbrev cX9_building : ByteArray := prog_1_method_4_code
def yX9_building : MethodName := ⟨RX9, "building", "(II)I"⟩
abbrev cX9_late : ByteArray := prog_1_method_5_code
def yX9_late : MethodName := ⟨RX9, "late", "(II)I"⟩
abbrev cX9_ready : ByteArray := prog_1_method_6_code
def yX9_ready : MethodName := ⟨RX9, "ready", "(III)I"⟩
abbrev cX9_limit : ByteArray := prog_1_method_7_code
def yX9_limit : MethodName := ⟨RX9, "limit", "(II)I"⟩
abbrev cX9_isLimit : ByteArray := prog_1_method_8_code
def yX9_isLimit : MethodName := ⟨RX9, "isLimit", "(II)Z"⟩
abbrev cX9_folk : ByteArray := prog_1_method_9_code
def yX9_folk : MethodName := ⟨RX9, "folk", "(III)I"⟩
abbrev cX9_kind : ByteArray := prog_1_method_10_code
def yX9_kind : MethodName := ⟨RX9, "kind", "(III)I"⟩
abbrev cX9_row : ByteArray := prog_1_method_11_code
def yX9_row : MethodName := ⟨RX9, "row", "(III)I"⟩
abbrev cX9_set : ByteArray := prog_1_method_12_code
def yX9_set : MethodName := ⟨RX9, "set", "(IIJ)I"⟩
abbrev cX9_copy : ByteArray := prog_1_method_13_code
def yX9_copy : MethodName := ⟨RX9, "copy", "(IIIII)I"⟩
abbrev cX9_element : ByteArray := prog_1_method_14_code
def yX9_element : MethodName := ⟨RX9, "element", "(II)J"⟩
abbrev cX9_show : ByteArray := prog_1_method_15_code
def yX9_show : MethodName := ⟨RX9, "show", "(II)I"⟩
abbrev cX9_holds : ByteArray := prog_1_method_16_code
def yX9_holds : MethodName := ⟨RX9, "holds", "(I)I"⟩
abbrev cX9_desksIn : ByteArray := prog_1_method_17_code
def yX9_desksIn : MethodName := ⟨RX9, "desksIn", "(I)I"⟩
abbrev cX9_stay : ByteArray := prog_1_method_18_code
def yX9_stay : MethodName := ⟨RX9, "stay", "(IZ)I"⟩
abbrev cX9_give : ByteArray := prog_1_method_19_code
def yX9_give : MethodName := ⟨RX9, "give", "(II)I"⟩
abbrev cX9_gives : ByteArray := prog_1_method_20_code
def yX9_gives : MethodName := ⟨RX9, "gives", "(I)I"⟩
abbrev cX9_mayGet : ByteArray := prog_1_method_21_code
def yX9_mayGet : MethodName := ⟨RX9, "mayGet", "(II)Z"⟩
abbrev cX9_plan : ByteArray := prog_1_method_22_code
def yX9_plan : MethodName := ⟨RX9, "plan", "(I)I"⟩
abbrev cX9_wave : ByteArray := prog_1_method_23_code
def yX9_wave : MethodName := ⟨RX9, "wave", "(I)I"⟩
abbrev cX9_cut : ByteArray := prog_1_method_24_code
def yX9_cut : MethodName := ⟨RX9, "cut", "(I)I"⟩
abbrev cX9_cost : ByteArray := prog_1_method_25_code
def yX9_cost : MethodName := ⟨RX9, "cost", "()I"⟩
abbrev cX9_legal : ByteArray := prog_1_method_26_code
def yX9_legal : MethodName := ⟨RX9, "legal", "()I"⟩
abbrev cX9_begin : ByteArray := prog_1_method_27_code
def yX9_begin : MethodName := ⟨RX9, "begin", "()I"⟩
abbrev cX9_next : ByteArray := prog_1_method_28_code
def yX9_next : MethodName := ⟨RX9, "next", "()I"⟩
abbrev cX9_people : ByteArray := prog_1_method_29_code
def yX9_people : MethodName := ⟨RX9, "people", "(II)I"⟩
abbrev cX9_town : ByteArray := prog_1_method_30_code
def yX9_town : MethodName := ⟨RX9, "town", "(I)I"⟩
abbrev cX9_law : ByteArray := prog_1_method_31_code
def yX9_law : MethodName := ⟨RX9, "law", "(I)I"⟩
abbrev cX9_fault : ByteArray := prog_1_method_32_code
def yX9_fault : MethodName := ⟨RX9, "fault", "()I"⟩
abbrev cX9_vote : ByteArray := prog_1_method_33_code
def yX9_vote : MethodName := ⟨RX9, "vote", "(IIIII)I"⟩
abbrev cX9_pay : ByteArray := prog_1_method_34_code
def yX9_pay : MethodName := ⟨RX9, "pay", "(II)I"⟩
abbrev cX9_embassy : ByteArray := prog_1_method_35_code
def yX9_embassy : MethodName := ⟨RX9, "embassy", "(I)I"⟩
abbrev cX9_palace : ByteArray := prog_1_method_36_code
def yX9_palace : MethodName := ⟨RX9, "palace", "(I)I"⟩
abbrev cX9_plot : ByteArray := prog_1_method_37_code
def yX9_plot : MethodName := ⟨RX9, "plot", "(I)I"⟩
abbrev cX9_file : ByteArray := prog_1_method_38_code
def yX9_file : MethodName := ⟨RX9, "file", "(I)I"⟩
abbrev cX9_road : ByteArray := prog_1_method_39_code
def yX9_road : MethodName := ⟨RX9, "road", "(I)I"⟩
abbrev cX9_days : ByteArray := prog_1_method_40_code
def yX9_days : MethodName := ⟨RX9, "days", "(II)I"⟩
abbrev cX9_status : ByteArray := prog_1_method_41_code
def yX9_status : MethodName := ⟨RX9, "status", "(I)I"⟩
abbrev cX9_refuse : ByteArray := prog_1_method_42_code
def yX9_refuse : MethodName := ⟨RX9, "refuse", "(I)I"⟩
abbrev cX9_wantRow : ByteArray := prog_1_method_43_code
def yX9_wantRow : MethodName := ⟨RX9, "wantRow", "(I)I"⟩
abbrev cX9_isWithin : ByteArray := prog_1_method_44_code
def yX9_isWithin : MethodName := ⟨RX9, "isWithin", "(III)Z"⟩
abbrev cX9_isWave : ByteArray := prog_1_method_45_code
def yX9_isWave : MethodName := ⟨RX9, "isWave", "(I)Z"⟩
abbrev cX9_isShelf : ByteArray := prog_1_method_46_code
def yX9_isShelf : MethodName := ⟨RX9, "isShelf", "(I)Z"⟩
abbrev cX9_isVotes : ByteArray := prog_1_method_47_code
def yX9_isVotes : MethodName := ⟨RX9, "isVotes", "(I)Z"⟩
abbrev cX9_countTrue : ByteArray := prog_1_method_48_code
def yX9_countTrue : MethodName := ⟨RX9, "countTrue", "([Z)I"⟩
abbrev cX9_sum : ByteArray := prog_1_method_49_code
def yX9_sum : MethodName := ⟨RX9, "sum", "([I)I"⟩
def RX10 : String := "CapitalMovedModel"
def TX10 : u_T := fun k => match k with
  | 0 => ("CapitalMovedModel", "offices", "I", false)
  | 1 => ("CapitalMovedModel", "buildings", "I", false)
  | 2 => ("CapitalMovedModel", "laws", "I", false)
  | 3 => ("CapitalMovedModel", "embassies", "I", false)
  | 4 => ("CapitalMovedModel", "files", "I", false)
  | 5 => ("CapitalMovedModel", "now", "I", false)
  | 6 => ("CapitalMovedModel", "palace", "I", false)
  | 7 => ("CapitalMovedModel", "rent", "I", false)
  | 8 => ("CapitalMovedModel", "most", "I", false)
  | 9 => ("CapitalMovedModel", "train", "I", false)
  | 10 => ("CapitalMovedModel", "flatsTaken", "I", false)
  | 11 => ("CapitalMovedModel", "seatsTaken", "I", false)
  | 12 => ("CapitalMovedModel", "onTrain", "I", false)
  | 13 => ("CapitalMovedModel", "given", "I", false)
  | 14 => ("CapitalMovedModel", "fault", "I", false)
  | 15 => ("CapitalMovedModel", "begun", "Z", false)
  | 16 => ("CapitalMovedModel", "desks", "[I", true)
  | 17 => ("CapitalMovedModel", "rank", "[I", true)
  | 18 => ("CapitalMovedModel", "wave", "[I", true)
  | 19 => ("CapitalMovedModel", "stays", "[Z", true)
  | 20 => ("CapitalMovedModel", "moved", "[Z", true)
  | 21 => ("CapitalMovedModel", "ties", "[I", true)
  | 22 => ("CapitalMovedModel", "room", "[I", true)
  | 23 => ("CapitalMovedModel", "ready", "[I", true)
  | 24 => ("CapitalMovedModel", "flats", "[I", true)
  | 25 => ("CapitalMovedModel", "seats", "[I", true)
  | 26 => ("CapitalMovedModel", "folk", "[I", true)
  | 27 => ("CapitalMovedModel", "here", "[I", true)
  | 28 => ("CapitalMovedModel", "gone", "[I", true)
  | 29 => ("CapitalMovedModel", "travel", "[I", true)
  | 30 => ("CapitalMovedModel", "quit", "[I", true)
  | 31 => ("CapitalMovedModel", "about", "[I", true)
  | 32 => ("CapitalMovedModel", "held", "[I", true)
  | 33 => ("CapitalMovedModel", "sort", "[I", true)
  | 34 => ("CapitalMovedModel", "size", "[I", true)
  | 35 => ("CapitalMovedModel", "shown", "[I", true)
  | 36 => ("CapitalMovedModel", "cells", "[J", true)
  | 37 => ("CapitalMovedModel", "carried", "[J", true)
  | 38 => ("CapitalMovedModel", "lawOf", "[I", true)
  | 39 => ("CapitalMovedModel", "lawPay", "[I", true)
  | 40 => ("CapitalMovedModel", "lawFrom", "[I", true)
  | 41 => ("CapitalMovedModel", "inForce", "[Z", true)
  | 42 => ("CapitalMovedModel", "embassyRank", "[I", true)
  | 43 => ("CapitalMovedModel", "fileOf", "[I", true)
  | 44 => ("CapitalMovedModel", "fileAt", "[I", true)
  | 45 => ("CapitalMovedModel", "refused", "[I", true)
  | 46 => ("CapitalMovedModel", "trial", "[I", true)
  | 47 => ("CapitalMovedModel", "found", "[I", true)
  | 48 => ("CapitalMovedModel", "list", "[I", true)
  | 49 => ("CapitalMovedModel", "taken", "[I", true)
  | _ => ("CapitalMovedModel", "place", "I", false)
def tyX10 : Nat → FieldType := fun k => match k with
  | 0 => .int
  | 1 => .int
  | 2 => .int
  | 3 => .int
  | 4 => .int
  | 5 => .int
  | 6 => .int
  | 7 => .int
  | 8 => .int
  | 9 => .int
  | 10 => .int
  | 11 => .int
  | 12 => .int
  | 13 => .int
  | 14 => .int
  | 15 => .boolean
  | 16 => .array .int
  | 17 => .array .int
  | 18 => .array .int
  | 19 => .array .boolean
  | 20 => .array .boolean
  | 21 => .array .int
  | 22 => .array .int
  | 23 => .array .int
  | 24 => .array .int
  | 25 => .array .int
  | 26 => .array .int
  | 27 => .array .int
  | 28 => .array .int
  | 29 => .array .int
  | 30 => .array .int
  | 31 => .array .int
  | 32 => .array .int
  | 33 => .array .int
  | 34 => .array .int
  | 35 => .array .int
  | 36 => .array .long
  | 37 => .array .long
  | 38 => .array .int
  | 39 => .array .int
  | 40 => .array .int
  | 41 => .array .boolean
  | 42 => .array .int
  | 43 => .array .int
  | 44 => .array .int
  | 45 => .array .int
  | 46 => .array .int
  | 47 => .array .int
  | 48 => .array .int
  | 49 => .array .int
  | _ => .int
theorem nmX10 : ∀ a, a < 51 → ∀ b, b < 51 → a ≠ b → (TX10 a).2.1 ≠ (TX10 b).2.1 := by decide +kernel
theorem tyX10_ok : ∀ k, k < 51 → parseFieldDescriptor (TX10 k).2.2.1 = some (tyX10 k) := by decide +kernel
abbrev cX10_init : ByteArray := prog_12_method_1_code
def yX10_init : MethodName := ⟨RX10, "<init>", "()V"⟩
abbrev cX10_no : ByteArray := prog_12_method_2_code
def yX10_no : MethodName := ⟨RX10, "no", "(I)I"⟩
abbrev cX10_isOffice : ByteArray := prog_12_method_3_code
def yX10_isOffice : MethodName := ⟨RX10, "isOffice", "(I)Z"⟩
abbrev cX10_isWave : ByteArray := prog_12_method_4_code
def yX10_isWave : MethodName := ⟨RX10, "isWave", "(I)Z"⟩
abbrev cX10_isKind : ByteArray := prog_12_method_5_code
def yX10_isKind : MethodName := ⟨RX10, "isKind", "(I)Z"⟩
abbrev cX10_isShelf : ByteArray := prog_12_method_6_code
def yX10_isShelf : MethodName := ⟨RX10, "isShelf", "(I)Z"⟩
abbrev cX10_office : ByteArray := prog_12_method_7_code
def yX10_office : MethodName := ⟨RX10, "office", "(II)I"⟩
abbrev cX10_tie : ByteArray := prog_12_method_8_code
def yX10_tie : MethodName := ⟨RX10, "tie", "(III)I"⟩
abbrev cX10_building : ByteArray := prog_12_method_9_code
def yX10_building : MethodName := ⟨RX10, "building", "(II)I"⟩
abbrev cX10_late : ByteArray := prog_12_method_10_code
def yX10_late : MethodName := ⟨RX10, "late", "(II)I"⟩
abbrev cX10_ready : ByteArray := prog_12_method_11_code
def yX10_ready : MethodName := ⟨RX10, "ready", "(III)I"⟩
abbrev cX10_limit : ByteArray := prog_12_method_12_code
def yX10_limit : MethodName := ⟨RX10, "limit", "(II)I"⟩
abbrev cX10_folk : ByteArray := prog_12_method_13_code
def yX10_folk : MethodName := ⟨RX10, "folk", "(III)I"⟩
abbrev cX10_kind : ByteArray := prog_12_method_14_code
def yX10_kind : MethodName := ⟨RX10, "kind", "(III)I"⟩
abbrev cX10_row : ByteArray := prog_12_method_15_code
def yX10_row : MethodName := ⟨RX10, "row", "(III)I"⟩
abbrev cX10_set : ByteArray := prog_12_method_16_code
def yX10_set : MethodName := ⟨RX10, "set", "(IIJ)I"⟩
abbrev cX10_copy : ByteArray := prog_12_method_17_code
def yX10_copy : MethodName := ⟨RX10, "copy", "(IIIII)I"⟩
abbrev cX10_element : ByteArray := prog_12_method_18_code
def yX10_element : MethodName := ⟨RX10, "element", "(II)J"⟩
abbrev cX10_show : ByteArray := prog_12_method_19_code
def yX10_show : MethodName := ⟨RX10, "show", "(II)I"⟩
abbrev cX10_holds : ByteArray := prog_12_method_20_code
def yX10_holds : MethodName := ⟨RX10, "holds", "(I)I"⟩
abbrev cX10_desksIn : ByteArray := prog_12_method_21_code
def yX10_desksIn : MethodName := ⟨RX10, "desksIn", "(I)I"⟩
abbrev cX10_stay : ByteArray := prog_12_method_22_code
def yX10_stay : MethodName := ⟨RX10, "stay", "(IZ)I"⟩
abbrev cX10_mayGive : ByteArray := prog_12_method_23_code
def yX10_mayGive : MethodName := ⟨RX10, "mayGive", "(II)Z"⟩
abbrev cX10_give : ByteArray := prog_12_method_24_code
def yX10_give : MethodName := ⟨RX10, "give", "(II)I"⟩
abbrev cX10_gives : ByteArray := prog_12_method_25_code
def yX10_gives : MethodName := ⟨RX10, "gives", "(I)I"⟩
abbrev cX10_isOver : ByteArray := prog_12_method_26_code
def yX10_isOver : MethodName := ⟨RX10, "isOver", "([III)Z"⟩
abbrev cX10_isLegal : ByteArray := prog_12_method_27_code
def yX10_isLegal : MethodName := ⟨RX10, "isLegal", "([II)Z"⟩
abbrev cX10_firstWrong : ByteArray := prog_12_method_28_code
def yX10_firstWrong : MethodName := ⟨RX10, "firstWrong", "([I)I"⟩
abbrev cX10_costOf : ByteArray := prog_12_method_29_code
def yX10_costOf : MethodName := ⟨RX10, "costOf", "([I)I"⟩
abbrev cX10_isFree : ByteArray := prog_12_method_30_code
def yX10_isFree : MethodName := ⟨RX10, "isFree", "(I)Z"⟩
abbrev cX10_bare : ByteArray := prog_12_method_31_code
def yX10_bare : MethodName := ⟨RX10, "bare", "()V"⟩
abbrev cX10_byRule : ByteArray := prog_12_method_32_code
def yX10_byRule : MethodName := ⟨RX10, "byRule", "()Z"⟩
abbrev cX10_bySwaps : ByteArray := prog_12_method_33_code
def yX10_bySwaps : MethodName := ⟨RX10, "bySwaps", "()Z"⟩
abbrev cX10_swap : ByteArray := prog_12_method_34_code
def yX10_swap : MethodName := ⟨RX10, "swap", "(II)V"⟩
abbrev cX10_byAll : ByteArray := prog_12_method_35_code
def yX10_byAll : MethodName := ⟨RX10, "byAll", "(Z)Z"⟩
abbrev cX10_others : ByteArray := prog_12_method_36_code
def yX10_others : MethodName := ⟨RX10, "others", "(IZ)I"⟩
abbrev cX10_hopes : ByteArray := prog_12_method_37_code
def yX10_hopes : MethodName := ⟨RX10, "hopes", "(IZII)Z"⟩
abbrev cX10_isOpen : ByteArray := prog_12_method_38_code
def yX10_isOpen : MethodName := ⟨RX10, "isOpen", "(II)Z"⟩
abbrev cX10_freeOnes : ByteArray := prog_12_method_39_code
def yX10_freeOnes : MethodName := ⟨RX10, "freeOnes", "()I"⟩
abbrev cX10_plan : ByteArray := prog_12_method_40_code
def yX10_plan : MethodName := ⟨RX10, "plan", "(I)I"⟩
abbrev cX10_wave : ByteArray := prog_12_method_41_code
def yX10_wave : MethodName := ⟨RX10, "wave", "(I)I"⟩
abbrev cX10_cut : ByteArray := prog_12_method_42_code
def yX10_cut : MethodName := ⟨RX10, "cut", "(I)I"⟩
abbrev cX10_cost : ByteArray := prog_12_method_43_code
def yX10_cost : MethodName := ⟨RX10, "cost", "()I"⟩
abbrev cX10_legal : ByteArray := prog_12_method_44_code
def yX10_legal : MethodName := ⟨RX10, "legal", "()I"⟩
abbrev cX10_begin : ByteArray := prog_12_method_45_code
def yX10_begin : MethodName := ⟨RX10, "begin", "()I"⟩
abbrev cX10_readyBy : ByteArray := prog_12_method_46_code
def yX10_readyBy : MethodName := ⟨RX10, "readyBy", "([II)I"⟩
abbrev cX10_chooses : ByteArray := prog_12_method_47_code
def yX10_chooses : MethodName := ⟨RX10, "chooses", "(II)I"⟩
abbrev cX10_next : ByteArray := prog_12_method_48_code
def yX10_next : MethodName := ⟨RX10, "next", "()I"⟩
abbrev cX10_people : ByteArray := prog_12_method_49_code
def yX10_people : MethodName := ⟨RX10, "people", "(II)I"⟩
abbrev cX10_town : ByteArray := prog_12_method_50_code
def yX10_town : MethodName := ⟨RX10, "town", "(I)I"⟩
abbrev cX10_isEnd : ByteArray := prog_12_method_51_code
def yX10_isEnd : MethodName := ⟨RX10, "isEnd", "(I)Z"⟩
abbrev cX10_letter : ByteArray := prog_12_method_52_code
def yX10_letter : MethodName := ⟨RX10, "letter", "(I)I"⟩
abbrev cX10_is : ByteArray := prog_12_method_53_code
def yX10_is : MethodName := ⟨RX10, "is", "(II)Z"⟩
abbrev cX10_number : ByteArray := prog_12_method_54_code
def yX10_number : MethodName := ⟨RX10, "number", "(II)I"⟩
abbrev cX10_law : ByteArray := prog_12_method_55_code
def yX10_law : MethodName := ⟨RX10, "law", "(I)I"⟩
abbrev cX10_fault : ByteArray := prog_12_method_56_code
def yX10_fault : MethodName := ⟨RX10, "fault", "()I"⟩
abbrev cX10_vote : ByteArray := prog_12_method_57_code
def yX10_vote : MethodName := ⟨RX10, "vote", "(IIIII)I"⟩
abbrev cX10_payOf : ByteArray := prog_12_method_58_code
def yX10_payOf : MethodName := ⟨RX10, "payOf", "(II)I"⟩
abbrev cX10_pay : ByteArray := prog_12_method_59_code
def yX10_pay : MethodName := ⟨RX10, "pay", "(II)I"⟩
abbrev cX10_embassy : ByteArray := prog_12_method_60_code
def yX10_embassy : MethodName := ⟨RX10, "embassy", "(I)I"⟩
abbrev cX10_palace : ByteArray := prog_12_method_61_code
def yX10_palace : MethodName := ⟨RX10, "palace", "(I)I"⟩
abbrev cX10_size : ByteArray := prog_12_method_62_code
def yX10_size : MethodName := ⟨RX10, "size", "(I)I"⟩
abbrev cX10_plot : ByteArray := prog_12_method_63_code
def yX10_plot : MethodName := ⟨RX10, "plot", "(I)I"⟩
abbrev cX10_file : ByteArray := prog_12_method_64_code
def yX10_file : MethodName := ⟨RX10, "file", "(I)I"⟩
abbrev cX10_road : ByteArray := prog_12_method_65_code
def yX10_road : MethodName := ⟨RX10, "road", "(I)I"⟩
abbrev cX10_days : ByteArray := prog_12_method_66_code
def yX10_days : MethodName := ⟨RX10, "days", "(II)I"⟩
abbrev cX10_status : ByteArray := prog_12_method_67_code
def yX10_status : MethodName := ⟨RX10, "status", "(I)I"⟩
def RJ9 : String := "java/lang/Math"
def TJ9 : u_T := fun k => match k with
  | _ => ("", "", "", false)
def tyJ9 : Nat → FieldType := fun k => match k with
  | _ => .int
theorem nmJ9 : ∀ a, a < 0 → ∀ b, b < 0 → a ≠ b → (TJ9 a).2.1 ≠ (TJ9 b).2.1 := by decide +kernel
theorem tyJ9_ok : ∀ k, k < 0 → parseFieldDescriptor (TJ9 k).2.2.1 = some (tyJ9 k) := by decide +kernel
abbrev cJ9_abs_0f7a4 : ByteArray := prog_13_method_59_code
def yJ9_abs_0f7a4 : MethodName := ⟨RJ9, "abs", "(I)I"⟩
abbrev cJ9_max_7cf53 : ByteArray := prog_13_method_65_code
def yJ9_max_7cf53 : MethodName := ⟨RJ9, "max", "(II)I"⟩
abbrev cJ9_min_7cf53 : ByteArray := prog_13_method_69_code
def yJ9_min_7cf53 : MethodName := ⟨RJ9, "min", "(II)I"⟩
def RJ10 : String := "java/lang/System"
def TJ10 : u_T := fun k => match k with
  | _ => ("", "", "", false)
def tyJ10 : Nat → FieldType := fun k => match k with
  | _ => .int
theorem nmJ10 : ∀ a, a < 0 → ∀ b, b < 0 → a ≠ b → (TJ10 a).2.1 ≠ (TJ10 b).2.1 := by decide +kernel
theorem tyJ10_ok : ∀ k, k < 0 → parseFieldDescriptor (TJ10 k).2.2.1 = some (tyJ10 k) := by decide +kernel
def RL : String := "CapitalMovedLaw"
abbrev cL_law : ByteArray := code
def yL_law : MethodName := ⟨RL, "law", "([I)Z"⟩
abbrev vwCl : List vw_C := [(RX0, TX0, 3), (RX1, TX1, 2), (RX2, TX2, 11), (RX3, TX3, 9), (RX4, TX4, 11), (RX5, TX5, 7), (RX6, TX6, 10), (RX7, TX7, 3), (RX8, TX8, 5), (RX9, TX9, 11), (RX10, TX10, 51)]
