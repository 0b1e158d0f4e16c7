section
/-- a private method of a class that the tables say can be made, by its rows of tables_1 -/
def lw_okq (q : MethodName × Nat) : Prop := (q.1.cls ≠ "java/lang/invoke/MethodHandle" ∧ q.1.cls ≠ "java/lang/invoke/VarHandle") ∧ Cond.instantiable q.1.cls q.2 ∈ tables_1 ∧ Cond.privateMethod q.1 ∈ tables_1 ∧ Cond.instanceMethod q.1 ∈ tables_1
theorem lw_p0 : lw_okq (⟨"InscribedStones$Readings", "index", "(IIII)I"⟩, 3) := ⟨⟨by decide +kernel, by decide +kernel⟩, List.mem_of_getElem? (i := 45) (by decide +kernel), List.mem_of_getElem? (i := 350) (by decide +kernel), List.mem_of_getElem? (i := 351) (by decide +kernel)⟩
theorem lw_p1 : lw_okq (⟨"InscribedStones$FormulaMaker", "startLevel", "(IZ)V"⟩, 10) := ⟨⟨by decide +kernel, by decide +kernel⟩, List.mem_of_getElem? (i := 75) (by decide +kernel), List.mem_of_getElem? (i := 403) (by decide +kernel), List.mem_of_getElem? (i := 404) (by decide +kernel)⟩
theorem lw_p2 : lw_okq (⟨"InscribedStones$FormulaMaker", "startRow", "()V"⟩, 10) := ⟨⟨by decide +kernel, by decide +kernel⟩, List.mem_of_getElem? (i := 75) (by decide +kernel), List.mem_of_getElem? (i := 411) (by decide +kernel), List.mem_of_getElem? (i := 412) (by decide +kernel)⟩
theorem lw_p3 : lw_okq (⟨"InscribedStones$FormulaMaker", "takeWord", "(LInscribedStones$Tape;II)Z"⟩, 10) := ⟨⟨by decide +kernel, by decide +kernel⟩, List.mem_of_getElem? (i := 75) (by decide +kernel), List.mem_of_getElem? (i := 446) (by decide +kernel), List.mem_of_getElem? (i := 447) (by decide +kernel)⟩
theorem lw_p4 : lw_okq (⟨"InscribedStones$FormulaMaker", "takeMark", "(I)Z"⟩, 10) := ⟨⟨by decide +kernel, by decide +kernel⟩, List.mem_of_getElem? (i := 75) (by decide +kernel), List.mem_of_getElem? (i := 456) (by decide +kernel), List.mem_of_getElem? (i := 457) (by decide +kernel)⟩
theorem lw_p5 : lw_okq (⟨"InscribedStones$FormulaMaker", "open", "(Z)Z"⟩, 10) := ⟨⟨by decide +kernel, by decide +kernel⟩, List.mem_of_getElem? (i := 75) (by decide +kernel), List.mem_of_getElem? (i := 460) (by decide +kernel), List.mem_of_getElem? (i := 461) (by decide +kernel)⟩
theorem lw_p6 : lw_okq (⟨"InscribedStones$FormulaMaker", "close", "(Z)Z"⟩, 10) := ⟨⟨by decide +kernel, by decide +kernel⟩, List.mem_of_getElem? (i := 75) (by decide +kernel), List.mem_of_getElem? (i := 464) (by decide +kernel), List.mem_of_getElem? (i := 465) (by decide +kernel)⟩
theorem lw_p7 : lw_okq (⟨"InscribedStones$FormulaMaker", "endRow", "()V"⟩, 10) := ⟨⟨by decide +kernel, by decide +kernel⟩, List.mem_of_getElem? (i := 75) (by decide +kernel), List.mem_of_getElem? (i := 468) (by decide +kernel), List.mem_of_getElem? (i := 469) (by decide +kernel)⟩
theorem lw_p8 : lw_okq (⟨"InscribedStones$FormulaMaker", "takeBar", "()Z"⟩, 10) := ⟨⟨by decide +kernel, by decide +kernel⟩, List.mem_of_getElem? (i := 75) (by decide +kernel), List.mem_of_getElem? (i := 477) (by decide +kernel), List.mem_of_getElem? (i := 478) (by decide +kernel)⟩
theorem lw_p9 : lw_okq (⟨"InscribedStones$FormulaMaker", "takePoint", "()Z"⟩, 10) := ⟨⟨by decide +kernel, by decide +kernel⟩, List.mem_of_getElem? (i := 75) (by decide +kernel), List.mem_of_getElem? (i := 481) (by decide +kernel), List.mem_of_getElem? (i := 482) (by decide +kernel)⟩
theorem lw_p10 : lw_okq (⟨"InscribedStones$FormulaMaker", "appendPiece", "()V"⟩, 10) := ⟨⟨by decide +kernel, by decide +kernel⟩, List.mem_of_getElem? (i := 75) (by decide +kernel), List.mem_of_getElem? (i := 485) (by decide +kernel), List.mem_of_getElem? (i := 486) (by decide +kernel)⟩
theorem lw_p11 : lw_okq (⟨"InscribedStones$TextSet", "addPair", "(JJJJ)Z"⟩, 2) := ⟨⟨by decide +kernel, by decide +kernel⟩, List.mem_of_getElem? (i := 82) (by decide +kernel), List.mem_of_getElem? (i := 493) (by decide +kernel), List.mem_of_getElem? (i := 494) (by decide +kernel)⟩
theorem lw_p12 : lw_okq (⟨"InscribedStones", "textsOf", "(I)LInscribedStones$TextSet;"⟩, 12) := ⟨⟨by decide +kernel, by decide +kernel⟩, List.mem_of_getElem? (i := 20) (by decide +kernel), List.mem_of_getElem? (i := 531) (by decide +kernel), List.mem_of_getElem? (i := 532) (by decide +kernel)⟩
theorem lw_p13 : lw_okq (⟨"InscribedStones", "layBare", "(II)V"⟩, 12) := ⟨⟨by decide +kernel, by decide +kernel⟩, List.mem_of_getElem? (i := 20) (by decide +kernel), List.mem_of_getElem? (i := 553) (by decide +kernel), List.mem_of_getElem? (i := 554) (by decide +kernel)⟩
theorem lw_p14 : lw_okq (⟨"InscribedStones", "layBareMore", "(II)Z"⟩, 12) := ⟨⟨by decide +kernel, by decide +kernel⟩, List.mem_of_getElem? (i := 20) (by decide +kernel), List.mem_of_getElem? (i := 561) (by decide +kernel), List.mem_of_getElem? (i := 562) (by decide +kernel)⟩
theorem lw_p15 : lw_okq (⟨"InscribedStones$Surface", "isWay", "(LInscribedStones$TextSet;I)Z"⟩, 3) := ⟨⟨by decide +kernel, by decide +kernel⟩, List.mem_of_getElem? (i := 135) (by decide +kernel), List.mem_of_getElem? (i := 578) (by decide +kernel), List.mem_of_getElem? (i := 579) (by decide +kernel)⟩
def lw_privs_1 : List (MethodName × Nat) := [(⟨"InscribedStones$Readings", "index", "(IIII)I"⟩, 3), (⟨"InscribedStones$FormulaMaker", "startLevel", "(IZ)V"⟩, 10), (⟨"InscribedStones$FormulaMaker", "startRow", "()V"⟩, 10), (⟨"InscribedStones$FormulaMaker", "takeWord", "(LInscribedStones$Tape;II)Z"⟩, 10), (⟨"InscribedStones$FormulaMaker", "takeMark", "(I)Z"⟩, 10), (⟨"InscribedStones$FormulaMaker", "open", "(Z)Z"⟩, 10), (⟨"InscribedStones$FormulaMaker", "close", "(Z)Z"⟩, 10), (⟨"InscribedStones$FormulaMaker", "endRow", "()V"⟩, 10), (⟨"InscribedStones$FormulaMaker", "takeBar", "()Z"⟩, 10), (⟨"InscribedStones$FormulaMaker", "takePoint", "()Z"⟩, 10), (⟨"InscribedStones$FormulaMaker", "appendPiece", "()V"⟩, 10), (⟨"InscribedStones$TextSet", "addPair", "(JJJJ)Z"⟩, 2), (⟨"InscribedStones", "textsOf", "(I)LInscribedStones$TextSet;"⟩, 12), (⟨"InscribedStones", "layBare", "(II)V"⟩, 12), (⟨"InscribedStones", "layBareMore", "(II)Z"⟩, 12), (⟨"InscribedStones$Surface", "isWay", "(LInscribedStones$TextSet;I)Z"⟩, 3)]
theorem lw_r1 : ∀ q ∈ lw_privs_1, lw_okq q := List.forall_mem_cons.mpr ⟨lw_p0, List.forall_mem_cons.mpr ⟨lw_p1, List.forall_mem_cons.mpr ⟨lw_p2, List.forall_mem_cons.mpr ⟨lw_p3, List.forall_mem_cons.mpr ⟨lw_p4, List.forall_mem_cons.mpr ⟨lw_p5, List.forall_mem_cons.mpr ⟨lw_p6, List.forall_mem_cons.mpr ⟨lw_p7, List.forall_mem_cons.mpr ⟨lw_p8, List.forall_mem_cons.mpr ⟨lw_p9, List.forall_mem_cons.mpr ⟨lw_p10, List.forall_mem_cons.mpr ⟨lw_p11, List.forall_mem_cons.mpr ⟨lw_p12, List.forall_mem_cons.mpr ⟨lw_p13, List.forall_mem_cons.mpr ⟨lw_p14, List.forall_mem_cons.mpr ⟨lw_p15, fun _ h => absurd h List.not_mem_nil⟩⟩⟩⟩⟩⟩⟩⟩⟩⟩⟩⟩⟩⟩⟩⟩
theorem lw_p16 : lw_okq (⟨"InscribedStones$Surface", "letterOn", "(LInscribedStones$TextSet;II)I"⟩, 3) := ⟨⟨by decide +kernel, by decide +kernel⟩, List.mem_of_getElem? (i := 135) (by decide +kernel), List.mem_of_getElem? (i := 583) (by decide +kernel), List.mem_of_getElem? (i := 584) (by decide +kernel)⟩
theorem lw_p17 : lw_okq (⟨"InscribedStones$Edges", "mark", "(III)I"⟩, 4) := ⟨⟨by decide +kernel, by decide +kernel⟩, List.mem_of_getElem? (i := 151) (by decide +kernel), List.mem_of_getElem? (i := 627) (by decide +kernel), List.mem_of_getElem? (i := 628) (by decide +kernel)⟩
theorem lw_p18 : lw_okq (⟨"InscribedStones$Edges", "setNeighbour", "(III)V"⟩, 4) := ⟨⟨by decide +kernel, by decide +kernel⟩, List.mem_of_getElem? (i := 151) (by decide +kernel), List.mem_of_getElem? (i := 640) (by decide +kernel), List.mem_of_getElem? (i := 641) (by decide +kernel)⟩
theorem lw_p19 : lw_okq (⟨"InscribedStones$Edges", "leadsTo", "(II)Z"⟩, 4) := ⟨⟨by decide +kernel, by decide +kernel⟩, List.mem_of_getElem? (i := 151) (by decide +kernel), List.mem_of_getElem? (i := 690) (by decide +kernel), List.mem_of_getElem? (i := 691) (by decide +kernel)⟩
theorem lw_p20 : lw_okq (⟨"InscribedStones$Dating", "settleBy", "(I)Z"⟩, 8) := ⟨⟨by decide +kernel, by decide +kernel⟩, List.mem_of_getElem? (i := 173) (by decide +kernel), List.mem_of_getElem? (i := 740) (by decide +kernel), List.mem_of_getElem? (i := 741) (by decide +kernel)⟩
theorem lw_p21 : lw_okq (⟨"InscribedStones$Dating", "tighten", "(I)Z"⟩, 8) := ⟨⟨by decide +kernel, by decide +kernel⟩, List.mem_of_getElem? (i := 173) (by decide +kernel), List.mem_of_getElem? (i := 744) (by decide +kernel), List.mem_of_getElem? (i := 745) (by decide +kernel)⟩
theorem lw_p22 : lw_okq (⟨"InscribedStones$People", "belongs", "(II)Z"⟩, 6) := ⟨⟨by decide +kernel, by decide +kernel⟩, List.mem_of_getElem? (i := 205) (by decide +kernel), List.mem_of_getElem? (i := 801) (by decide +kernel), List.mem_of_getElem? (i := 802) (by decide +kernel)⟩
theorem lw_p23 : lw_okq (⟨"InscribedStones$People", "isAhead", "(II)Z"⟩, 6) := ⟨⟨by decide +kernel, by decide +kernel⟩, List.mem_of_getElem? (i := 205) (by decide +kernel), List.mem_of_getElem? (i := 819) (by decide +kernel), List.mem_of_getElem? (i := 820) (by decide +kernel)⟩
theorem lw_p24 : lw_okq (⟨"InscribedStones", "isFormulaOrNone", "(I)Z"⟩, 12) := ⟨⟨by decide +kernel, by decide +kernel⟩, List.mem_of_getElem? (i := 20) (by decide +kernel), List.mem_of_getElem? (i := 827) (by decide +kernel), List.mem_of_getElem? (i := 828) (by decide +kernel)⟩
theorem lw_p25 : lw_okq (⟨"InscribedStones", "setPage", "(III)V"⟩, 12) := ⟨⟨by decide +kernel, by decide +kernel⟩, List.mem_of_getElem? (i := 20) (by decide +kernel), List.mem_of_getElem? (i := 831) (by decide +kernel), List.mem_of_getElem? (i := 832) (by decide +kernel)⟩
theorem lw_p26 : lw_okq (⟨"InscribedStones$Page", "put", "(I)V"⟩, 3) := ⟨⟨by decide +kernel, by decide +kernel⟩, List.mem_of_getElem? (i := 230) (by decide +kernel), List.mem_of_getElem? (i := 850) (by decide +kernel), List.mem_of_getElem? (i := 851) (by decide +kernel)⟩
theorem lw_p27 : lw_okq (⟨"InscribedStones$Page", "enclose", "(III)V"⟩, 3) := ⟨⟨by decide +kernel, by decide +kernel⟩, List.mem_of_getElem? (i := 230) (by decide +kernel), List.mem_of_getElem? (i := 854) (by decide +kernel), List.mem_of_getElem? (i := 855) (by decide +kernel)⟩
theorem lw_p28 : lw_okq (⟨"InscribedStones$Trays", "sizeOf", "(I)I"⟩, 2) := ⟨⟨by decide +kernel, by decide +kernel⟩, List.mem_of_getElem? (i := 246) (by decide +kernel), List.mem_of_getElem? (i := 944) (by decide +kernel), List.mem_of_getElem? (i := 945) (by decide +kernel)⟩
theorem lw_p29 : lw_okq (⟨"InscribedStonesModel", "isPlace", "(III)Z"⟩, 44) := ⟨⟨by decide +kernel, by decide +kernel⟩, List.mem_of_getElem? (i := 970) (by decide +kernel), List.mem_of_getElem? (i := 1126) (by decide +kernel), List.mem_of_getElem? (i := 1127) (by decide +kernel)⟩
theorem lw_p30 : lw_okq (⟨"InscribedStonesModel", "isLine", "(II)Z"⟩, 44) := ⟨⟨by decide +kernel, by decide +kernel⟩, List.mem_of_getElem? (i := 970) (by decide +kernel), List.mem_of_getElem? (i := 1130) (by decide +kernel), List.mem_of_getElem? (i := 1131) (by decide +kernel)⟩
theorem lw_p31 : lw_okq (⟨"InscribedStonesModel", "isStone", "(I)Z"⟩, 44) := ⟨⟨by decide +kernel, by decide +kernel⟩, List.mem_of_getElem? (i := 970) (by decide +kernel), List.mem_of_getElem? (i := 1134) (by decide +kernel), List.mem_of_getElem? (i := 1135) (by decide +kernel)⟩
def lw_privs_2 : List (MethodName × Nat) := [(⟨"InscribedStones$Surface", "letterOn", "(LInscribedStones$TextSet;II)I"⟩, 3), (⟨"InscribedStones$Edges", "mark", "(III)I"⟩, 4), (⟨"InscribedStones$Edges", "setNeighbour", "(III)V"⟩, 4), (⟨"InscribedStones$Edges", "leadsTo", "(II)Z"⟩, 4), (⟨"InscribedStones$Dating", "settleBy", "(I)Z"⟩, 8), (⟨"InscribedStones$Dating", "tighten", "(I)Z"⟩, 8), (⟨"InscribedStones$People", "belongs", "(II)Z"⟩, 6), (⟨"InscribedStones$People", "isAhead", "(II)Z"⟩, 6), (⟨"InscribedStones", "isFormulaOrNone", "(I)Z"⟩, 12), (⟨"InscribedStones", "setPage", "(III)V"⟩, 12), (⟨"InscribedStones$Page", "put", "(I)V"⟩, 3), (⟨"InscribedStones$Page", "enclose", "(III)V"⟩, 3), (⟨"InscribedStones$Trays", "sizeOf", "(I)I"⟩, 2), (⟨"InscribedStonesModel", "isPlace", "(III)Z"⟩, 44), (⟨"InscribedStonesModel", "isLine", "(II)Z"⟩, 44), (⟨"InscribedStonesModel", "isStone", "(I)Z"⟩, 44)]
theorem lw_r2 : ∀ q ∈ lw_privs_2, lw_okq q := List.forall_mem_cons.mpr ⟨lw_p16, List.forall_mem_cons.mpr ⟨lw_p17, List.forall_mem_cons.mpr ⟨lw_p18, List.forall_mem_cons.mpr ⟨lw_p19, List.forall_mem_cons.mpr ⟨lw_p20, List.forall_mem_cons.mpr ⟨lw_p21, List.forall_mem_cons.mpr ⟨lw_p22, List.forall_mem_cons.mpr ⟨lw_p23, List.forall_mem_cons.mpr ⟨lw_p24, List.forall_mem_cons.mpr ⟨lw_p25, List.forall_mem_cons.mpr ⟨lw_p26, List.forall_mem_cons.mpr ⟨lw_p27, List.forall_mem_cons.mpr ⟨lw_p28, List.forall_mem_cons.mpr ⟨lw_p29, List.forall_mem_cons.mpr ⟨lw_p30, List.forall_mem_cons.mpr ⟨lw_p31, fun _ h => absurd h List.not_mem_nil⟩⟩⟩⟩⟩⟩⟩⟩⟩⟩⟩⟩⟩⟩⟩⟩
theorem lw_p32 : lw_okq (⟨"InscribedStonesModel", "reads", "(IIIIII)V"⟩, 44) := ⟨⟨by decide +kernel, by decide +kernel⟩, List.mem_of_getElem? (i := 970) (by decide +kernel), List.mem_of_getElem? (i := 1139) (by decide +kernel), List.mem_of_getElem? (i := 1140) (by decide +kernel)⟩
theorem lw_p33 : lw_okq (⟨"InscribedStonesModel", "kindOf", "(III)I"⟩, 44) := ⟨⟨by decide +kernel, by decide +kernel⟩, List.mem_of_getElem? (i := 970) (by decide +kernel), List.mem_of_getElem? (i := 1154) (by decide +kernel), List.mem_of_getElem? (i := 1155) (by decide +kernel)⟩
theorem lw_p34 : lw_okq (⟨"InscribedStonesModel", "handOf", "(III)I"⟩, 44) := ⟨⟨by decide +kernel, by decide +kernel⟩, List.mem_of_getElem? (i := 970) (by decide +kernel), List.mem_of_getElem? (i := 1158) (by decide +kernel), List.mem_of_getElem? (i := 1159) (by decide +kernel)⟩
theorem lw_p35 : lw_okq (⟨"InscribedStonesModel", "mayOf", "(III)I"⟩, 44) := ⟨⟨by decide +kernel, by decide +kernel⟩, List.mem_of_getElem? (i := 970) (by decide +kernel), List.mem_of_getElem? (i := 1162) (by decide +kernel), List.mem_of_getElem? (i := 1163) (by decide +kernel)⟩
theorem lw_p36 : lw_okq (⟨"InscribedStonesModel", "token", "()V"⟩, 44) := ⟨⟨by decide +kernel, by decide +kernel⟩, List.mem_of_getElem? (i := 970) (by decide +kernel), List.mem_of_getElem? (i := 1174) (by decide +kernel), List.mem_of_getElem? (i := 1175) (by decide +kernel)⟩
theorem lw_p37 : lw_okq (⟨"InscribedStonesModel", "all", "(I)V"⟩, 44) := ⟨⟨by decide +kernel, by decide +kernel⟩, List.mem_of_getElem? (i := 970) (by decide +kernel), List.mem_of_getElem? (i := 1181) (by decide +kernel), List.mem_of_getElem? (i := 1182) (by decide +kernel)⟩
theorem lw_p38 : lw_okq (⟨"InscribedStonesModel", "row", "(I)V"⟩, 44) := ⟨⟨by decide +kernel, by decide +kernel⟩, List.mem_of_getElem? (i := 970) (by decide +kernel), List.mem_of_getElem? (i := 1185) (by decide +kernel), List.mem_of_getElem? (i := 1186) (by decide +kernel)⟩
theorem lw_p39 : lw_okq (⟨"InscribedStonesModel", "piece", "(I)V"⟩, 44) := ⟨⟨by decide +kernel, by decide +kernel⟩, List.mem_of_getElem? (i := 970) (by decide +kernel), List.mem_of_getElem? (i := 1189) (by decide +kernel), List.mem_of_getElem? (i := 1190) (by decide +kernel)⟩
theorem lw_p40 : lw_okq (⟨"InscribedStonesModel", "faults", "()V"⟩, 44) := ⟨⟨by decide +kernel, by decide +kernel⟩, List.mem_of_getElem? (i := 970) (by decide +kernel), List.mem_of_getElem? (i := 1193) (by decide +kernel), List.mem_of_getElem? (i := 1194) (by decide +kernel)⟩
theorem lw_p41 : lw_okq (⟨"InscribedStonesModel", "keeps", "(I)V"⟩, 44) := ⟨⟨by decide +kernel, by decide +kernel⟩, List.mem_of_getElem? (i := 970) (by decide +kernel), List.mem_of_getElem? (i := 1197) (by decide +kernel), List.mem_of_getElem? (i := 1198) (by decide +kernel)⟩
theorem lw_p42 : lw_okq (⟨"InscribedStonesModel", "isAlike", "(II)Z"⟩, 44) := ⟨⟨by decide +kernel, by decide +kernel⟩, List.mem_of_getElem? (i := 970) (by decide +kernel), List.mem_of_getElem? (i := 1201) (by decide +kernel), List.mem_of_getElem? (i := 1202) (by decide +kernel)⟩
theorem lw_p43 : lw_okq (⟨"InscribedStonesModel", "joins", "(II)V"⟩, 44) := ⟨⟨by decide +kernel, by decide +kernel⟩, List.mem_of_getElem? (i := 970) (by decide +kernel), List.mem_of_getElem? (i := 1205) (by decide +kernel), List.mem_of_getElem? (i := 1206) (by decide +kernel)⟩
theorem lw_p44 : lw_okq (⟨"InscribedStonesModel", "copies", "(II)V"⟩, 44) := ⟨⟨by decide +kernel, by decide +kernel⟩, List.mem_of_getElem? (i := 970) (by decide +kernel), List.mem_of_getElem? (i := 1209) (by decide +kernel), List.mem_of_getElem? (i := 1210) (by decide +kernel)⟩
theorem lw_p45 : lw_okq (⟨"InscribedStonesModel", "isAhead", "(II)Z"⟩, 44) := ⟨⟨by decide +kernel, by decide +kernel⟩, List.mem_of_getElem? (i := 970) (by decide +kernel), List.mem_of_getElem? (i := 1213) (by decide +kernel), List.mem_of_getElem? (i := 1214) (by decide +kernel)⟩
theorem lw_p46 : lw_okq (⟨"InscribedStonesModel", "isFormula", "(I)Z"⟩, 44) := ⟨⟨by decide +kernel, by decide +kernel⟩, List.mem_of_getElem? (i := 970) (by decide +kernel), List.mem_of_getElem? (i := 1222) (by decide +kernel), List.mem_of_getElem? (i := 1223) (by decide +kernel)⟩
theorem lw_p47 : lw_okq (⟨"InscribedStonesModel", "waysOf", "(IIIZ)I"⟩, 44) := ⟨⟨by decide +kernel, by decide +kernel⟩, List.mem_of_getElem? (i := 970) (by decide +kernel), List.mem_of_getElem? (i := 1237) (by decide +kernel), List.mem_of_getElem? (i := 1238) (by decide +kernel)⟩
def lw_privs_3 : List (MethodName × Nat) := [(⟨"InscribedStonesModel", "reads", "(IIIIII)V"⟩, 44), (⟨"InscribedStonesModel", "kindOf", "(III)I"⟩, 44), (⟨"InscribedStonesModel", "handOf", "(III)I"⟩, 44), (⟨"InscribedStonesModel", "mayOf", "(III)I"⟩, 44), (⟨"InscribedStonesModel", "token", "()V"⟩, 44), (⟨"InscribedStonesModel", "all", "(I)V"⟩, 44), (⟨"InscribedStonesModel", "row", "(I)V"⟩, 44), (⟨"InscribedStonesModel", "piece", "(I)V"⟩, 44), (⟨"InscribedStonesModel", "faults", "()V"⟩, 44), (⟨"InscribedStonesModel", "keeps", "(I)V"⟩, 44), (⟨"InscribedStonesModel", "isAlike", "(II)Z"⟩, 44), (⟨"InscribedStonesModel", "joins", "(II)V"⟩, 44), (⟨"InscribedStonesModel", "copies", "(II)V"⟩, 44), (⟨"InscribedStonesModel", "isAhead", "(II)Z"⟩, 44), (⟨"InscribedStonesModel", "isFormula", "(I)Z"⟩, 44), (⟨"InscribedStonesModel", "waysOf", "(IIIZ)I"⟩, 44)]
theorem lw_r3 : ∀ q ∈ lw_privs_3, lw_okq q := List.forall_mem_cons.mpr ⟨lw_p32, List.forall_mem_cons.mpr ⟨lw_p33, List.forall_mem_cons.mpr ⟨lw_p34, List.forall_mem_cons.mpr ⟨lw_p35, List.forall_mem_cons.mpr ⟨lw_p36, List.forall_mem_cons.mpr ⟨lw_p37, List.forall_mem_cons.mpr ⟨lw_p38, List.forall_mem_cons.mpr ⟨lw_p39, List.forall_mem_cons.mpr ⟨lw_p40, List.forall_mem_cons.mpr ⟨lw_p41, List.forall_mem_cons.mpr ⟨lw_p42, List.forall_mem_cons.mpr ⟨lw_p43, List.forall_mem_cons.mpr ⟨lw_p44, List.forall_mem_cons.mpr ⟨lw_p45, List.forall_mem_cons.mpr ⟨lw_p46, List.forall_mem_cons.mpr ⟨lw_p47, fun _ h => absurd h List.not_mem_nil⟩⟩⟩⟩⟩⟩⟩⟩⟩⟩⟩⟩⟩⟩⟩⟩
theorem lw_p48 : lw_okq (⟨"InscribedStonesModel", "goes", "(IIIZ)Z"⟩, 44) := ⟨⟨by decide +kernel, by decide +kernel⟩, List.mem_of_getElem? (i := 970) (by decide +kernel), List.mem_of_getElem? (i := 1241) (by decide +kernel), List.mem_of_getElem? (i := 1242) (by decide +kernel)⟩
theorem lw_p49 : lw_okq (⟨"InscribedStonesModel", "letterAt", "(II)I"⟩, 44) := ⟨⟨by decide +kernel, by decide +kernel⟩, List.mem_of_getElem? (i := 970) (by decide +kernel), List.mem_of_getElem? (i := 1245) (by decide +kernel), List.mem_of_getElem? (i := 1246) (by decide +kernel)⟩
theorem lw_p50 : lw_okq (⟨"InscribedStonesModel", "carriedOf", "(IIII)I"⟩, 44) := ⟨⟨by decide +kernel, by decide +kernel⟩, List.mem_of_getElem? (i := 970) (by decide +kernel), List.mem_of_getElem? (i := 1257) (by decide +kernel), List.mem_of_getElem? (i := 1258) (by decide +kernel)⟩
theorem lw_p51 : lw_okq (⟨"InscribedStonesModel", "parts", "(I)V"⟩, 44) := ⟨⟨by decide +kernel, by decide +kernel⟩, List.mem_of_getElem? (i := 970) (by decide +kernel), List.mem_of_getElem? (i := 1272) (by decide +kernel), List.mem_of_getElem? (i := 1273) (by decide +kernel)⟩
theorem lw_p52 : lw_okq (⟨"InscribedStonesModel", "roomOf", "(II)I"⟩, 44) := ⟨⟨by decide +kernel, by decide +kernel⟩, List.mem_of_getElem? (i := 970) (by decide +kernel), List.mem_of_getElem? (i := 1284) (by decide +kernel), List.mem_of_getElem? (i := 1285) (by decide +kernel)⟩
theorem lw_p53 : lw_okq (⟨"InscribedStonesModel", "bestOf", "(II)I"⟩, 44) := ⟨⟨by decide +kernel, by decide +kernel⟩, List.mem_of_getElem? (i := 970) (by decide +kernel), List.mem_of_getElem? (i := 1293) (by decide +kernel), List.mem_of_getElem? (i := 1294) (by decide +kernel)⟩
theorem lw_p54 : lw_okq (⟨"InscribedStonesModel", "clashAll", "()Z"⟩, 44) := ⟨⟨by decide +kernel, by decide +kernel⟩, List.mem_of_getElem? (i := 970) (by decide +kernel), List.mem_of_getElem? (i := 1329) (by decide +kernel), List.mem_of_getElem? (i := 1330) (by decide +kernel)⟩
theorem lw_p55 : lw_okq (⟨"InscribedStonesModel", "clashes", "(I)Z"⟩, 44) := ⟨⟨by decide +kernel, by decide +kernel⟩, List.mem_of_getElem? (i := 970) (by decide +kernel), List.mem_of_getElem? (i := 1333) (by decide +kernel), List.mem_of_getElem? (i := 1334) (by decide +kernel)⟩
theorem lw_p56 : lw_okq (⟨"InscribedStonesModel", "isPerson", "(I)Z"⟩, 44) := ⟨⟨by decide +kernel, by decide +kernel⟩, List.mem_of_getElem? (i := 970) (by decide +kernel), List.mem_of_getElem? (i := 1354) (by decide +kernel), List.mem_of_getElem? (i := 1355) (by decide +kernel)⟩
theorem lw_p57 : lw_okq (⟨"InscribedStonesModel", "mayBeOne", "(II)Z"⟩, 44) := ⟨⟨by decide +kernel, by decide +kernel⟩, List.mem_of_getElem? (i := 970) (by decide +kernel), List.mem_of_getElem? (i := 1358) (by decide +kernel), List.mem_of_getElem? (i := 1359) (by decide +kernel)⟩
theorem lw_p58 : lw_okq (⟨"InscribedStonesModel", "findGroups", "()I"⟩, 44) := ⟨⟨by decide +kernel, by decide +kernel⟩, List.mem_of_getElem? (i := 970) (by decide +kernel), List.mem_of_getElem? (i := 1366) (by decide +kernel), List.mem_of_getElem? (i := 1367) (by decide +kernel)⟩
theorem lw_p59 : lw_okq (⟨"InscribedStonesModel", "joinsGroup", "(IIZ)Z"⟩, 44) := ⟨⟨by decide +kernel, by decide +kernel⟩, List.mem_of_getElem? (i := 970) (by decide +kernel), List.mem_of_getElem? (i := 1370) (by decide +kernel), List.mem_of_getElem? (i := 1371) (by decide +kernel)⟩
theorem lw_p60 : lw_okq (⟨"InscribedStonesModel", "prints", "(III)I"⟩, 44) := ⟨⟨by decide +kernel, by decide +kernel⟩, List.mem_of_getElem? (i := 970) (by decide +kernel), List.mem_of_getElem? (i := 1383) (by decide +kernel), List.mem_of_getElem? (i := 1384) (by decide +kernel)⟩
theorem lw_p61 : lw_okq (⟨"InscribedStonesModel", "backs", "(I)I"⟩, 44) := ⟨⟨by decide +kernel, by decide +kernel⟩, List.mem_of_getElem? (i := 970) (by decide +kernel), List.mem_of_getElem? (i := 1395) (by decide +kernel), List.mem_of_getElem? (i := 1396) (by decide +kernel)⟩
def lw_privs_4 : List (MethodName × Nat) := [(⟨"InscribedStonesModel", "goes", "(IIIZ)Z"⟩, 44), (⟨"InscribedStonesModel", "letterAt", "(II)I"⟩, 44), (⟨"InscribedStonesModel", "carriedOf", "(IIII)I"⟩, 44), (⟨"InscribedStonesModel", "parts", "(I)V"⟩, 44), (⟨"InscribedStonesModel", "roomOf", "(II)I"⟩, 44), (⟨"InscribedStonesModel", "bestOf", "(II)I"⟩, 44), (⟨"InscribedStonesModel", "clashAll", "()Z"⟩, 44), (⟨"InscribedStonesModel", "clashes", "(I)Z"⟩, 44), (⟨"InscribedStonesModel", "isPerson", "(I)Z"⟩, 44), (⟨"InscribedStonesModel", "mayBeOne", "(II)Z"⟩, 44), (⟨"InscribedStonesModel", "findGroups", "()I"⟩, 44), (⟨"InscribedStonesModel", "joinsGroup", "(IIZ)Z"⟩, 44), (⟨"InscribedStonesModel", "prints", "(III)I"⟩, 44), (⟨"InscribedStonesModel", "backs", "(I)I"⟩, 44)]
theorem lw_r4 : ∀ q ∈ lw_privs_4, lw_okq q := List.forall_mem_cons.mpr ⟨lw_p48, List.forall_mem_cons.mpr ⟨lw_p49, List.forall_mem_cons.mpr ⟨lw_p50, List.forall_mem_cons.mpr ⟨lw_p51, List.forall_mem_cons.mpr ⟨lw_p52, List.forall_mem_cons.mpr ⟨lw_p53, List.forall_mem_cons.mpr ⟨lw_p54, List.forall_mem_cons.mpr ⟨lw_p55, List.forall_mem_cons.mpr ⟨lw_p56, List.forall_mem_cons.mpr ⟨lw_p57, List.forall_mem_cons.mpr ⟨lw_p58, List.forall_mem_cons.mpr ⟨lw_p59, List.forall_mem_cons.mpr ⟨lw_p60, List.forall_mem_cons.mpr ⟨lw_p61, fun _ h => absurd h List.not_mem_nil⟩⟩⟩⟩⟩⟩⟩⟩⟩⟩⟩⟩⟩⟩
def lw_privs : List (MethodName × Nat) := lw_privs_1 ++ (lw_privs_2 ++ (lw_privs_3 ++ (lw_privs_4)))
def lw_tbl : List Cond := k2_sels lw_privs ++ tables_1
theorem lw_privs_ok : ∀ q ∈ lw_privs, lw_okq q := by
  show ∀ q ∈ lw_privs_1 ++ (lw_privs_2 ++ (lw_privs_3 ++ (lw_privs_4))), lw_okq q
  exact List.forall_mem_append.mpr ⟨lw_r1, List.forall_mem_append.mpr ⟨lw_r2, List.forall_mem_append.mpr ⟨lw_r3, lw_r4⟩⟩⟩
end
section
def RX0 : String := "InscribedStones$Dating"
def TX0 : u_T := fun k => match k with
  | 0 => ("InscribedStones$Dating", "least", "[I", true)
  | 1 => ("InscribedStones$Dating", "most", "[I", true)
  | 2 => ("InscribedStones$Dating", "early", "[I", true)
  | 3 => ("InscribedStones$Dating", "late", "[I", true)
  | 4 => ("InscribedStones$Dating", "before", "[I", true)
  | 5 => ("InscribedStones$Dating", "after", "[I", true)
  | 6 => ("InscribedStones$Dating", "apart", "[I", true)
  | _ => ("InscribedStones$Dating", "size", "I", false)
def tyX0 : Nat → FieldType := fun k => match k with
  | 0 => .array .int
  | 1 => .array .int
  | 2 => .array .int
  | 3 => .array .int
  | 4 => .array .int
  | 5 => .array .int
  | 6 => .array .int
  | _ => .int
abbrev wsX00 : List Cond := u_ws RX0 TX0 8
theorem nmX0 : ∀ a, a < 8 → ∀ b, b < 8 → a ≠ b → (TX0 a).2.1 ≠ (TX0 b).2.1 := by decide +kernel
theorem tyX0_ok : ∀ k, k < 8 → parseFieldDescriptor (TX0 k).2.2.1 = some (tyX0 k) := by decide +kernel
abbrev cX0_init : ByteArray := prog_2_method_1_code
def yX0_init : MethodName := ⟨RX0, "<init>", "()V"⟩
abbrev cX0_size : ByteArray := prog_2_method_2_code
def yX0_size : MethodName := ⟨RX0, "size", "()I"⟩
abbrev cX0_limit : ByteArray := prog_2_method_3_code
def yX0_limit : MethodName := ⟨RX0, "limit", "(III)V"⟩
abbrev cX0_put : ByteArray := prog_2_method_4_code
def yX0_put : MethodName := ⟨RX0, "put", "(III)I"⟩
abbrev cX0_drop : ByteArray := prog_2_method_5_code
def yX0_drop : MethodName := ⟨RX0, "drop", "()I"⟩
abbrev cX0_settle : ByteArray := prog_2_method_6_code
def yX0_settle : MethodName := ⟨RX0, "settle", "()Z"⟩
abbrev cX0_settleBy : ByteArray := prog_2_method_7_code
def yX0_settleBy : MethodName := ⟨RX0, "settleBy", "(I)Z"⟩
abbrev cX0_tighten : ByteArray := prog_2_method_8_code
def yX0_tighten : MethodName := ⟨RX0, "tighten", "(I)Z"⟩
abbrev cX0_earliest : ByteArray := prog_2_method_9_code
def yX0_earliest : MethodName := ⟨RX0, "earliest", "(I)I"⟩
abbrev cX0_latest : ByteArray := prog_2_method_10_code
def yX0_latest : MethodName := ⟨RX0, "latest", "(I)I"⟩
abbrev cX0_clashing : ByteArray := prog_2_method_11_code
def yX0_clashing : MethodName := ⟨RX0, "clashing", "()I"⟩
def RX1 : String := "InscribedStones$Edges"
def TX1 : u_T := fun k => match k with
  | 0 => ("InscribedStones$Edges", "stones", "LInscribedStones$Stones;", true)
  | 1 => ("InscribedStones$Edges", "marks", "[I", true)
  | 2 => ("InscribedStones$Edges", "neighbours", "[I", true)
  | _ => ("InscribedStones$Edges", "tolerance", "I", false)
def tyX1 : Nat → FieldType := fun k => match k with
  | 0 => .object "InscribedStones$Stones"
  | 1 => .array .int
  | 2 => .array .int
  | _ => .int
abbrev wsX10 : List Cond := u_ws RX1 TX1 4
theorem nmX1 : ∀ a, a < 4 → ∀ b, b < 4 → a ≠ b → (TX1 a).2.1 ≠ (TX1 b).2.1 := by decide +kernel
theorem tyX1_ok : ∀ k, k < 4 → parseFieldDescriptor (TX1 k).2.2.1 = some (tyX1 k) := by decide +kernel
abbrev cX1_init : ByteArray := prog_3_method_1_code
def yX1_init : MethodName := ⟨RX1, "<init>", "(LInscribedStones$Stones;)V"⟩
abbrev cX1_allowance : ByteArray := prog_3_method_2_code
def yX1_allowance : MethodName := ⟨RX1, "allowance", "()I"⟩
abbrev cX1_mark : ByteArray := prog_3_method_3_code
def yX1_mark : MethodName := ⟨RX1, "mark", "(III)I"⟩
abbrev cX1_neighbour : ByteArray := prog_3_method_4_code
def yX1_neighbour : MethodName := ⟨RX1, "neighbour", "(II)I"⟩
abbrev cX1_setNeighbour : ByteArray := prog_3_method_5_code
def yX1_setNeighbour : MethodName := ⟨RX1, "setNeighbour", "(III)V"⟩
abbrev cX1_tell : ByteArray := prog_3_method_6_code
def yX1_tell : MethodName := ⟨RX1, "tell", "(IIII)I"⟩
abbrev cX1_tellTolerance : ByteArray := prog_3_method_7_code
def yX1_tellTolerance : MethodName := ⟨RX1, "tellTolerance", "(I)I"⟩
abbrev cX1_sum : ByteArray := prog_3_method_8_code
def yX1_sum : MethodName := ⟨RX1, "sum", "(II)I"⟩
abbrev cX1_bestOf : ByteArray := prog_3_method_9_code
def yX1_bestOf : MethodName := ⟨RX1, "bestOf", "(II)I"⟩
abbrev cX1_tie : ByteArray := prog_3_method_10_code
def yX1_tie : MethodName := ⟨RX1, "tie", "(II)Z"⟩
abbrev cX1_leadsTo : ByteArray := prog_3_method_11_code
def yX1_leadsTo : MethodName := ⟨RX1, "leadsTo", "(II)Z"⟩
abbrev cX1_untieRight : ByteArray := prog_3_method_12_code
def yX1_untieRight : MethodName := ⟨RX1, "untieRight", "(I)Z"⟩
abbrev cX1_ties : ByteArray := prog_3_method_13_code
def yX1_ties : MethodName := ⟨RX1, "ties", "()I"⟩
def RX2 : String := "InscribedStones$FormulaMaker"
def TX2 : u_T := fun k => match k with
  | 0 => ("InscribedStones$FormulaMaker", "rows", "[LInscribedStones$TextSet;", true)
  | 1 => ("InscribedStones$FormulaMaker", "alls", "[LInscribedStones$TextSet;", true)
  | 2 => ("InscribedStones$FormulaMaker", "optional", "[Z", true)
  | 3 => ("InscribedStones$FormulaMaker", "word", "LInscribedStones$TextSet;", true)
  | 4 => ("InscribedStones$FormulaMaker", "spare", "LInscribedStones$TextSet;", false)
  | 5 => ("InscribedStones$FormulaMaker", "piece", "LInscribedStones$TextSet;", false)
  | 6 => ("InscribedStones$FormulaMaker", "level", "I", false)
  | 7 => ("InscribedStones$FormulaMaker", "begun", "Z", false)
  | 8 => ("InscribedStones$FormulaMaker", "ended", "Z", false)
  | _ => ("InscribedStones$FormulaMaker", "spent", "Z", false)
def tyX2 : Nat → FieldType := fun k => match k with
  | 0 => .array (.object "InscribedStones$TextSet")
  | 1 => .array (.object "InscribedStones$TextSet")
  | 2 => .array .boolean
  | 3 => .object "InscribedStones$TextSet"
  | 4 => .object "InscribedStones$TextSet"
  | 5 => .object "InscribedStones$TextSet"
  | 6 => .int
  | 7 => .boolean
  | 8 => .boolean
  | _ => .boolean
abbrev wsX20 : List Cond := u_ws RX2 TX2 10
theorem nmX2 : ∀ a, a < 10 → ∀ b, b < 10 → a ≠ b → (TX2 a).2.1 ≠ (TX2 b).2.1 := by decide +kernel
theorem tyX2_ok : ∀ k, k < 10 → parseFieldDescriptor (TX2 k).2.2.1 = some (tyX2 k) := by decide +kernel
abbrev cX2_init : ByteArray := prog_4_method_1_code
def yX2_init : MethodName := ⟨RX2, "<init>", "()V"⟩
abbrev cX2_make : ByteArray := prog_4_method_2_code
def yX2_make : MethodName := ⟨RX2, "make", "(LInscribedStones$Tape;)I"⟩
abbrev cX2_isSpent : ByteArray := prog_4_method_3_code
def yX2_isSpent : MethodName := ⟨RX2, "isSpent", "()Z"⟩
abbrev cX2_made : ByteArray := prog_4_method_4_code
def yX2_made : MethodName := ⟨RX2, "made", "()LInscribedStones$TextSet;"⟩
abbrev cX2_takeWord : ByteArray := prog_4_method_5_code
def yX2_takeWord : MethodName := ⟨RX2, "takeWord", "(LInscribedStones$Tape;II)Z"⟩
abbrev cX2_takeMark : ByteArray := prog_4_method_6_code
def yX2_takeMark : MethodName := ⟨RX2, "takeMark", "(I)Z"⟩
abbrev cX2_open : ByteArray := prog_4_method_7_code
def yX2_open : MethodName := ⟨RX2, "open", "(Z)Z"⟩
abbrev cX2_close : ByteArray := prog_4_method_8_code
def yX2_close : MethodName := ⟨RX2, "close", "(Z)Z"⟩
abbrev cX2_takeBar : ByteArray := prog_4_method_9_code
def yX2_takeBar : MethodName := ⟨RX2, "takeBar", "()Z"⟩
abbrev cX2_takePoint : ByteArray := prog_4_method_10_code
def yX2_takePoint : MethodName := ⟨RX2, "takePoint", "()Z"⟩
abbrev cX2_startLevel : ByteArray := prog_4_method_11_code
def yX2_startLevel : MethodName := ⟨RX2, "startLevel", "(IZ)V"⟩
abbrev cX2_startRow : ByteArray := prog_4_method_12_code
def yX2_startRow : MethodName := ⟨RX2, "startRow", "()V"⟩
abbrev cX2_appendPiece : ByteArray := prog_4_method_13_code
def yX2_appendPiece : MethodName := ⟨RX2, "appendPiece", "()V"⟩
abbrev cX2_endRow : ByteArray := prog_4_method_14_code
def yX2_endRow : MethodName := ⟨RX2, "endRow", "()V"⟩
def RX3 : String := "InscribedStones$Page"
def TX3 : u_T := fun k => match k with
  | 0 => ("InscribedStones$Page", "bytes", "[I", true)
  | 1 => ("InscribedStones$Page", "parsed", "[I", true)
  | _ => ("InscribedStones$Page", "size", "I", false)
def tyX3 : Nat → FieldType := fun k => match k with
  | 0 => .array .int
  | 1 => .array .int
  | _ => .int
abbrev wsX30 : List Cond := u_ws RX3 TX3 3
theorem nmX3 : ∀ a, a < 3 → ∀ b, b < 3 → a ≠ b → (TX3 a).2.1 ≠ (TX3 b).2.1 := by decide +kernel
theorem tyX3_ok : ∀ k, k < 3 → parseFieldDescriptor (TX3 k).2.2.1 = some (tyX3 k) := by decide +kernel
abbrev cX3_init : ByteArray := prog_5_method_1_code
def yX3_init : MethodName := ⟨RX3, "<init>", "()V"⟩
abbrev cX3_clear : ByteArray := prog_5_method_2_code
def yX3_clear : MethodName := ⟨RX3, "clear", "()V"⟩
abbrev cX3_size : ByteArray := prog_5_method_3_code
def yX3_size : MethodName := ⟨RX3, "size", "()I"⟩
abbrev cX3_byteAt : ByteArray := prog_5_method_4_code
def yX3_byteAt : MethodName := ⟨RX3, "byteAt", "(I)I"⟩
abbrev cX3_parsedAt : ByteArray := prog_5_method_5_code
def yX3_parsedAt : MethodName := ⟨RX3, "parsedAt", "(I)I"⟩
abbrev cX3_put : ByteArray := prog_5_method_6_code
def yX3_put : MethodName := ⟨RX3, "put", "(I)V"⟩
abbrev cX3_write : ByteArray := prog_5_method_7_code
def yX3_write : MethodName := ⟨RX3, "write", "(II)V"⟩
abbrev cX3_enclose : ByteArray := prog_5_method_8_code
def yX3_enclose : MethodName := ⟨RX3, "enclose", "(III)V"⟩
abbrev cX3_shown : ByteArray := prog_5_method_9_code
def yX3_shown : MethodName := ⟨RX3, "shown", "(I)I"⟩
abbrev cX3_letterShown : ByteArray := prog_5_method_10_code
def yX3_letterShown : MethodName := ⟨RX3, "letterShown", "(I)I"⟩
abbrev cX3_parse : ByteArray := prog_5_method_11_code
def yX3_parse : MethodName := ⟨RX3, "parse", "(LInscribedStones$Tape;I)I"⟩
abbrev cX3_bareReading : ByteArray := prog_5_method_12_code
def yX3_bareReading : MethodName := ⟨RX3, "bareReading", "(I)I"⟩
def RX4 : String := "InscribedStones$People"
def TX4 : u_T := fun k => match k with
  | 0 => ("InscribedStones$People", "dating", "LInscribedStones$Dating;", true)
  | 1 => ("InscribedStones$People", "names", "[J", true)
  | 2 => ("InscribedStones$People", "fathers", "[J", true)
  | 3 => ("InscribedStones$People", "stones", "[I", true)
  | 4 => ("InscribedStones$People", "groups", "[I", true)
  | _ => ("InscribedStones$People", "size", "I", false)
def tyX4 : Nat → FieldType := fun k => match k with
  | 0 => .object "InscribedStones$Dating"
  | 1 => .array .long
  | 2 => .array .long
  | 3 => .array .int
  | 4 => .array .int
  | _ => .int
abbrev wsX40 : List Cond := u_ws RX4 TX4 6
theorem nmX4 : ∀ a, a < 6 → ∀ b, b < 6 → a ≠ b → (TX4 a).2.1 ≠ (TX4 b).2.1 := by decide +kernel
theorem tyX4_ok : ∀ k, k < 6 → parseFieldDescriptor (TX4 k).2.2.1 = some (tyX4 k) := by decide +kernel
abbrev cX4_init : ByteArray := prog_6_method_1_code
def yX4_init : MethodName := ⟨RX4, "<init>", "(LInscribedStones$Dating;)V"⟩
abbrev cX4_isWord : ByteArray := prog_6_method_2_code
def yX4_isWord : MethodName := ⟨RX4, "isWord", "(J)Z"⟩
abbrev cX4_put : ByteArray := prog_6_method_3_code
def yX4_put : MethodName := ⟨RX4, "put", "(JJI)I"⟩
abbrev cX4_size : ByteArray := prog_6_method_4_code
def yX4_size : MethodName := ⟨RX4, "size", "()I"⟩
abbrev cX4_has : ByteArray := prog_6_method_5_code
def yX4_has : MethodName := ⟨RX4, "has", "(I)Z"⟩
abbrev cX4_mayBeOne : ByteArray := prog_6_method_6_code
def yX4_mayBeOne : MethodName := ⟨RX4, "mayBeOne", "(II)Z"⟩
abbrev cX4_sort : ByteArray := prog_6_method_7_code
def yX4_sort : MethodName := ⟨RX4, "sort", "()I"⟩
abbrev cX4_belongs : ByteArray := prog_6_method_8_code
def yX4_belongs : MethodName := ⟨RX4, "belongs", "(II)Z"⟩
abbrev cX4_groupOf : ByteArray := prog_6_method_9_code
def yX4_groupOf : MethodName := ⟨RX4, "groupOf", "(I)I"⟩
abbrev cX4_fatherOf : ByteArray := prog_6_method_10_code
def yX4_fatherOf : MethodName := ⟨RX4, "fatherOf", "(I)I"⟩
abbrev cX4_isAhead : ByteArray := prog_6_method_11_code
def yX4_isAhead : MethodName := ⟨RX4, "isAhead", "(II)Z"⟩
def RX5 : String := "InscribedStones$Readings"
def TX5 : u_T := fun k => match k with
  | 0 => ("InscribedStones$Readings", "ranks", "[I", true)
  | 1 => ("InscribedStones$Readings", "told", "[I", true)
  | _ => ("InscribedStones$Readings", "hands", "I", false)
def tyX5 : Nat → FieldType := fun k => match k with
  | 0 => .array .int
  | 1 => .array .int
  | _ => .int
abbrev wsX50 : List Cond := u_ws RX5 TX5 3
theorem nmX5 : ∀ a, a < 3 → ∀ b, b < 3 → a ≠ b → (TX5 a).2.1 ≠ (TX5 b).2.1 := by decide +kernel
theorem tyX5_ok : ∀ k, k < 3 → parseFieldDescriptor (TX5 k).2.2.1 = some (tyX5 k) := by decide +kernel
abbrev cX5_init : ByteArray := prog_7_method_1_code
def yX5_init : MethodName := ⟨RX5, "<init>", "()V"⟩
abbrev cX5_told : ByteArray := prog_7_method_2_code
def yX5_told : MethodName := ⟨RX5, "told", "(II)I"⟩
abbrev cX5_packed : ByteArray := prog_7_method_3_code
def yX5_packed : MethodName := ⟨RX5, "packed", "(II)I"⟩
abbrev cX5_kindOf : ByteArray := prog_7_method_4_code
def yX5_kindOf : MethodName := ⟨RX5, "kindOf", "(I)I"⟩
abbrev cX5_mayOf : ByteArray := prog_7_method_5_code
def yX5_mayOf : MethodName := ⟨RX5, "mayOf", "(I)I"⟩
abbrev cX5_isUnder : ByteArray := prog_7_method_6_code
def yX5_isUnder : MethodName := ⟨RX5, "isUnder", "(II)Z"⟩
abbrev cX5_putHand : ByteArray := prog_7_method_7_code
def yX5_putHand : MethodName := ⟨RX5, "putHand", "(I)I"⟩
abbrev cX5_hands : ByteArray := prog_7_method_8_code
def yX5_hands : MethodName := ⟨RX5, "hands", "()I"⟩
abbrev cX5_hasHand : ByteArray := prog_7_method_9_code
def yX5_hasHand : MethodName := ⟨RX5, "hasHand", "(I)Z"⟩
abbrev cX5_index : ByteArray := prog_7_method_10_code
def yX5_index : MethodName := ⟨RX5, "index", "(IIII)I"⟩
abbrev cX5_at : ByteArray := prog_7_method_11_code
def yX5_at : MethodName := ⟨RX5, "at", "(IIII)I"⟩
abbrev cX5_put : ByteArray := prog_7_method_12_code
def yX5_put : MethodName := ⟨RX5, "put", "(IIIII)V"⟩
abbrev cX5_leader : ByteArray := prog_7_method_13_code
def yX5_leader : MethodName := ⟨RX5, "leader", "(III)I"⟩
abbrev cX5_leading : ByteArray := prog_7_method_14_code
def yX5_leading : MethodName := ⟨RX5, "leading", "(III)I"⟩
abbrev cX5_dissenters : ByteArray := prog_7_method_15_code
def yX5_dissenters : MethodName := ⟨RX5, "dissenters", "(III)I"⟩
def RX6 : String := "InscribedStones$Stones"
def TX6 : u_T := fun k => match k with
  | 0 => ("InscribedStones$Stones", "lines", "[I", true)
  | 1 => ("InscribedStones$Stones", "places", "[I", true)
  | _ => ("InscribedStones$Stones", "size", "I", false)
def tyX6 : Nat → FieldType := fun k => match k with
  | 0 => .array .int
  | 1 => .array .int
  | _ => .int
abbrev wsX60 : List Cond := u_ws RX6 TX6 3
theorem nmX6 : ∀ a, a < 3 → ∀ b, b < 3 → a ≠ b → (TX6 a).2.1 ≠ (TX6 b).2.1 := by decide +kernel
theorem tyX6_ok : ∀ k, k < 3 → parseFieldDescriptor (TX6 k).2.2.1 = some (tyX6 k) := by decide +kernel
abbrev cX6_init : ByteArray := prog_8_method_1_code
def yX6_init : MethodName := ⟨RX6, "<init>", "()V"⟩
abbrev cX6_put : ByteArray := prog_8_method_2_code
def yX6_put : MethodName := ⟨RX6, "put", "(II)I"⟩
abbrev cX6_size : ByteArray := prog_8_method_3_code
def yX6_size : MethodName := ⟨RX6, "size", "()I"⟩
abbrev cX6_has : ByteArray := prog_8_method_4_code
def yX6_has : MethodName := ⟨RX6, "has", "(I)Z"⟩
abbrev cX6_hasLine : ByteArray := prog_8_method_5_code
def yX6_hasLine : MethodName := ⟨RX6, "hasLine", "(II)Z"⟩
abbrev cX6_hasPlace : ByteArray := prog_8_method_6_code
def yX6_hasPlace : MethodName := ⟨RX6, "hasPlace", "(III)Z"⟩
abbrev cX6_linesOf : ByteArray := prog_8_method_7_code
def yX6_linesOf : MethodName := ⟨RX6, "linesOf", "(I)I"⟩
abbrev cX6_placesOf : ByteArray := prog_8_method_8_code
def yX6_placesOf : MethodName := ⟨RX6, "placesOf", "(I)I"⟩
def RX7 : String := "InscribedStones$Surface"
def TX7 : u_T := fun k => match k with
  | 0 => ("InscribedStones$Surface", "mays", "[I", true)
  | 1 => ("InscribedStones$Surface", "letters", "[I", true)
  | _ => ("InscribedStones$Surface", "size", "I", false)
def tyX7 : Nat → FieldType := fun k => match k with
  | 0 => .array .int
  | 1 => .array .int
  | _ => .int
abbrev wsX70 : List Cond := u_ws RX7 TX7 3
theorem nmX7 : ∀ a, a < 3 → ∀ b, b < 3 → a ≠ b → (TX7 a).2.1 ≠ (TX7 b).2.1 := by decide +kernel
theorem tyX7_ok : ∀ k, k < 3 → parseFieldDescriptor (TX7 k).2.2.1 = some (tyX7 k) := by decide +kernel
abbrev cX7_init : ByteArray := prog_9_method_1_code
def yX7_init : MethodName := ⟨RX7, "<init>", "()V"⟩
abbrev cX7_clear : ByteArray := prog_9_method_2_code
def yX7_clear : MethodName := ⟨RX7, "clear", "()V"⟩
abbrev cX7_add : ByteArray := prog_9_method_3_code
def yX7_add : MethodName := ⟨RX7, "add", "(I)Z"⟩
abbrev cX7_isWay : ByteArray := prog_9_method_4_code
def yX7_isWay : MethodName := ⟨RX7, "isWay", "(LInscribedStones$TextSet;I)Z"⟩
abbrev cX7_letterOn : ByteArray := prog_9_method_5_code
def yX7_letterOn : MethodName := ⟨RX7, "letterOn", "(LInscribedStones$TextSet;II)I"⟩
abbrev cX7_countWays : ByteArray := prog_9_method_6_code
def yX7_countWays : MethodName := ⟨RX7, "countWays", "(LInscribedStones$TextSet;)I"⟩
abbrev cX7_findWay : ByteArray := prog_9_method_7_code
def yX7_findWay : MethodName := ⟨RX7, "findWay", "(LInscribedStones$TextSet;I)I"⟩
abbrev cX7_carryNothing : ByteArray := prog_9_method_8_code
def yX7_carryNothing : MethodName := ⟨RX7, "carryNothing", "()V"⟩
abbrev cX7_carry : ByteArray := prog_9_method_9_code
def yX7_carry : MethodName := ⟨RX7, "carry", "(LInscribedStones$TextSet;)V"⟩
abbrev cX7_carriedAt : ByteArray := prog_9_method_10_code
def yX7_carriedAt : MethodName := ⟨RX7, "carriedAt", "(I)I"⟩
def RX8 : String := "InscribedStones$Tape"
def TX8 : u_T := fun k => match k with
  | 0 => ("InscribedStones$Tape", "bytes", "[B", true)
  | _ => ("InscribedStones$Tape", "size", "I", false)
def tyX8 : Nat → FieldType := fun k => match k with
  | 0 => .array .byte
  | _ => .int
abbrev wsX80 : List Cond := u_ws RX8 TX8 2
theorem nmX8 : ∀ a, a < 2 → ∀ b, b < 2 → a ≠ b → (TX8 a).2.1 ≠ (TX8 b).2.1 := by decide +kernel
theorem tyX8_ok : ∀ k, k < 2 → parseFieldDescriptor (TX8 k).2.2.1 = some (tyX8 k) := by decide +kernel
abbrev cX8_init : ByteArray := prog_10_method_1_code
def yX8_init : MethodName := ⟨RX8, "<init>", "()V"⟩
abbrev cX8_append : ByteArray := prog_10_method_2_code
def yX8_append : MethodName := ⟨RX8, "append", "(IJ)I"⟩
abbrev cX8_clear : ByteArray := prog_10_method_3_code
def yX8_clear : MethodName := ⟨RX8, "clear", "()V"⟩
abbrev cX8_size : ByteArray := prog_10_method_4_code
def yX8_size : MethodName := ⟨RX8, "size", "()I"⟩
abbrev cX8_byteAt : ByteArray := prog_10_method_5_code
def yX8_byteAt : MethodName := ⟨RX8, "byteAt", "(I)I"⟩
abbrev cX8_lettersFrom : ByteArray := prog_10_method_6_code
def yX8_lettersFrom : MethodName := ⟨RX8, "lettersFrom", "(I)I"⟩
abbrev cX8_letterOf : ByteArray := prog_10_method_7_code
def yX8_letterOf : MethodName := ⟨RX8, "letterOf", "(I)I"⟩
def RX9 : String := "InscribedStones$TextSet"
def TX9 : u_T := fun k => match k with
  | 0 => ("InscribedStones$TextSet", "halves", "[J", true)
  | _ => ("InscribedStones$TextSet", "size", "I", false)
def tyX9 : Nat → FieldType := fun k => match k with
  | 0 => .array .long
  | _ => .int
abbrev wsX90 : List Cond := u_ws RX9 TX9 2
theorem nmX9 : ∀ a, a < 2 → ∀ b, b < 2 → a ≠ b → (TX9 a).2.1 ≠ (TX9 b).2.1 := by decide +kernel
theorem tyX9_ok : ∀ k, k < 2 → parseFieldDescriptor (TX9 k).2.2.1 = some (tyX9 k) := by decide +kernel
abbrev cX9_init : ByteArray := prog_11_method_1_code
def yX9_init : MethodName := ⟨RX9, "<init>", "(I)V"⟩
abbrev cX9_clear : ByteArray := prog_11_method_2_code
def yX9_clear : MethodName := ⟨RX9, "clear", "()V"⟩
abbrev cX9_size : ByteArray := prog_11_method_3_code
def yX9_size : MethodName := ⟨RX9, "size", "()I"⟩
abbrev cX9_head : ByteArray := prog_11_method_4_code
def yX9_head : MethodName := ⟨RX9, "head", "(I)J"⟩
abbrev cX9_tail : ByteArray := prog_11_method_5_code
def yX9_tail : MethodName := ⟨RX9, "tail", "(I)J"⟩
abbrev cX9_letter : ByteArray := prog_11_method_6_code
def yX9_letter : MethodName := ⟨RX9, "letter", "(II)I"⟩
abbrev cX9_codeAt : ByteArray := prog_11_method_7_code
def yX9_codeAt : MethodName := ⟨RX9, "codeAt", "(II)J"⟩
abbrev cX9_lengthOf : ByteArray := prog_11_method_8_code
def yX9_lengthOf : MethodName := ⟨RX9, "lengthOf", "(JJ)I"⟩
abbrev cX9_add : ByteArray := prog_11_method_9_code
def yX9_add : MethodName := ⟨RX9, "add", "(JJ)Z"⟩
abbrev cX9_addAll : ByteArray := prog_11_method_10_code
def yX9_addAll : MethodName := ⟨RX9, "addAll", "(LInscribedStones$TextSet;)Z"⟩
abbrev cX9_addPairs : ByteArray := prog_11_method_11_code
def yX9_addPairs : MethodName := ⟨RX9, "addPairs", "(LInscribedStones$TextSet;LInscribedStones$TextSet;)Z"⟩
abbrev cX9_addPair : ByteArray := prog_11_method_12_code
def yX9_addPair : MethodName := ⟨RX9, "addPair", "(JJJJ)Z"⟩
abbrev cX9_copy : ByteArray := prog_11_method_13_code
def yX9_copy : MethodName := ⟨RX9, "copy", "()LInscribedStones$TextSet;"⟩
def RX10 : String := "InscribedStones$Trays"
def TX10 : u_T := fun k => match k with
  | 0 => ("InscribedStones$Trays", "bytes", "[B", true)
  | _ => ("InscribedStones$Trays", "sizes", "[I", true)
def tyX10 : Nat → FieldType := fun k => match k with
  | 0 => .array .byte
  | _ => .array .int
abbrev wsX100 : List Cond := u_ws RX10 TX10 2
theorem nmX10 : ∀ a, a < 2 → ∀ b, b < 2 → a ≠ b → (TX10 a).2.1 ≠ (TX10 b).2.1 := by decide +kernel
theorem tyX10_ok : ∀ k, k < 2 → parseFieldDescriptor (TX10 k).2.2.1 = some (tyX10 k) := by decide +kernel
abbrev cX10_init : ByteArray := prog_12_method_1_code
def yX10_init : MethodName := ⟨RX10, "<init>", "()V"⟩
abbrev cX10_has : ByteArray := prog_12_method_2_code
def yX10_has : MethodName := ⟨RX10, "has", "(I)Z"⟩
abbrev cX10_isMissing : ByteArray := prog_12_method_3_code
def yX10_isMissing : MethodName := ⟨RX10, "isMissing", "(I)Z"⟩
abbrev cX10_sizeOf : ByteArray := prog_12_method_4_code
def yX10_sizeOf : MethodName := ⟨RX10, "sizeOf", "(I)I"⟩
abbrev cX10_put : ByteArray := prog_12_method_5_code
def yX10_put : MethodName := ⟨RX10, "put", "(II)V"⟩
abbrev cX10_set : ByteArray := prog_12_method_6_code
def yX10_set : MethodName := ⟨RX10, "set", "(III)Z"⟩
abbrev cX10_byteAt : ByteArray := prog_12_method_7_code
def yX10_byteAt : MethodName := ⟨RX10, "byteAt", "(III)I"⟩
def RX11 : String := "InscribedStones"
def TX11 : u_T := fun k => match k with
  | 0 => ("InscribedStones", "slabs", "LInscribedStones$Stones;", true)
  | 1 => ("InscribedStones", "readings", "LInscribedStones$Readings;", true)
  | 2 => ("InscribedStones", "input", "LInscribedStones$Tape;", true)
  | 3 => ("InscribedStones", "maker", "LInscribedStones$FormulaMaker;", true)
  | 4 => ("InscribedStones", "formulas", "[LInscribedStones$TextSet;", true)
  | 5 => ("InscribedStones", "formulaCount", "I", false)
  | 6 => ("InscribedStones", "surface", "LInscribedStones$Surface;", true)
  | 7 => ("InscribedStones", "edges", "LInscribedStones$Edges;", true)
  | 8 => ("InscribedStones", "dating", "LInscribedStones$Dating;", true)
  | 9 => ("InscribedStones", "people", "LInscribedStones$People;", true)
  | 10 => ("InscribedStones", "page", "LInscribedStones$Page;", true)
  | _ => ("InscribedStones", "trays", "LInscribedStones$Trays;", true)
def tyX11 : Nat → FieldType := fun k => match k with
  | 0 => .object "InscribedStones$Stones"
  | 1 => .object "InscribedStones$Readings"
  | 2 => .object "InscribedStones$Tape"
  | 3 => .object "InscribedStones$FormulaMaker"
  | 4 => .array (.object "InscribedStones$TextSet")
  | 5 => .int
  | 6 => .object "InscribedStones$Surface"
  | 7 => .object "InscribedStones$Edges"
  | 8 => .object "InscribedStones$Dating"
  | 9 => .object "InscribedStones$People"
  | 10 => .object "InscribedStones$Page"
  | _ => .object "InscribedStones$Trays"
abbrev wsX110 : List Cond := u_ws RX11 TX11 12
theorem nmX11 : ∀ a, a < 12 → ∀ b, b < 12 → a ≠ b → (TX11 a).2.1 ≠ (TX11 b).2.1 := by decide +kernel
theorem tyX11_ok : ∀ k, k < 12 → parseFieldDescriptor (TX11 k).2.2.1 = some (tyX11 k) := by decide +kernel
abbrev cX11_init : ByteArray := prog_1_method_1_code
def yX11_init : MethodName := ⟨RX11, "<init>", "()V"⟩
abbrev cX11_stone : ByteArray := prog_1_method_2_code
def yX11_stone : MethodName := ⟨RX11, "stone", "(II)I"⟩
abbrev cX11_hand : ByteArray := prog_1_method_3_code
def yX11_hand : MethodName := ⟨RX11, "hand", "(I)I"⟩
abbrev cX11_read : ByteArray := prog_1_method_4_code
def yX11_read : MethodName := ⟨RX11, "read", "(IIIIII)I"⟩
abbrev cX11_forget : ByteArray := prog_1_method_5_code
def yX11_forget : MethodName := ⟨RX11, "forget", "(IIII)I"⟩
abbrev cX11_sign : ByteArray := prog_1_method_6_code
def yX11_sign : MethodName := ⟨RX11, "sign", "(IIII)I"⟩
abbrev cX11_feed : ByteArray := prog_1_method_7_code
def yX11_feed : MethodName := ⟨RX11, "feed", "(IJ)I"⟩
abbrev cX11_formula : ByteArray := prog_1_method_8_code
def yX11_formula : MethodName := ⟨RX11, "formula", "()I"⟩
abbrev cX11_texts : ByteArray := prog_1_method_9_code
def yX11_texts : MethodName := ⟨RX11, "texts", "(I)I"⟩
abbrev cX11_text : ByteArray := prog_1_method_10_code
def yX11_text : MethodName := ⟨RX11, "text", "(III)I"⟩
abbrev cX11_ways : ByteArray := prog_1_method_11_code
def yX11_ways : MethodName := ⟨RX11, "ways", "(III)I"⟩
abbrev cX11_way : ByteArray := prog_1_method_12_code
def yX11_way : MethodName := ⟨RX11, "way", "(IIII)I"⟩
abbrev cX11_carried : ByteArray := prog_1_method_13_code
def yX11_carried : MethodName := ⟨RX11, "carried", "(IIII)I"⟩
abbrev cX11_fits : ByteArray := prog_1_method_14_code
def yX11_fits : MethodName := ⟨RX11, "fits", "(II)I"⟩
abbrev cX11_textsOf : ByteArray := prog_1_method_15_code
def yX11_textsOf : MethodName := ⟨RX11, "textsOf", "(I)LInscribedStones$TextSet;"⟩
abbrev cX11_layBare : ByteArray := prog_1_method_16_code
def yX11_layBare : MethodName := ⟨RX11, "layBare", "(II)V"⟩
abbrev cX11_layBareMore : ByteArray := prog_1_method_17_code
def yX11_layBareMore : MethodName := ⟨RX11, "layBareMore", "(II)Z"⟩
abbrev cX11_edge : ByteArray := prog_1_method_18_code
def yX11_edge : MethodName := ⟨RX11, "edge", "(IIII)I"⟩
abbrev cX11_tolerance : ByteArray := prog_1_method_19_code
def yX11_tolerance : MethodName := ⟨RX11, "tolerance", "(I)I"⟩
abbrev cX11_room : ByteArray := prog_1_method_20_code
def yX11_room : MethodName := ⟨RX11, "room", "(II)I"⟩
abbrev cX11_best : ByteArray := prog_1_method_21_code
def yX11_best : MethodName := ⟨RX11, "best", "(II)I"⟩
abbrev cX11_join : ByteArray := prog_1_method_22_code
def yX11_join : MethodName := ⟨RX11, "join", "(II)I"⟩
abbrev cX11_part : ByteArray := prog_1_method_23_code
def yX11_part : MethodName := ⟨RX11, "part", "(I)I"⟩
abbrev cX11_joined : ByteArray := prog_1_method_24_code
def yX11_joined : MethodName := ⟨RX11, "joined", "(II)I"⟩
abbrev cX11_whole : ByteArray := prog_1_method_25_code
def yX11_whole : MethodName := ⟨RX11, "whole", "(III)I"⟩
abbrev cX11_isSide : ByteArray := prog_1_method_26_code
def yX11_isSide : MethodName := ⟨RX11, "isSide", "(I)Z"⟩
abbrev cX11_years : ByteArray := prog_1_method_27_code
def yX11_years : MethodName := ⟨RX11, "years", "(III)I"⟩
abbrev cX11_bound : ByteArray := prog_1_method_28_code
def yX11_bound : MethodName := ⟨RX11, "bound", "(III)I"⟩
abbrev cX11_loose : ByteArray := prog_1_method_29_code
def yX11_loose : MethodName := ⟨RX11, "loose", "()I"⟩
abbrev cX11_span : ByteArray := prog_1_method_30_code
def yX11_span : MethodName := ⟨RX11, "span", "(II)I"⟩
abbrev cX11_clash : ByteArray := prog_1_method_31_code
def yX11_clash : MethodName := ⟨RX11, "clash", "()I"⟩
abbrev cX11_person : ByteArray := prog_1_method_32_code
def yX11_person : MethodName := ⟨RX11, "person", "(JJI)I"⟩
abbrev cX11_one : ByteArray := prog_1_method_33_code
def yX11_one : MethodName := ⟨RX11, "one", "(II)I"⟩
abbrev cX11_group : ByteArray := prog_1_method_34_code
def yX11_group : MethodName := ⟨RX11, "group", "(I)I"⟩
abbrev cX11_father : ByteArray := prog_1_method_35_code
def yX11_father : MethodName := ⟨RX11, "father", "(I)I"⟩
abbrev cX11_print : ByteArray := prog_1_method_36_code
def yX11_print : MethodName := ⟨RX11, "print", "(III)I"⟩
abbrev cX11_printed : ByteArray := prog_1_method_37_code
def yX11_printed : MethodName := ⟨RX11, "printed", "(IIII)I"⟩
abbrev cX11_back : ByteArray := prog_1_method_38_code
def yX11_back : MethodName := ⟨RX11, "back", "(III)I"⟩
abbrev cX11_count : ByteArray := prog_1_method_39_code
def yX11_count : MethodName := ⟨RX11, "count", "(I)I"⟩
abbrev cX11_isFormulaOrNone : ByteArray := prog_1_method_40_code
def yX11_isFormulaOrNone : MethodName := ⟨RX11, "isFormulaOrNone", "(I)Z"⟩
abbrev cX11_setPage : ByteArray := prog_1_method_41_code
def yX11_setPage : MethodName := ⟨RX11, "setPage", "(III)V"⟩
abbrev cX11_tray : ByteArray := prog_1_method_42_code
def yX11_tray : MethodName := ⟨RX11, "tray", "(II)I"⟩
abbrev cX11_cell : ByteArray := prog_1_method_43_code
def yX11_cell : MethodName := ⟨RX11, "cell", "(III)I"⟩
abbrev cX11_lay : ByteArray := prog_1_method_44_code
def yX11_lay : MethodName := ⟨RX11, "lay", "(IIIII)I"⟩
abbrev cX11_taken : ByteArray := prog_1_method_45_code
def yX11_taken : MethodName := ⟨RX11, "taken", "(IIIII)I"⟩
def RX12 : String := "InscribedStonesModel"
def TX12 : u_T := fun k => match k with
  | 0 => ("InscribedStonesModel", "stones", "I", false)
  | 1 => ("InscribedStonesModel", "hands", "I", false)
  | 2 => ("InscribedStonesModel", "formulas", "I", false)
  | 3 => ("InscribedStonesModel", "persons", "I", false)
  | 4 => ("InscribedStonesModel", "bounds", "I", false)
  | 5 => ("InscribedStonesModel", "tolerance", "I", false)
  | 6 => ("InscribedStonesModel", "size", "I", false)
  | 7 => ("InscribedStonesModel", "lines", "[I", true)
  | 8 => ("InscribedStonesModel", "places", "[I", true)
  | 9 => ("InscribedStonesModel", "rank", "[I", true)
  | 10 => ("InscribedStonesModel", "tape", "[I", true)
  | 11 => ("InscribedStonesModel", "kinds", "[I", true)
  | 12 => ("InscribedStonesModel", "mays", "[I", true)
  | 13 => ("InscribedStonesModel", "bank", "[I", true)
  | 14 => ("InscribedStonesModel", "length", "[I", true)
  | 15 => ("InscribedStonesModel", "banked", "I", false)
  | 16 => ("InscribedStonesModel", "word", "I", false)
  | 17 => ("InscribedStonesModel", "wordAt", "I", false)
  | 18 => ("InscribedStonesModel", "wordSize", "I", false)
  | 19 => ("InscribedStonesModel", "next", "I", false)
  | 20 => ("InscribedStonesModel", "fault", "I", false)
  | 21 => ("InscribedStonesModel", "isSpent", "Z", false)
  | 22 => ("InscribedStonesModel", "texts", "[I", true)
  | 23 => ("InscribedStonesModel", "textSize", "[I", true)
  | 24 => ("InscribedStonesModel", "textMany", "[I", true)
  | 25 => ("InscribedStonesModel", "edges", "[I", true)
  | 26 => ("InscribedStonesModel", "right", "[I", true)
  | 27 => ("InscribedStonesModel", "left", "[I", true)
  | 28 => ("InscribedStonesModel", "least", "[I", true)
  | 29 => ("InscribedStonesModel", "most", "[I", true)
  | 30 => ("InscribedStonesModel", "from", "[I", true)
  | 31 => ("InscribedStonesModel", "until", "[I", true)
  | 32 => ("InscribedStonesModel", "boundA", "[I", true)
  | 33 => ("InscribedStonesModel", "boundB", "[I", true)
  | 34 => ("InscribedStonesModel", "boundBy", "[I", true)
  | 35 => ("InscribedStonesModel", "names", "[J", true)
  | 36 => ("InscribedStonesModel", "fathers", "[J", true)
  | 37 => ("InscribedStonesModel", "personStone", "[I", true)
  | 38 => ("InscribedStonesModel", "groups", "[I", true)
  | 39 => ("InscribedStonesModel", "print", "[I", true)
  | 40 => ("InscribedStonesModel", "backKind", "[I", true)
  | 41 => ("InscribedStonesModel", "backMay", "[I", true)
  | 42 => ("InscribedStonesModel", "traySize", "[I", true)
  | _ => ("InscribedStonesModel", "trays", "[I", true)
def tyX12 : Nat → FieldType := fun k => match k with
  | 0 => .int
  | 1 => .int
  | 2 => .int
  | 3 => .int
  | 4 => .int
  | 5 => .int
  | 6 => .int
  | 7 => .array .int
  | 8 => .array .int
  | 9 => .array .int
  | 10 => .array .int
  | 11 => .array .int
  | 12 => .array .int
  | 13 => .array .int
  | 14 => .array .int
  | 15 => .int
  | 16 => .int
  | 17 => .int
  | 18 => .int
  | 19 => .int
  | 20 => .int
  | 21 => .boolean
  | 22 => .array .int
  | 23 => .array .int
  | 24 => .array .int
  | 25 => .array .int
  | 26 => .array .int
  | 27 => .array .int
  | 28 => .array .int
  | 29 => .array .int
  | 30 => .array .int
  | 31 => .array .int
  | 32 => .array .int
  | 33 => .array .int
  | 34 => .array .int
  | 35 => .array .long
  | 36 => .array .long
  | 37 => .array .int
  | 38 => .array .int
  | 39 => .array .int
  | 40 => .array .int
  | 41 => .array .int
  | 42 => .array .int
  | _ => .array .int
abbrev wsX120 : List Cond := u_ws RX12 TX12 44
theorem nmX12 : ∀ a, a < 44 → ∀ b, b < 44 → a ≠ b → (TX12 a).2.1 ≠ (TX12 b).2.1 := by decide +kernel
theorem tyX12_ok : ∀ k, k < 44 → parseFieldDescriptor (TX12 k).2.2.1 = some (tyX12 k) := by decide +kernel
abbrev cX12_init : ByteArray := prog_14_method_1_code
def yX12_init : MethodName := ⟨RX12, "<init>", "()V"⟩
abbrev cX12_isIn : ByteArray := prog_14_method_2_code
def yX12_isIn : MethodName := ⟨RX12, "isIn", "(II)Z"⟩
abbrev cX12_isStone : ByteArray := prog_14_method_3_code
def yX12_isStone : MethodName := ⟨RX12, "isStone", "(I)Z"⟩
abbrev cX12_isLine : ByteArray := prog_14_method_4_code
def yX12_isLine : MethodName := ⟨RX12, "isLine", "(II)Z"⟩
abbrev cX12_isPlace : ByteArray := prog_14_method_5_code
def yX12_isPlace : MethodName := ⟨RX12, "isPlace", "(III)Z"⟩
abbrev cX12_at : ByteArray := prog_14_method_6_code
def yX12_at : MethodName := ⟨RX12, "at", "(IIII)I"⟩
abbrev cX12_stone : ByteArray := prog_14_method_7_code
def yX12_stone : MethodName := ⟨RX12, "stone", "(II)I"⟩
abbrev cX12_hand : ByteArray := prog_14_method_8_code
def yX12_hand : MethodName := ⟨RX12, "hand", "(I)I"⟩
abbrev cX12_reads : ByteArray := prog_14_method_9_code
def yX12_reads : MethodName := ⟨RX12, "reads", "(IIIIII)V"⟩
abbrev cX12_read : ByteArray := prog_14_method_10_code
def yX12_read : MethodName := ⟨RX12, "read", "(IIIIII)I"⟩
abbrev cX12_forget : ByteArray := prog_14_method_11_code
def yX12_forget : MethodName := ⟨RX12, "forget", "(IIII)I"⟩
abbrev cX12_handOf : ByteArray := prog_14_method_12_code
def yX12_handOf : MethodName := ⟨RX12, "handOf", "(III)I"⟩
abbrev cX12_kindOf : ByteArray := prog_14_method_13_code
def yX12_kindOf : MethodName := ⟨RX12, "kindOf", "(III)I"⟩
abbrev cX12_mayOf : ByteArray := prog_14_method_14_code
def yX12_mayOf : MethodName := ⟨RX12, "mayOf", "(III)I"⟩
abbrev cX12_sign : ByteArray := prog_14_method_15_code
def yX12_sign : MethodName := ⟨RX12, "sign", "(IIII)I"⟩
abbrev cX12_feed : ByteArray := prog_14_method_16_code
def yX12_feed : MethodName := ⟨RX12, "feed", "(IJ)I"⟩
abbrev cX12_isLetter : ByteArray := prog_14_method_17_code
def yX12_isLetter : MethodName := ⟨RX12, "isLetter", "(I)Z"⟩
abbrev cX12_token : ByteArray := prog_14_method_18_code
def yX12_token : MethodName := ⟨RX12, "token", "()V"⟩
abbrev cX12_faults : ByteArray := prog_14_method_19_code
def yX12_faults : MethodName := ⟨RX12, "faults", "()V"⟩
abbrev cX12_isAlike : ByteArray := prog_14_method_20_code
def yX12_isAlike : MethodName := ⟨RX12, "isAlike", "(II)Z"⟩
abbrev cX12_keeps : ByteArray := prog_14_method_21_code
def yX12_keeps : MethodName := ⟨RX12, "keeps", "(I)V"⟩
abbrev cX12_copies : ByteArray := prog_14_method_22_code
def yX12_copies : MethodName := ⟨RX12, "copies", "(II)V"⟩
abbrev cX12_all : ByteArray := prog_14_method_23_code
def yX12_all : MethodName := ⟨RX12, "all", "(I)V"⟩
abbrev cX12_row : ByteArray := prog_14_method_24_code
def yX12_row : MethodName := ⟨RX12, "row", "(I)V"⟩
abbrev cX12_joins : ByteArray := prog_14_method_25_code
def yX12_joins : MethodName := ⟨RX12, "joins", "(II)V"⟩
abbrev cX12_piece : ByteArray := prog_14_method_26_code
def yX12_piece : MethodName := ⟨RX12, "piece", "(I)V"⟩
abbrev cX12_isAhead : ByteArray := prog_14_method_27_code
def yX12_isAhead : MethodName := ⟨RX12, "isAhead", "(II)Z"⟩
abbrev cX12_formula : ByteArray := prog_14_method_28_code
def yX12_formula : MethodName := ⟨RX12, "formula", "()I"⟩
abbrev cX12_isFormula : ByteArray := prog_14_method_29_code
def yX12_isFormula : MethodName := ⟨RX12, "isFormula", "(I)Z"⟩
abbrev cX12_texts : ByteArray := prog_14_method_30_code
def yX12_texts : MethodName := ⟨RX12, "texts", "(I)I"⟩
abbrev cX12_told : ByteArray := prog_14_method_31_code
def yX12_told : MethodName := ⟨RX12, "told", "(I)I"⟩
abbrev cX12_text : ByteArray := prog_14_method_32_code
def yX12_text : MethodName := ⟨RX12, "text", "(III)I"⟩
abbrev cX12_letterAt : ByteArray := prog_14_method_33_code
def yX12_letterAt : MethodName := ⟨RX12, "letterAt", "(II)I"⟩
abbrev cX12_goes : ByteArray := prog_14_method_34_code
def yX12_goes : MethodName := ⟨RX12, "goes", "(IIIZ)Z"⟩
abbrev cX12_waysOf : ByteArray := prog_14_method_35_code
def yX12_waysOf : MethodName := ⟨RX12, "waysOf", "(IIIZ)I"⟩
abbrev cX12_ways : ByteArray := prog_14_method_36_code
def yX12_ways : MethodName := ⟨RX12, "ways", "(III)I"⟩
abbrev cX12_way : ByteArray := prog_14_method_37_code
def yX12_way : MethodName := ⟨RX12, "way", "(IIII)I"⟩
abbrev cX12_carriedOf : ByteArray := prog_14_method_38_code
def yX12_carriedOf : MethodName := ⟨RX12, "carriedOf", "(IIII)I"⟩
abbrev cX12_carried : ByteArray := prog_14_method_39_code
def yX12_carried : MethodName := ⟨RX12, "carried", "(IIII)I"⟩
abbrev cX12_fits : ByteArray := prog_14_method_40_code
def yX12_fits : MethodName := ⟨RX12, "fits", "(II)I"⟩
abbrev cX12_edgeAt : ByteArray := prog_14_method_41_code
def yX12_edgeAt : MethodName := ⟨RX12, "edgeAt", "(III)I"⟩
abbrev cX12_parts : ByteArray := prog_14_method_42_code
def yX12_parts : MethodName := ⟨RX12, "parts", "(I)V"⟩
abbrev cX12_edge : ByteArray := prog_14_method_43_code
def yX12_edge : MethodName := ⟨RX12, "edge", "(IIII)I"⟩
abbrev cX12_tolerance : ByteArray := prog_14_method_44_code
def yX12_tolerance : MethodName := ⟨RX12, "tolerance", "(I)I"⟩
abbrev cX12_roomOf : ByteArray := prog_14_method_45_code
def yX12_roomOf : MethodName := ⟨RX12, "roomOf", "(II)I"⟩
abbrev cX12_room : ByteArray := prog_14_method_46_code
def yX12_room : MethodName := ⟨RX12, "room", "(II)I"⟩
abbrev cX12_bestOf : ByteArray := prog_14_method_47_code
def yX12_bestOf : MethodName := ⟨RX12, "bestOf", "(II)I"⟩
abbrev cX12_best : ByteArray := prog_14_method_48_code
def yX12_best : MethodName := ⟨RX12, "best", "(II)I"⟩
abbrev cX12_join : ByteArray := prog_14_method_49_code
def yX12_join : MethodName := ⟨RX12, "join", "(II)I"⟩
abbrev cX12_part : ByteArray := prog_14_method_50_code
def yX12_part : MethodName := ⟨RX12, "part", "(I)I"⟩
abbrev cX12_joined : ByteArray := prog_14_method_51_code
def yX12_joined : MethodName := ⟨RX12, "joined", "(II)I"⟩
abbrev cX12_whole : ByteArray := prog_14_method_52_code
def yX12_whole : MethodName := ⟨RX12, "whole", "(III)I"⟩
abbrev cX12_years : ByteArray := prog_14_method_53_code
def yX12_years : MethodName := ⟨RX12, "years", "(III)I"⟩
abbrev cX12_bound : ByteArray := prog_14_method_54_code
def yX12_bound : MethodName := ⟨RX12, "bound", "(III)I"⟩
abbrev cX12_loose : ByteArray := prog_14_method_55_code
def yX12_loose : MethodName := ⟨RX12, "loose", "()I"⟩
abbrev cX12_clashes : ByteArray := prog_14_method_56_code
def yX12_clashes : MethodName := ⟨RX12, "clashes", "(I)Z"⟩
abbrev cX12_clashAll : ByteArray := prog_14_method_57_code
def yX12_clashAll : MethodName := ⟨RX12, "clashAll", "()Z"⟩
abbrev cX12_span : ByteArray := prog_14_method_58_code
def yX12_span : MethodName := ⟨RX12, "span", "(II)I"⟩
abbrev cX12_clash : ByteArray := prog_14_method_59_code
def yX12_clash : MethodName := ⟨RX12, "clash", "()I"⟩
abbrev cX12_isWord : ByteArray := prog_14_method_60_code
def yX12_isWord : MethodName := ⟨RX12, "isWord", "(J)Z"⟩
abbrev cX12_person : ByteArray := prog_14_method_61_code
def yX12_person : MethodName := ⟨RX12, "person", "(JJI)I"⟩
abbrev cX12_mayBeOne : ByteArray := prog_14_method_62_code
def yX12_mayBeOne : MethodName := ⟨RX12, "mayBeOne", "(II)Z"⟩
abbrev cX12_isPerson : ByteArray := prog_14_method_63_code
def yX12_isPerson : MethodName := ⟨RX12, "isPerson", "(I)Z"⟩
abbrev cX12_one : ByteArray := prog_14_method_64_code
def yX12_one : MethodName := ⟨RX12, "one", "(II)I"⟩
abbrev cX12_findGroups : ByteArray := prog_14_method_65_code
def yX12_findGroups : MethodName := ⟨RX12, "findGroups", "()I"⟩
abbrev cX12_joinsGroup : ByteArray := prog_14_method_66_code
def yX12_joinsGroup : MethodName := ⟨RX12, "joinsGroup", "(IIZ)Z"⟩
abbrev cX12_group : ByteArray := prog_14_method_67_code
def yX12_group : MethodName := ⟨RX12, "group", "(I)I"⟩
abbrev cX12_father : ByteArray := prog_14_method_68_code
def yX12_father : MethodName := ⟨RX12, "father", "(I)I"⟩
abbrev cX12_prints : ByteArray := prog_14_method_69_code
def yX12_prints : MethodName := ⟨RX12, "prints", "(III)I"⟩
abbrev cX12_print : ByteArray := prog_14_method_70_code
def yX12_print : MethodName := ⟨RX12, "print", "(III)I"⟩
abbrev cX12_printed : ByteArray := prog_14_method_71_code
def yX12_printed : MethodName := ⟨RX12, "printed", "(IIII)I"⟩
abbrev cX12_isSign : ByteArray := prog_14_method_72_code
def yX12_isSign : MethodName := ⟨RX12, "isSign", "(I)Z"⟩
abbrev cX12_bitOf : ByteArray := prog_14_method_73_code
def yX12_bitOf : MethodName := ⟨RX12, "bitOf", "(I)I"⟩
abbrev cX12_backs : ByteArray := prog_14_method_74_code
def yX12_backs : MethodName := ⟨RX12, "backs", "(I)I"⟩
abbrev cX12_back : ByteArray := prog_14_method_75_code
def yX12_back : MethodName := ⟨RX12, "back", "(III)I"⟩
abbrev cX12_count : ByteArray := prog_14_method_76_code
def yX12_count : MethodName := ⟨RX12, "count", "(I)I"⟩
abbrev cX12_tray : ByteArray := prog_14_method_77_code
def yX12_tray : MethodName := ⟨RX12, "tray", "(II)I"⟩
abbrev cX12_cell : ByteArray := prog_14_method_78_code
def yX12_cell : MethodName := ⟨RX12, "cell", "(III)I"⟩
abbrev cX12_lay : ByteArray := prog_14_method_79_code
def yX12_lay : MethodName := ⟨RX12, "lay", "(IIIII)I"⟩
abbrev cX12_taken : ByteArray := prog_14_method_80_code
def yX12_taken : MethodName := ⟨RX12, "taken", "(IIIII)I"⟩
def RJ6 : String := "java/lang/Integer"
def TJ6 : u_T := fun k => match k with
  | _ => ("", "", "", false)
def tyJ6 : Nat → FieldType := fun k => match k with
  | _ => .int
abbrev wsJ60 : List Cond := u_ws RJ6 TJ6 0
theorem nmJ6 : ∀ a, a < 0 → ∀ b, b < 0 → a ≠ b → (TJ6 a).2.1 ≠ (TJ6 b).2.1 := by decide +kernel
theorem tyJ6_ok : ∀ k, k < 0 → parseFieldDescriptor (TJ6 k).2.2.1 = some (tyJ6 k) := by decide +kernel
abbrev cJ6_bitCount_0f7a4 : ByteArray := prog_15_method_49_code
def yJ6_bitCount_0f7a4 : MethodName := ⟨RJ6, "bitCount", "(I)I"⟩
def RJ13 : String := "java/lang/Long"
def TJ13 : u_T := fun k => match k with
  | _ => ("", "", "", false)
def tyJ13 : Nat → FieldType := fun k => match k with
  | _ => .int
abbrev wsJ130 : List Cond := u_ws RJ13 TJ13 0
theorem nmJ13 : ∀ a, a < 0 → ∀ b, b < 0 → a ≠ b → (TJ13 a).2.1 ≠ (TJ13 b).2.1 := by decide +kernel
theorem tyJ13_ok : ∀ k, k < 0 → parseFieldDescriptor (TJ13 k).2.2.1 = some (tyJ13 k) := by decide +kernel
abbrev cJ13_bitCount_95d88 : ByteArray := prog_16_method_50_code
def yJ13_bitCount_95d88 : MethodName := ⟨RJ13, "bitCount", "(J)I"⟩
def RJ9 : String := "java/lang/Math"
def TJ9 : u_T := fun k => match k with
  | _ => ("", "", "", false)
def tyJ9 : Nat → FieldType := fun k => match k with
  | _ => .int
abbrev wsJ90 : List Cond := u_ws RJ9 TJ9 0
theorem nmJ9 : ∀ a, a < 0 → ∀ b, b < 0 → a ≠ b → (TJ9 a).2.1 ≠ (TJ9 b).2.1 := by decide +kernel
theorem tyJ9_ok : ∀ k, k < 0 → parseFieldDescriptor (TJ9 k).2.2.1 = some (tyJ9 k) := by decide +kernel
abbrev cJ9_abs_0f7a4 : ByteArray := prog_17_method_59_code
def yJ9_abs_0f7a4 : MethodName := ⟨RJ9, "abs", "(I)I"⟩
abbrev cJ9_max_7cf53 : ByteArray := prog_17_method_65_code
def yJ9_max_7cf53 : MethodName := ⟨RJ9, "max", "(II)I"⟩
abbrev cJ9_min_7cf53 : ByteArray := prog_17_method_69_code
def yJ9_min_7cf53 : MethodName := ⟨RJ9, "min", "(II)I"⟩
def RJ10 : String := "java/lang/System"
def TJ10 : u_T := fun k => match k with
  | _ => ("", "", "", false)
def tyJ10 : Nat → FieldType := fun k => match k with
  | _ => .int
abbrev wsJ100 : List Cond := u_ws RJ10 TJ10 0
theorem nmJ10 : ∀ a, a < 0 → ∀ b, b < 0 → a ≠ b → (TJ10 a).2.1 ≠ (TJ10 b).2.1 := by decide +kernel
theorem tyJ10_ok : ∀ k, k < 0 → parseFieldDescriptor (TJ10 k).2.2.1 = some (tyJ10 k) := by decide +kernel
def RJ7 : String := "java/util/Arrays"
def TJ7 : u_T := fun k => match k with
  | _ => ("", "", "", false)
def tyJ7 : Nat → FieldType := fun k => match k with
  | _ => .int
abbrev wsJ70 : List Cond := u_ws RJ7 TJ7 0
theorem nmJ7 : ∀ a, a < 0 → ∀ b, b < 0 → a ≠ b → (TJ7 a).2.1 ≠ (TJ7 b).2.1 := by decide +kernel
theorem tyJ7_ok : ∀ k, k < 0 → parseFieldDescriptor (TJ7 k).2.2.1 = some (tyJ7 k) := by decide +kernel
abbrev cJ7_rangeCheck_23922 : ByteArray := prog_19_method_30_code
def yJ7_rangeCheck_23922 : MethodName := ⟨RJ7, "rangeCheck", "(III)V"⟩
abbrev cJ7_fill_53178 : ByteArray := prog_19_method_103_code
def yJ7_fill_53178 : MethodName := ⟨RJ7, "fill", "([II)V"⟩
abbrev cJ7_fill_eb02e : ByteArray := prog_19_method_110_code
def yJ7_fill_eb02e : MethodName := ⟨RJ7, "fill", "([BIIB)V"⟩
def RL : String := "InscribedStonesLaw"
abbrev cL_law : ByteArray := code
def yL_law : MethodName := ⟨RL, "law", "([I)Z"⟩
abbrev vwCl : List vw_C := [(RX0, TX0, 8), (RX1, TX1, 4), (RX2, TX2, 10), (RX3, TX3, 3), (RX4, TX4, 6), (RX5, TX5, 3), (RX6, TX6, 3), (RX7, TX7, 3), (RX8, TX8, 2), (RX9, TX9, 2), (RX10, TX10, 2), (RX11, TX11, 12), (RX12, TX12, 44)]
end
section
/-! class names by number; links: (owner, code of what is linked, index) -/
def qCnl : List String := ["InscribedStones$Dating", "InscribedStones$Edges", "InscribedStones$FormulaMaker", "InscribedStones$Page", "InscribedStones$People", "InscribedStones$Readings", "InscribedStones$Stones", "InscribedStones$Surface", "InscribedStones$Tape", "InscribedStones$TextSet", "InscribedStones$Trays", "InscribedStones", "InscribedStonesModel", "java/lang/Integer", "java/lang/Long", "java/util/Arrays", "InscribedStonesLaw"]
def qCn (k : Nat) : String := qCnl.getD k ""
def qFL : List (Nat × Nat × Nat) := [(0, 0, 9), (0, 1, 15), (0, 2, 18), (0, 3, 21), (0, 4, 24), (0, 5, 27), (0, 6, 30), (0, 7, 39), (1, 100, 22), (1, 101, 9), (1, 102, 15), (1, 103, 18), (2, 200, 13), (2, 201, 17), (2, 202, 20), (2, 203, 27), (2, 204, 31), (2, 205, 41), (2, 206, 110), (2, 207, 114), (2, 208, 34), (2, 209, 38), (3, 300, 11), (3, 301, 15), (3, 302, 18), (4, 400, 25), (4, 401, 9), (4, 402, 15), (4, 403, 18), (4, 404, 22), (4, 405, 31), (5, 500, 9), (5, 501, 15), (5, 502, 32), (6, 600, 9), (6, 601, 15), (6, 602, 18), (7, 700, 9), (7, 701, 15), (7, 702, 18), (8, 800, 9), (8, 801, 15), (9, 900, 20), (9, 901, 24), (10, 1000, 9), (10, 1001, 15), (11, 1100, 12), (11, 1101, 19), (11, 1102, 26), (11, 1103, 33), (11, 1104, 39), (11, 1105, 135), (11, 1106, 46), (11, 1107, 55), (11, 1108, 62), (11, 1109, 71), (11, 1110, 78), (11, 1111, 85), (12, 1200, 107), (12, 1201, 121), (12, 1202, 210), (12, 1203, 269), (12, 1204, 252), (12, 1205, 7), (12, 1206, 147), (12, 1207, 13), (12, 1208, 17), (12, 1209, 20), (12, 1210, 23), (12, 1211, 26), (12, 1212, 29), (12, 1213, 33), (12, 1214, 36), (12, 1215, 168), (12, 1216, 159), (12, 1217, 153), (12, 1218, 156), (12, 1219, 150), (12, 1220, 165), (12, 1221, 174), (12, 1222, 40), (12, 1223, 43), (12, 1224, 46), (12, 1225, 49), (12, 1226, 52), (12, 1227, 55), (12, 1228, 58), (12, 1229, 61), (12, 1230, 64), (12, 1231, 67), (12, 1232, 70), (12, 1233, 73), (12, 1234, 76), (12, 1235, 79), (12, 1236, 83), (12, 1237, 86), (12, 1238, 89), (12, 1239, 92), (12, 1240, 95), (12, 1241, 98), (12, 1242, 101), (12, 1243, 104)]
def qCL : List (Nat × Nat × Nat) := [(2, 9, 11), (9, 9, 1), (11, 0, 59), (11, 1, 50), (11, 2, 30), (11, 3, 75), (11, 4, 66), (11, 5, 16), (11, 6, 9), (11, 7, 43), (11, 8, 23), (11, 9, 37), (11, 10, 82), (16, 11, 7), (16, 12, 10)]
def qLD : List (Nat × Nat × Nat) := [(5, 134217727, 22), (11, 4294867296, 237), (12, 38400, 39), (12, 96000, 32), (12, 134217727, 132), (12, 4294867296, 262), (13, 252645135, 267), (13, 858993459, 266), (13, 1431655765, 265)]
def qLL : List (Nat × Nat × Nat) := [(4, 27, 29), (9, 2, 37), (9, 31, 35), (9, 1152921504606846975, 67), (12, 27, 263), (14, 1085102592571150095, 318), (14, 3689348814741910323, 316), (14, 6148914691236517205, 314), (16, 4294967295, 37)]
def qML : List (Nat × Nat × Nat) := [(0, 6, 43), (0, 7, 47), (0, 249, 33), (0, 9999, 3), (1, 13, 32), (1, 14, 40), (1, 15, 69), (1, 18, 59), (1, 19, 62), (1, 21, 65), (1, 22, 36), (1, 78, 55), (1, 79, 73), (1, 82, 44), (1, 249, 26), (1, 9993, 50), (1, 9999, 3), (2, 28, 64), (2, 29, 71), (2, 30, 96), (2, 31, 100), (2, 32, 103), (2, 33, 107), (2, 34, 44), (2, 35, 120), (2, 36, 75), (2, 37, 117), (2, 97, 48), (2, 98, 68), (2, 99, 54), (2, 100, 82), (2, 101, 24), (2, 102, 89), (2, 107, 85), (2, 109, 92), (2, 110, 127), (2, 111, 123), (2, 113, 78), (2, 9991, 58), (2, 9999, 3), (3, 43, 39), (3, 45, 43), (3, 46, 36), (3, 47, 58), (3, 49, 55), (3, 62, 61), (3, 64, 24), (3, 65, 28), (3, 97, 65), (3, 98, 52), (3, 100, 47), (3, 246, 31), (3, 9999, 3), (4, 5, 48), (4, 8, 39), (4, 9, 45), (4, 54, 35), (4, 55, 62), (4, 57, 52), (4, 60, 65), (4, 9991, 56), (4, 9999, 3), (5, 63, 18), (5, 70, 36), (5, 71, 40), (5, 73, 43), (5, 74, 47), (5, 246, 23), (5, 9999, 3), (6, 79, 22), (6, 80, 26), (6, 9999, 3), (7, 87, 35), (7, 88, 28), (7, 91, 45), (7, 103, 32), (7, 106, 22), (7, 249, 39), (7, 9999, 3), (8, 98, 19), (8, 100, 23), (8, 9999, 3), (9, 101, 69), (9, 104, 28), (9, 105, 32), (9, 107, 63), (9, 108, 59), (9, 109, 51), (9, 110, 72), (9, 112, 55), (9, 247, 39), (9, 9991, 17), (9, 9992, 11), (9, 9998, 45), (9, 9999, 5), (10, 115, 29), (10, 117, 25), (10, 249, 19), (10, 250, 33), (10, 9999, 3), (11, 0, 61), (11, 1, 289), (11, 2, 225), (11, 3, 229), (11, 4, 231), (11, 5, 234), (11, 8, 238), (11, 9, 241), (11, 10, 244), (11, 11, 52), (11, 12, 294), (11, 14, 222), (11, 16, 201), (11, 17, 204), (11, 18, 210), (11, 19, 213), (11, 20, 216), (11, 22, 219), (11, 23, 290), (11, 24, 32), (11, 25, 139), (11, 26, 146), (11, 27, 150), (11, 39, 300), (11, 40, 273), (11, 41, 274), (11, 42, 281), (11, 44, 301), (11, 48, 277), (11, 50, 68), (11, 51, 247), (11, 52, 251), (11, 53, 288), (11, 54, 254), (11, 55, 255), (11, 56, 258), (11, 58, 261), (11, 59, 264), (11, 62, 105), (11, 64, 119), (11, 65, 122), (11, 66, 318), (11, 67, 93), (11, 68, 285), (11, 69, 97), (11, 71, 111), (11, 72, 108), (11, 73, 125), (11, 74, 115), (11, 75, 128), (11, 77, 89), (11, 78, 284), (11, 79, 207), (11, 80, 165), (11, 81, 101), (11, 83, 192), (11, 85, 188), (11, 86, 195), (11, 89, 173), (11, 90, 177), (11, 91, 297), (11, 92, 181), (11, 93, 185), (11, 95, 131), (11, 96, 143), (11, 97, 293), (11, 100, 315), (11, 103, 158), (11, 106, 162), (11, 114, 84), (11, 115, 304), (11, 116, 307), (11, 118, 305), (11, 119, 310), (11, 120, 313), (11, 135, 154), (11, 136, 169), (11, 137, 189), (11, 146, 198), (11, 160, 267), (11, 161, 270), (11, 9999, 3), (12, 167, 110), (12, 168, 114), (12, 169, 118), (12, 170, 128), (12, 171, 124), (12, 174, 133), (12, 177, 137), (12, 178, 141), (12, 179, 144), (12, 182, 162), (12, 183, 189), (12, 184, 198), (12, 185, 171), (12, 186, 186), (12, 187, 182), (12, 188, 201), (12, 189, 178), (12, 190, 195), (12, 191, 192), (12, 192, 213), (12, 194, 216), (12, 196, 219), (12, 198, 223), (12, 199, 226), (12, 200, 230), (12, 203, 234), (12, 206, 237), (12, 207, 240), (12, 210, 246), (12, 212, 249), (12, 221, 255), (12, 222, 258), (12, 225, 265), (12, 227, 275), (12, 228, 272), (12, 230, 285), (12, 231, 278), (12, 234, 289), (12, 237, 292), (12, 238, 295), (12, 239, 298), (12, 9991, 282), (12, 9992, 204), (12, 9993, 243), (12, 9999, 1), (15, 248, 13), (16, 121, 9), (16, 122, 13), (16, 123, 18), (16, 124, 23), (16, 125, 28), (16, 126, 33), (16, 127, 39), (16, 128, 44), (16, 129, 49), (16, 130, 53), (16, 131, 58), (16, 132, 62), (16, 133, 66), (16, 134, 70), (16, 138, 74), (16, 139, 78), (16, 140, 82), (16, 141, 86), (16, 142, 90), (16, 143, 94), (16, 144, 98), (16, 145, 102), (16, 147, 106), (16, 148, 110), (16, 149, 114), (16, 150, 118), (16, 151, 122), (16, 152, 126), (16, 153, 131), (16, 154, 135), (16, 155, 139), (16, 156, 143), (16, 157, 147), (16, 158, 151), (16, 159, 155), (16, 162, 159), (16, 163, 163), (16, 164, 167), (16, 165, 172), (16, 166, 12), (16, 172, 17), (16, 173, 22), (16, 175, 27), (16, 176, 32), (16, 180, 36), (16, 181, 43), (16, 193, 48), (16, 195, 52), (16, 197, 57), (16, 201, 61), (16, 202, 65), (16, 204, 69), (16, 205, 73), (16, 208, 77), (16, 209, 81), (16, 211, 85), (16, 213, 89), (16, 214, 93), (16, 215, 97), (16, 216, 101), (16, 217, 105), (16, 218, 109), (16, 219, 113), (16, 220, 117), (16, 223, 121), (16, 224, 125), (16, 226, 130), (16, 229, 134), (16, 232, 138), (16, 233, 142), (16, 235, 146), (16, 236, 150), (16, 240, 154), (16, 241, 158), (16, 242, 162), (16, 243, 166), (16, 244, 171), (16, 245, 175)]
def qMN : List (Nat × Nat × Nat) := [(11, 38, 77), (11, 61, 18), (11, 76, 11), (11, 84, 45), (11, 94, 25)]
/-- the kinds of the cells by their numbers, the sizes of the rows of fixed size, the types of fields (0 int, 1 boolean, 2 reference) -/
def qBase : Nat := 96
def qKl : List Nat := [18, 18, 11, 6, 14, 14, 5, 14, 14, 8, 13, 2, 17, 17, 16, 9, 15, 9, 15, 9, 15, 9, 15, 9, 15, 9, 15, 9, 15, 9, 15, 9, 15, 9, 15, 9, 15, 9, 15, 17, 7, 14, 14, 1, 14, 14, 0, 14, 14, 14, 14, 14, 14, 14, 4, 15, 15, 14, 14, 3, 14, 14, 10, 13, 14, 12, 14, 14, 14, 14, 14, 14, 14, 14, 14, 14, 14, 14, 14, 14, 14, 14, 14, 14, 14, 14, 14, 15, 15, 14, 14, 14, 14, 14, 14, 14]
def qSl : List (Option Nat) := [none, some 6, none, none, some 12, some 12, none, some 6, some 6912, none, some 200, none, some 5, some 5, some 5, none, none, none, none, none, none, none, none, none, none, none, none, none, none, none, none, none, none, none, none, none, none, none, none, some 8, none, some 24, some 24, none, some 96, some 24, none, some 12, some 12, some 12, some 12, some 20, some 20, some 20, none, some 12, some 12, some 12, some 12, none, some 72, some 24, none, some 160, some 4, none, some 12, some 12, some 6, some 200, some 6912, some 6912, some 96000, some 4000, some 38400, some 1600, some 8, some 96, some 12, some 12, some 12, some 12, some 12, some 12, some 20, some 20, some 20, some 12, some 12, some 12, some 12, some 72, some 24, some 24, some 4, some 160]
def qTfl : List (List Nat) := [[2, 2, 2, 2, 2, 2, 2, 0], [2, 2, 2, 0], [2, 2, 2, 2, 2, 2, 0, 1, 1, 1], [2, 2, 0], [2, 2, 2, 2, 2, 0], [2, 2, 0], [2, 2, 0], [2, 2, 0], [2, 0], [2, 0], [2, 2], [2, 2, 2, 2, 2, 0, 2, 2, 2, 2, 2, 2], [0, 0, 0, 0, 0, 0, 0, 2, 2, 2, 2, 2, 2, 2, 2, 0, 0, 0, 0, 0, 0, 1, 2, 2, 2, 2, 2, 2, 2, 2, 2, 2, 2, 2, 2, 2, 2, 2, 2, 2, 2, 2, 2, 2]]
def qGl : List (List (Option Nat)) := [[some 47, some 48, some 49, some 50, some 51, some 52, some 53, none], [some 3, some 44, some 45, none], [some 12, some 13, some 14, some 15, none, none, none, none, none, none], [some 60, some 61, none], [some 46, some 55, some 56, some 57, some 58, none], [some 7, some 8, none], [some 4, some 5, none], [some 41, some 42, none], [some 10, none], [none, none], [some 63, some 64], [some 3, some 6, some 9, some 11, some 39, none, some 40, some 43, some 46, some 54, some 59, some 62], [none, none, none, none, none, none, none, some 66, some 67, some 68, some 69, some 70, some 71, some 72, some 73, none, none, none, none, none, none, none, some 74, some 75, some 76, some 77, some 78, some 79, some 80, some 81, some 82, some 83, some 84, some 85, some 86, some 87, some 88, some 89, some 90, some 91, some 92, some 93, some 94, some 95]]
abbrev qT : Type := (Nat × MethodName × ByteArray × Nat × Option FieldType) × (Nat × Nat × Nat × Bool) × List (Nat × List (Nat × Instr × Nat))
def m_X0_init : qT := ((0, yX0_init, cX0_init, 1, none), (0, 7, 108, false), [(12, [(0, .aload_n 0, 1), (1, .invokespecial 9999, 3), (4, .aload_n 0, 1), (5, .bipush 12, 2), (7, .newarray .int, 2), (9, .putfield 0, 3), (12, .aload_n 0, 1)]), (25, [(13, .bipush 12, 2), (15, .newarray .int, 2), (17, .putfield 1, 3), (20, .aload_n 0, 1), (21, .bipush 12, 2), (23, .newarray .int, 2), (25, .putfield 2, 3)]), (39, [(28, .aload_n 0, 1), (29, .bipush 12, 2), (31, .newarray .int, 2), (33, .putfield 3, 3), (36, .aload_n 0, 1), (37, .bipush 20, 2), (39, .newarray .int, 2)]), (53, [(41, .putfield 4, 3), (44, .aload_n 0, 1), (45, .bipush 20, 2), (47, .newarray .int, 2), (49, .putfield 5, 3), (52, .aload_n 0, 1), (53, .bipush 20, 2)]), (70, [(55, .newarray .int, 2), (57, .putfield 6, 3), (60, .aload_n 0, 1), (61, .getfield 0, 3), (64, .sipush (-999), 3), (67, .invokestatic 249, 3), (70, .aload_n 0, 1)]), (80, [(71, .getfield 1, 3), (74, .sipush 999, 3), (77, .invokestatic 249, 3), (80, .return_, 1)])])
def m_X0_size : qT := ((0, yX0_size, cX0_size, 1, (some .int)), (0, 0, 0, true), [(4, [(0, .aload_n 0, 1), (1, .getfield 7, 3), (4, .ireturn, 1)])])
def m_X0_limit : qT := ((0, yX0_limit, cX0_limit, 4, none), (3, 0, 0, true), [(7, [(0, .iload_n 1, 1), (1, .ifCond .lt 24, 3), (4, .iload_n 1, 1), (5, .bipush 12, 2), (7, .if_icmp .ge 24, 3)]), (16, [(10, .aload_n 0, 1), (11, .getfield 0, 3), (14, .iload_n 1, 1), (15, .iload_n 2, 1), (16, .iastore, 1)]), (23, [(17, .aload_n 0, 1), (18, .getfield 1, 3), (21, .iload_n 1, 1), (22, .iload_n 3, 1), (23, .iastore, 1)]), (24, [(24, .return_, 1)])])
def m_X0_put : qT := ((0, yX0_put, cX0_put, 5, (some .int)), (3, 0, 0, true), [(14, [(0, .iload_n 1, 1), (1, .ifCond .lt 24, 3), (4, .iload_n 1, 1), (5, .bipush 12, 2), (7, .if_icmp .ge 24, 3), (10, .iload_n 2, 1), (11, .ifCond .lt 24, 3), (14, .iload_n 2, 1)]), (29, [(15, .bipush 12, 2), (17, .if_icmp .ge 24, 3), (20, .iconst 1, 1), (21, .goto 25, 3), (24, .iconst 0, 1), (25, .istore 4, 2), (27, .iload 4, 2), (29, .ifCond .eq 48, 3)]), (48, [(32, .aload_n 0, 1), (33, .getfield 7, 3), (36, .ifCond .lt 48, 3), (39, .aload_n 0, 1), (40, .getfield 7, 3), (43, .bipush 20, 2), (45, .if_icmp .lt 51, 3), (48, .bipush (-4), 2)]), (61, [(50, .ireturn, 1), (51, .aload_n 0, 1), (52, .getfield 4, 3), (55, .aload_n 0, 1), (56, .getfield 7, 3), (59, .iload_n 1, 1), (60, .iastore, 1), (61, .aload_n 0, 1)]), (75, [(62, .getfield 5, 3), (65, .aload_n 0, 1), (66, .getfield 7, 3), (69, .iload_n 2, 1), (70, .iastore, 1), (71, .aload_n 0, 1), (72, .getfield 6, 3), (75, .aload_n 0, 1)]), (87, [(76, .getfield 7, 3), (79, .iload_n 3, 1), (80, .iastore, 1), (81, .aload_n 0, 1), (82, .dup, 1), (83, .getfield 7, 3), (86, .iconst 1, 1), (87, .iadd, 1)]), (95, [(88, .putfield 7, 3), (91, .aload_n 0, 1), (92, .getfield 7, 3), (95, .ireturn, 1)])])
def m_X0_drop : qT := ((0, yX0_drop, cX0_drop, 1, (some .int)), (0, 0, 0, true), [(7, [(0, .aload_n 0, 1), (1, .getfield 7, 3), (4, .ifCond .gt 10, 3), (7, .bipush (-3), 2)]), (12, [(9, .ireturn, 1), (10, .aload_n 0, 1), (11, .dup, 1), (12, .getfield 7, 3)]), (20, [(15, .iconst 1, 1), (16, .isub, 1), (17, .putfield 7, 3), (20, .aload_n 0, 1)]), (24, [(21, .getfield 7, 3), (24, .ireturn, 1)])])
def m_X0_settle : qT := ((0, yX0_settle, cX0_settle, 1, (some .boolean)), (0, 0, 0, true), [(3, [(0, .aload_n 0, 1), (1, .iconst 1, 1), (2, .aload_n 0, 1), (3, .getfield 7, 3)]), (9, [(6, .ishl, 1), (7, .iconst 1, 1), (8, .isub, 1), (9, .invokevirtual 6, 3)]), (12, [(12, .ireturn, 1)])])
def m_X0_settleBy : qT := ((0, yX0_settleBy, cX0_settleBy, 4, (some .boolean)), (1, 0, 0, true), [(13, [(0, .iconst 0, 1), (1, .istore_n 2, 1), (2, .iload_n 2, 1), (3, .bipush 12, 2), (5, .if_icmp .ge 38, 3), (8, .aload_n 0, 1), (9, .getfield 2, 3), (12, .iload_n 2, 1), (13, .aload_n 0, 1)]), (26, [(14, .getfield 0, 3), (17, .iload_n 2, 1), (18, .iaload, 1), (19, .iastore, 1), (20, .aload_n 0, 1), (21, .getfield 3, 3), (24, .iload_n 2, 1), (25, .aload_n 0, 1), (26, .getfield 1, 3)]), (41, [(29, .iload_n 2, 1), (30, .iaload, 1), (31, .iastore, 1), (32, .iinc 2 1, 3), (35, .goto 2, 3), (38, .iconst 1, 1), (39, .istore_n 2, 1), (40, .iconst 0, 1), (41, .istore_n 3, 1)]), (57, [(42, .iload_n 3, 1), (43, .bipush 12, 2), (45, .if_icmp .gt 64, 3), (48, .iload_n 2, 1), (49, .ifCond .eq 64, 3), (52, .aload_n 0, 1), (53, .iload_n 1, 1), (54, .invokevirtual 7, 3), (57, .istore_n 2, 1)]), (73, [(58, .iinc 3 1, 3), (61, .goto 42, 3), (64, .iconst 0, 1), (65, .istore_n 3, 1), (66, .iload_n 3, 1), (67, .bipush 12, 2), (69, .if_icmp .ge 103, 3), (72, .iload_n 2, 1), (73, .ifCond .ne 103, 3)]), (88, [(76, .aload_n 0, 1), (77, .getfield 2, 3), (80, .iload_n 3, 1), (81, .iaload, 1), (82, .aload_n 0, 1), (83, .getfield 3, 3), (86, .iload_n 3, 1), (87, .iaload, 1), (88, .if_icmp .le 95, 3)]), (107, [(91, .iconst 1, 1), (92, .goto 96, 3), (95, .iconst 0, 1), (96, .istore_n 2, 1), (97, .iinc 3 1, 3), (100, .goto 66, 3), (103, .iload_n 2, 1), (104, .ifCond .ne 111, 3), (107, .iconst 1, 1)]), (112, [(108, .goto 112, 3), (111, .iconst 0, 1), (112, .ireturn, 1)])])
def m_X0_tighten : qT := ((0, yX0_tighten, cX0_tighten, 7, (some .boolean)), (1, 0, 0, true), [(15, [(0, .iconst 0, 1), (1, .istore_n 2, 1), (2, .iconst 0, 1), (3, .istore_n 3, 1), (4, .iload_n 3, 1), (5, .aload_n 0, 1), (6, .getfield 7, 3), (9, .if_icmp .ge 179, 3), (12, .iload_n 3, 1), (13, .bipush 20, 2), (15, .if_icmp .ge 179, 3)]), (34, [(18, .aload_n 0, 1), (19, .getfield 4, 3), (22, .iload_n 3, 1), (23, .iaload, 1), (24, .istore 4, 2), (26, .aload_n 0, 1), (27, .getfield 5, 3), (30, .iload_n 3, 1), (31, .iaload, 1), (32, .istore 5, 2), (34, .iload 4, 2)]), (59, [(36, .ifCond .lt 62, 3), (39, .iload 4, 2), (41, .bipush 12, 2), (43, .if_icmp .ge 62, 3), (46, .iload 5, 2), (48, .ifCond .lt 62, 3), (51, .iload 5, 2), (53, .bipush 12, 2), (55, .if_icmp .ge 62, 3), (58, .iconst 1, 1), (59, .goto 63, 3)]), (76, [(62, .iconst 0, 1), (63, .istore 6, 2), (65, .iload 6, 2), (67, .ifCond .eq 173, 3), (70, .iload_n 1, 1), (71, .iload_n 3, 1), (72, .ishr, 1), (73, .iconst 1, 1), (74, .iand, 1), (75, .iconst 1, 1), (76, .if_icmp .ne 173, 3)]), (97, [(79, .aload_n 0, 1), (80, .getfield 2, 3), (83, .iload 5, 2), (85, .iaload, 1), (86, .aload_n 0, 1), (87, .getfield 2, 3), (90, .iload 4, 2), (92, .iaload, 1), (93, .aload_n 0, 1), (94, .getfield 6, 3), (97, .iload_n 3, 1)]), (116, [(98, .iaload, 1), (99, .iadd, 1), (100, .if_icmp .ge 126, 3), (103, .aload_n 0, 1), (104, .getfield 2, 3), (107, .iload 5, 2), (109, .aload_n 0, 1), (110, .getfield 2, 3), (113, .iload 4, 2), (115, .iaload, 1), (116, .aload_n 0, 1)]), (132, [(117, .getfield 6, 3), (120, .iload_n 3, 1), (121, .iaload, 1), (122, .iadd, 1), (123, .iastore, 1), (124, .iconst 1, 1), (125, .istore_n 2, 1), (126, .aload_n 0, 1), (127, .getfield 3, 3), (130, .iload 4, 2), (132, .iaload, 1)]), (150, [(133, .aload_n 0, 1), (134, .getfield 3, 3), (137, .iload 5, 2), (139, .iaload, 1), (140, .aload_n 0, 1), (141, .getfield 6, 3), (144, .iload_n 3, 1), (145, .iaload, 1), (146, .isub, 1), (147, .if_icmp .le 173, 3), (150, .aload_n 0, 1)]), (169, [(151, .getfield 3, 3), (154, .iload 4, 2), (156, .aload_n 0, 1), (157, .getfield 3, 3), (160, .iload 5, 2), (162, .iaload, 1), (163, .aload_n 0, 1), (164, .getfield 6, 3), (167, .iload_n 3, 1), (168, .iaload, 1), (169, .isub, 1)]), (180, [(170, .iastore, 1), (171, .iconst 1, 1), (172, .istore_n 2, 1), (173, .iinc 3 1, 3), (176, .goto 4, 3), (179, .iload_n 2, 1), (180, .ireturn, 1)])])
def m_X0_earliest : qT := ((0, yX0_earliest, cX0_earliest, 2, (some .int)), (1, 0, 0, true), [(5, [(0, .iload_n 1, 1), (1, .ifCond .lt 19, 3), (4, .iload_n 1, 1), (5, .bipush 12, 2)]), (14, [(7, .if_icmp .ge 19, 3), (10, .aload_n 0, 1), (11, .getfield 2, 3), (14, .iload_n 1, 1)]), (22, [(15, .iaload, 1), (16, .goto 22, 3), (19, .sipush (-999), 3), (22, .ireturn, 1)])])
def m_X0_latest : qT := ((0, yX0_latest, cX0_latest, 2, (some .int)), (1, 0, 0, true), [(5, [(0, .iload_n 1, 1), (1, .ifCond .lt 19, 3), (4, .iload_n 1, 1), (5, .bipush 12, 2)]), (14, [(7, .if_icmp .ge 19, 3), (10, .aload_n 0, 1), (11, .getfield 3, 3), (14, .iload_n 1, 1)]), (22, [(15, .iaload, 1), (16, .goto 22, 3), (19, .sipush 999, 3), (22, .ireturn, 1)])])
def m_X0_clashing : qT := ((0, yX0_clashing, cX0_clashing, 4, (some .int)), (0, 0, 0, true), [(8, [(0, .iconst 1, 1), (1, .aload_n 0, 1), (2, .getfield 7, 3), (5, .ishl, 1), (6, .iconst 1, 1), (7, .isub, 1), (8, .istore_n 1, 1)]), (19, [(9, .aload_n 0, 1), (10, .iload_n 1, 1), (11, .invokevirtual 6, 3), (14, .ifCond .eq 19, 3), (17, .iconst (-1), 1), (18, .ireturn, 1), (19, .aload_n 0, 1)]), (30, [(20, .getfield 7, 3), (23, .iconst 1, 1), (24, .isub, 1), (25, .istore_n 2, 1), (26, .iload_n 2, 1), (27, .ifCond .lt 54, 3), (30, .iload_n 1, 1)]), (37, [(31, .iconst 1, 1), (32, .iload_n 2, 1), (33, .ishl, 1), (34, .iconst (-1), 1), (35, .ixor, 1), (36, .iand, 1), (37, .istore_n 3, 1)]), (48, [(38, .aload_n 0, 1), (39, .iload_n 3, 1), (40, .invokevirtual 6, 3), (43, .ifCond .ne 48, 3), (46, .iload_n 3, 1), (47, .istore_n 1, 1), (48, .iinc 2 (-1), 3)]), (55, [(51, .goto 26, 3), (54, .iload_n 1, 1), (55, .ireturn, 1)])])
def m_X1_init : qT := ((1, yX1_init, cX1_init, 2, none), (1, 2, 120, false), [(7, [(0, .aload_n 0, 1), (1, .invokespecial 9999, 3), (4, .aload_n 0, 1), (5, .bipush 96, 2), (7, .newarray .int, 2)]), (17, [(9, .putfield 101, 3), (12, .aload_n 0, 1), (13, .bipush 24, 2), (15, .newarray .int, 2), (17, .putfield 102, 3)]), (26, [(20, .aload_n 0, 1), (21, .iconst 1, 1), (22, .putfield 103, 3), (25, .aload_n 0, 1), (26, .aload_n 1, 1)]), (35, [(27, .putfield 100, 3), (30, .aload_n 0, 1), (31, .getfield 102, 3), (34, .iconst (-1), 1), (35, .invokestatic 249, 3)]), (38, [(38, .return_, 1)])])
def m_X1_allowance : qT := ((1, yX1_allowance, cX1_allowance, 1, (some .int)), (0, 0, 0, true), [(4, [(0, .aload_n 0, 1), (1, .getfield 103, 3), (4, .ireturn, 1)])])
def m_X1_mark : qT := ((1, yX1_mark, cX1_mark, 5, (some .int)), (3, 0, 0, true), [(4, [(0, .iload_n 1, 1), (1, .iconst 2, 1), (2, .imul, 1), (3, .iload_n 2, 1), (4, .iadd, 1)]), (9, [(5, .iconst 4, 1), (6, .imul, 1), (7, .iload_n 3, 1), (8, .iadd, 1), (9, .istore 4, 2)]), (19, [(11, .iload 4, 2), (13, .ifCond .lt 36, 3), (16, .iload 4, 2), (18, .aload_n 0, 1), (19, .getfield 101, 3)]), (30, [(22, .arraylength, 1), (23, .if_icmp .ge 36, 3), (26, .aload_n 0, 1), (27, .getfield 101, 3), (30, .iload 4, 2)]), (37, [(32, .iaload, 1), (33, .goto 37, 3), (36, .iconst 0, 1), (37, .ireturn, 1)])])
def m_X1_neighbour : qT := ((1, yX1_neighbour, cX1_neighbour, 4, (some .int)), (2, 0, 0, true), [(4, [(0, .iload_n 1, 1), (1, .iconst 2, 1), (2, .imul, 1), (3, .iload_n 2, 1), (4, .iadd, 1)]), (11, [(5, .istore_n 3, 1), (6, .iload_n 3, 1), (7, .ifCond .lt 28, 3), (10, .iload_n 3, 1), (11, .aload_n 0, 1)]), (20, [(12, .getfield 102, 3), (15, .arraylength, 1), (16, .if_icmp .ge 28, 3), (19, .aload_n 0, 1), (20, .getfield 102, 3)]), (29, [(23, .iload_n 3, 1), (24, .iaload, 1), (25, .goto 29, 3), (28, .iconst (-1), 1), (29, .ireturn, 1)])])
def m_X1_setNeighbour : qT := ((1, yX1_setNeighbour, cX1_setNeighbour, 5, none), (3, 0, 0, true), [(4, [(0, .iload_n 1, 1), (1, .iconst 2, 1), (2, .imul, 1), (3, .iload_n 2, 1), (4, .iadd, 1)]), (14, [(5, .istore 4, 2), (7, .iload 4, 2), (9, .ifCond .lt 30, 3), (12, .iload 4, 2), (14, .aload_n 0, 1)]), (23, [(15, .getfield 102, 3), (18, .arraylength, 1), (19, .if_icmp .ge 30, 3), (22, .aload_n 0, 1), (23, .getfield 102, 3)]), (30, [(26, .iload 4, 2), (28, .iload_n 3, 1), (29, .iastore, 1), (30, .return_, 1)])])
def m_X1_tell : qT := ((1, yX1_tell, cX1_tell, 7, (some .int)), (4, 0, 0, true), [(9, [(0, .aload_n 0, 1), (1, .iload_n 1, 1), (2, .iload_n 2, 1), (3, .iload_n 3, 1), (4, .invokevirtual 13, 3), (7, .istore 5, 2), (9, .iload_n 1, 1)]), (16, [(10, .iconst 2, 1), (11, .imul, 1), (12, .iload_n 2, 1), (13, .iadd, 1), (14, .iconst 4, 1), (15, .imul, 1), (16, .iload_n 3, 1)]), (28, [(17, .iadd, 1), (18, .istore 6, 2), (20, .iload 6, 2), (22, .ifCond .lt 44, 3), (25, .iload 6, 2), (27, .aload_n 0, 1), (28, .getfield 101, 3)]), (43, [(31, .arraylength, 1), (32, .if_icmp .ge 44, 3), (35, .aload_n 0, 1), (36, .getfield 101, 3), (39, .iload 6, 2), (41, .iload 4, 2), (43, .iastore, 1)]), (52, [(44, .aload_n 0, 1), (45, .iload_n 1, 1), (46, .invokevirtual 22, 3), (49, .pop, 1), (50, .aload_n 0, 1), (51, .aload_n 0, 1), (52, .iload_n 1, 1)]), (63, [(53, .iconst 0, 1), (54, .invokevirtual 14, 3), (57, .invokevirtual 22, 3), (60, .pop, 1), (61, .iload 5, 2), (63, .ireturn, 1)])])
def m_X1_tellTolerance : qT := ((1, yX1_tellTolerance, cX1_tellTolerance, 3, (some .int)), (1, 0, 0, true), [(5, [(0, .aload_n 0, 1), (1, .getfield 103, 3), (4, .istore_n 2, 1), (5, .aload_n 0, 1)]), (11, [(6, .iload_n 1, 1), (7, .putfield 103, 3), (10, .aload_n 0, 1), (11, .getfield 102, 3)]), (19, [(14, .iconst (-1), 1), (15, .invokestatic 249, 3), (18, .iload_n 2, 1), (19, .ireturn, 1)])])
def m_X1_sum : qT := ((1, yX1_sum, cX1_sum, 6, (some .int)), (2, 0, 0, true), [(13, [(0, .iload_n 1, 1), (1, .iload_n 2, 1), (2, .if_icmp .eq 24, 3), (5, .aload_n 0, 1), (6, .getfield 100, 3), (9, .iload_n 1, 1), (10, .invokevirtual 82, 3), (13, .aload_n 0, 1)]), (27, [(14, .getfield 100, 3), (17, .iload_n 2, 1), (18, .invokevirtual 82, 3), (21, .if_icmp .eq 26, 3), (24, .iconst (-1), 1), (25, .ireturn, 1), (26, .iconst 0, 1), (27, .istore_n 3, 1)]), (41, [(28, .iconst 0, 1), (29, .istore 4, 2), (31, .iload 4, 2), (33, .aload_n 0, 1), (34, .getfield 100, 3), (37, .iload_n 1, 1), (38, .invokevirtual 82, 3), (41, .if_icmp .ge 88, 3)]), (54, [(44, .aload_n 0, 1), (45, .iload_n 1, 1), (46, .iconst 1, 1), (47, .iload 4, 2), (49, .invokevirtual 13, 3), (52, .aload_n 0, 1), (53, .iload_n 2, 1), (54, .iconst 0, 1)]), (69, [(55, .iload 4, 2), (57, .invokevirtual 13, 3), (60, .isub, 1), (61, .invokestatic 9993, 3), (64, .istore 5, 2), (66, .iload 5, 2), (68, .aload_n 0, 1), (69, .getfield 103, 3)]), (82, [(72, .if_icmp .le 77, 3), (75, .iconst (-1), 1), (76, .ireturn, 1), (77, .iload_n 3, 1), (78, .iload 5, 2), (80, .iadd, 1), (81, .istore_n 3, 1), (82, .iinc 4 1, 3)]), (89, [(85, .goto 31, 3), (88, .iload_n 3, 1), (89, .ireturn, 1)])])
def m_X1_bestOf : qT := ((1, yX1_bestOf, cX1_bestOf, 8, (some .int)), (2, 0, 0, true), [(11, [(0, .aload_n 0, 1), (1, .iload_n 1, 1), (2, .iload_n 2, 1), (3, .invokevirtual 14, 3), (6, .iconst (-1), 1), (7, .if_icmp .eq 12, 3), (10, .iconst (-1), 1), (11, .ireturn, 1)]), (22, [(12, .iconst (-1), 1), (13, .istore_n 3, 1), (14, .iconst (-1), 1), (15, .istore 4, 2), (17, .iconst 0, 1), (18, .istore 5, 2), (20, .iload 5, 2), (22, .aload_n 0, 1)]), (38, [(23, .getfield 100, 3), (26, .invokevirtual 78, 3), (29, .if_icmp .ge 112, 3), (32, .iload_n 2, 1), (33, .iconst 1, 1), (34, .if_icmp .ne 47, 3), (37, .aload_n 0, 1), (38, .iload_n 1, 1)]), (54, [(39, .iload 5, 2), (41, .invokevirtual 18, 3), (44, .goto 54, 3), (47, .aload_n 0, 1), (48, .iload 5, 2), (50, .iload_n 1, 1), (51, .invokevirtual 18, 3), (54, .istore 6, 2)]), (66, [(56, .aload_n 0, 1), (57, .iload 5, 2), (59, .iconst 1, 1), (60, .iload_n 2, 1), (61, .isub, 1), (62, .invokevirtual 14, 3), (65, .iconst (-1), 1), (66, .if_icmp .ne 73, 3)]), (83, [(69, .iconst 1, 1), (70, .goto 74, 3), (73, .iconst 0, 1), (74, .istore 7, 2), (76, .iload 7, 2), (78, .ifCond .eq 106, 3), (81, .iload 6, 2), (83, .iconst (-1), 1)]), (99, [(84, .if_icmp .eq 106, 3), (87, .iload_n 3, 1), (88, .iconst (-1), 1), (89, .if_icmp .eq 99, 3), (92, .iload 6, 2), (94, .iload 4, 2), (96, .if_icmp .ge 106, 3), (99, .iload 5, 2)]), (113, [(101, .istore_n 3, 1), (102, .iload 6, 2), (104, .istore 4, 2), (106, .iinc 5 1, 3), (109, .goto 20, 3), (112, .iload_n 3, 1), (113, .ireturn, 1)])])
def m_X1_tie : qT := ((1, yX1_tie, cX1_tie, 3, (some .boolean)), (2, 0, 0, true), [(7, [(0, .aload_n 0, 1), (1, .iload_n 1, 1), (2, .iconst 1, 1), (3, .invokevirtual 19, 3), (6, .iload_n 2, 1), (7, .if_icmp .ne 29, 3)]), (17, [(10, .aload_n 0, 1), (11, .iload_n 2, 1), (12, .iconst 0, 1), (13, .invokevirtual 19, 3), (16, .iload_n 1, 1), (17, .if_icmp .ne 29, 3)]), (29, [(20, .aload_n 0, 1), (21, .iload_n 2, 1), (22, .iload_n 1, 1), (23, .invokevirtual 21, 3), (26, .ifCond .eq 31, 3), (29, .iconst 0, 1)]), (35, [(30, .ireturn, 1), (31, .aload_n 0, 1), (32, .iload_n 1, 1), (33, .iconst 1, 1), (34, .iload_n 2, 1), (35, .invokevirtual 15, 3)]), (45, [(38, .aload_n 0, 1), (39, .iload_n 2, 1), (40, .iconst 0, 1), (41, .iload_n 1, 1), (42, .invokevirtual 15, 3), (45, .iconst 1, 1)]), (46, [(46, .ireturn, 1)])])
def m_X1_leadsTo : qT := ((1, yX1_leadsTo, cX1_leadsTo, 5, (some .boolean)), (2, 0, 0, true), [(5, [(0, .iload_n 1, 1), (1, .istore_n 3, 1), (2, .iconst 0, 1), (3, .istore 4, 2), (5, .iload 4, 2)]), (14, [(7, .bipush 12, 2), (9, .if_icmp .ge 37, 3), (12, .iload_n 3, 1), (13, .iconst (-1), 1), (14, .if_icmp .eq 37, 3)]), (23, [(17, .iload_n 3, 1), (18, .iload_n 2, 1), (19, .if_icmp .ne 24, 3), (22, .iconst 1, 1), (23, .ireturn, 1)]), (30, [(24, .aload_n 0, 1), (25, .iload_n 3, 1), (26, .iconst 1, 1), (27, .invokevirtual 14, 3), (30, .istore_n 3, 1)]), (38, [(31, .iinc 4 1, 3), (34, .goto 5, 3), (37, .iconst 0, 1), (38, .ireturn, 1)])])
def m_X1_untieRight : qT := ((1, yX1_untieRight, cX1_untieRight, 3, (some .boolean)), (1, 0, 0, true), [(11, [(0, .aload_n 0, 1), (1, .getfield 100, 3), (4, .iload_n 1, 1), (5, .invokevirtual 79, 3), (8, .ifCond .ne 13, 3), (11, .iconst 0, 1)]), (19, [(12, .ireturn, 1), (13, .aload_n 0, 1), (14, .iload_n 1, 1), (15, .iconst 1, 1), (16, .invokevirtual 14, 3), (19, .istore_n 2, 1)]), (27, [(20, .iload_n 2, 1), (21, .iconst (-1), 1), (22, .if_icmp .ne 27, 3), (25, .iconst 0, 1), (26, .ireturn, 1), (27, .aload_n 0, 1)]), (35, [(28, .iload_n 1, 1), (29, .iconst 1, 1), (30, .iconst (-1), 1), (31, .invokevirtual 15, 3), (34, .aload_n 0, 1), (35, .iload_n 2, 1)]), (42, [(36, .iconst 0, 1), (37, .iconst (-1), 1), (38, .invokevirtual 15, 3), (41, .iconst 1, 1), (42, .ireturn, 1)])])
def m_X1_ties : qT := ((1, yX1_ties, cX1_ties, 3, (some .int)), (0, 0, 0, true), [(4, [(0, .iconst 0, 1), (1, .istore_n 1, 1), (2, .iconst 0, 1), (3, .istore_n 2, 1), (4, .iload_n 2, 1)]), (15, [(5, .aload_n 0, 1), (6, .getfield 100, 3), (9, .invokevirtual 78, 3), (12, .if_icmp .ge 34, 3), (15, .aload_n 0, 1)]), (22, [(16, .iload_n 2, 1), (17, .iconst 1, 1), (18, .invokevirtual 14, 3), (21, .iconst (-1), 1), (22, .if_icmp .eq 28, 3)]), (35, [(25, .iinc 1 1, 3), (28, .iinc 2 1, 3), (31, .goto 4, 3), (34, .iload_n 1, 1), (35, .ireturn, 1)])])
def m_X2_init : qT := ((2, yX2_init, cX2_init, 2, none), (0, 27, 4839, false), [(13, [(0, .aload_n 0, 1), (1, .invokespecial 9999, 3), (4, .aload_n 0, 1), (5, .iconst 5, 1), (6, .anewarray 9, 3), (9, .putfield 200, 3), (12, .aload_n 0, 1), (13, .iconst 5, 1)]), (28, [(14, .anewarray 9, 3), (17, .putfield 201, 3), (20, .aload_n 0, 1), (21, .iconst 5, 1), (22, .newarray .boolean, 2), (24, .putfield 202, 3), (27, .aload_n 0, 1), (28, .new 9, 3)]), (44, [(31, .dup, 1), (32, .iconst 1, 1), (33, .invokespecial 101, 3), (36, .putfield 203, 3), (39, .aload_n 0, 1), (40, .new 9, 3), (43, .dup, 1), (44, .sipush 200, 3)]), (60, [(47, .invokespecial 101, 3), (50, .putfield 204, 3), (53, .iconst 0, 1), (54, .istore_n 1, 1), (55, .iload_n 1, 1), (56, .iconst 4, 1), (57, .if_icmp .gt 98, 3), (60, .aload_n 0, 1)]), (76, [(61, .getfield 200, 3), (64, .iload_n 1, 1), (65, .new 9, 3), (68, .dup, 1), (69, .sipush 200, 3), (72, .invokespecial 101, 3), (75, .aastore, 1), (76, .aload_n 0, 1)]), (92, [(77, .getfield 201, 3), (80, .iload_n 1, 1), (81, .new 9, 3), (84, .dup, 1), (85, .sipush 200, 3), (88, .invokespecial 101, 3), (91, .aastore, 1), (92, .iinc 1 1, 3)]), (98, [(95, .goto 55, 3), (98, .return_, 1)])])
def m_X2_make : qT := ((2, yX2_make, cX2_make, 7, (some .int)), (1, 0, 0, true), [(11, [(0, .aload_n 0, 1), (1, .iconst 0, 1), (2, .putfield 208, 3), (5, .aload_n 0, 1), (6, .iconst 0, 1), (7, .putfield 209, 3), (10, .aload_n 0, 1), (11, .aconst_null, 1)]), (25, [(12, .putfield 205, 3), (15, .aload_n 0, 1), (16, .iconst 0, 1), (17, .iconst 0, 1), (18, .invokevirtual 34, 3), (21, .aload_n 1, 1), (22, .invokevirtual 97, 3), (25, .istore_n 2, 1)]), (37, [(26, .iconst 1, 1), (27, .istore_n 3, 1), (28, .iconst 0, 1), (29, .istore 4, 2), (31, .iload 4, 2), (33, .iload_n 2, 1), (34, .if_icmp .ge 102, 3), (37, .aload_n 1, 1)]), (52, [(38, .iload 4, 2), (40, .invokevirtual 99, 3), (43, .istore 5, 2), (45, .iconst 1, 1), (46, .iload 5, 2), (48, .invokestatic 9991, 3), (51, .istore_n 3, 1), (52, .iload 5, 2)]), (69, [(54, .ifCond .le 69, 3), (57, .aload_n 0, 1), (58, .aload_n 1, 1), (59, .iload 4, 2), (61, .iload 5, 2), (63, .invokevirtual 28, 3), (66, .goto 79, 3), (69, .aload_n 0, 1)]), (86, [(70, .aload_n 1, 1), (71, .iload 4, 2), (73, .invokevirtual 98, 3), (76, .invokevirtual 29, 3), (79, .istore 6, 2), (81, .iload 6, 2), (83, .ifCond .ne 89, 3), (86, .iload 4, 2)]), (99, [(88, .ireturn, 1), (89, .aload_n 0, 1), (90, .invokevirtual 36, 3), (93, .iload 4, 2), (95, .iload_n 3, 1), (96, .iadd, 1), (97, .istore 4, 2), (99, .goto 31, 3)]), (114, [(102, .aload_n 0, 1), (103, .getfield 208, 3), (106, .ifCond .eq 113, 3), (109, .iconst (-1), 1), (110, .goto 114, 3), (113, .iload_n 2, 1), (114, .ireturn, 1)])])
def m_X2_isSpent : qT := ((2, yX2_isSpent, cX2_isSpent, 1, (some .boolean)), (0, 0, 0, true), [(4, [(0, .aload_n 0, 1), (1, .getfield 209, 3), (4, .ireturn, 1)])])
def m_X2_made : qT := ((2, yX2_made, cX2_made, 1, (some (.object "InscribedStones$TextSet"))), (0, 2, 402, true), [(5, [(0, .aload_n 0, 1), (1, .getfield 201, 3), (4, .iconst 0, 1), (5, .aaload, 1)]), (9, [(6, .invokevirtual 113, 3), (9, .areturn, 1)])])
def m_X2_takeWord : qT := ((2, yX2_takeWord, cX2_takeWord, 7, (some .boolean)), (3, 0, 0, true), [(13, [(0, .aload_n 0, 1), (1, .getfield 208, 3), (4, .ifCond .ne 13, 3), (7, .iload_n 3, 1), (8, .bipush 8, 2), (10, .if_icmp .le 15, 3), (13, .iconst 0, 1)]), (23, [(14, .ireturn, 1), (15, .lconst 0, 1), (16, .lstore 4, 2), (18, .iconst 0, 1), (19, .istore 6, 2), (21, .iload 6, 2), (23, .iload_n 3, 1)]), (34, [(24, .if_icmp .ge 54, 3), (27, .lload 4, 2), (29, .aload_n 1, 1), (30, .iload_n 2, 1), (31, .iload 6, 2), (33, .iadd, 1), (34, .invokevirtual 98, 3)]), (51, [(37, .invokestatic 100, 3), (40, .iload 6, 2), (42, .invokestatic 107, 3), (45, .lor, 1), (46, .lstore 4, 2), (48, .iinc 6 1, 3), (51, .goto 21, 3)]), (67, [(54, .aload_n 0, 1), (55, .getfield 203, 3), (58, .invokevirtual 102, 3), (61, .aload_n 0, 1), (62, .getfield 203, 3), (65, .lload 4, 2), (67, .lconst 0, 1)]), (80, [(68, .invokevirtual 109, 3), (71, .pop, 1), (72, .aload_n 0, 1), (73, .aload_n 0, 1), (74, .getfield 203, 3), (77, .putfield 205, 3), (80, .iconst 1, 1)]), (81, [(81, .ireturn, 1)])])
def m_X2_takeMark : qT := ((2, yX2_takeMark, cX2_takeMark, 2, (some .boolean)), (1, 0, 0, true), [(12, [(0, .iload_n 1, 1), (1, .bipush 32, 2), (3, .if_icmp .eq 12, 3), (6, .iload_n 1, 1), (7, .bipush 10, 2), (9, .if_icmp .ne 14, 3), (12, .iconst 1, 1)]), (23, [(13, .ireturn, 1), (14, .aload_n 0, 1), (15, .getfield 208, 3), (18, .ifCond .eq 23, 3), (21, .iconst 0, 1), (22, .ireturn, 1), (23, .iload_n 1, 1)]), (92, [(24, .lookupswitch 126 #[(40, 84), (41, 100), (46, 121), (91, 84), (93, 100), (124, 116)], 60), (84, .aload_n 0, 1), (85, .iload_n 1, 1), (86, .bipush 91, 2), (88, .if_icmp .ne 95, 3), (91, .iconst 1, 1), (92, .goto 96, 3)]), (104, [(95, .iconst 0, 1), (96, .invokevirtual 30, 3), (99, .ireturn, 1), (100, .aload_n 0, 1), (101, .iload_n 1, 1), (102, .bipush 93, 2), (104, .if_icmp .ne 111, 3)]), (117, [(107, .iconst 1, 1), (108, .goto 112, 3), (111, .iconst 0, 1), (112, .invokevirtual 31, 3), (115, .ireturn, 1), (116, .aload_n 0, 1), (117, .invokevirtual 32, 3)]), (127, [(120, .ireturn, 1), (121, .aload_n 0, 1), (122, .invokevirtual 33, 3), (125, .ireturn, 1), (126, .iconst 0, 1), (127, .ireturn, 1)])])
def m_X2_open : qT := ((2, yX2_open, cX2_open, 2, (some .boolean)), (1, 0, 0, true), [(8, [(0, .aload_n 0, 1), (1, .getfield 206, 3), (4, .ifCond .lt 15, 3), (7, .aload_n 0, 1), (8, .getfield 206, 3)]), (17, [(11, .iconst 4, 1), (12, .if_icmp .lt 17, 3), (15, .iconst 0, 1), (16, .ireturn, 1), (17, .aload_n 0, 1)]), (24, [(18, .aload_n 0, 1), (19, .getfield 206, 3), (22, .iconst 1, 1), (23, .iadd, 1), (24, .iload_n 1, 1)]), (29, [(25, .invokevirtual 34, 3), (28, .iconst 1, 1), (29, .ireturn, 1)])])
def m_X2_close : qT := ((2, yX2_close, cX2_close, 2, (some .boolean)), (1, 0, 0, true), [(13, [(0, .aload_n 0, 1), (1, .getfield 206, 3), (4, .iconst 1, 1), (5, .if_icmp .lt 36, 3), (8, .aload_n 0, 1), (9, .getfield 206, 3), (12, .iconst 4, 1), (13, .if_icmp .gt 36, 3)]), (31, [(16, .aload_n 0, 1), (17, .getfield 207, 3), (20, .ifCond .eq 36, 3), (23, .aload_n 0, 1), (24, .getfield 202, 3), (27, .aload_n 0, 1), (28, .getfield 206, 3), (31, .baload, 1)]), (43, [(32, .iload_n 1, 1), (33, .if_icmp .eq 38, 3), (36, .iconst 0, 1), (37, .ireturn, 1), (38, .aload_n 0, 1), (39, .invokevirtual 37, 3), (42, .aload_n 0, 1), (43, .aload_n 0, 1)]), (59, [(44, .getfield 201, 3), (47, .aload_n 0, 1), (48, .getfield 206, 3), (51, .aaload, 1), (52, .putfield 205, 3), (55, .iload_n 1, 1), (56, .ifCond .eq 87, 3), (59, .aload_n 0, 1)]), (73, [(60, .aload_n 0, 1), (61, .getfield 209, 3), (64, .ifCond .ne 79, 3), (67, .aload_n 0, 1), (68, .getfield 205, 3), (71, .lconst 0, 1), (72, .lconst 0, 1), (73, .invokevirtual 109, 3)]), (89, [(76, .ifCond .ne 83, 3), (79, .iconst 1, 1), (80, .goto 84, 3), (83, .iconst 0, 1), (84, .putfield 209, 3), (87, .aload_n 0, 1), (88, .dup, 1), (89, .getfield 206, 3)]), (98, [(92, .iconst 1, 1), (93, .isub, 1), (94, .putfield 206, 3), (97, .iconst 1, 1), (98, .ireturn, 1)])])
def m_X2_takeBar : qT := ((2, yX2_takeBar, cX2_takeBar, 1, (some .boolean)), (0, 0, 0, true), [(7, [(0, .aload_n 0, 1), (1, .getfield 207, 3), (4, .ifCond .ne 9, 3), (7, .iconst 0, 1)]), (13, [(8, .ireturn, 1), (9, .aload_n 0, 1), (10, .invokevirtual 37, 3), (13, .aload_n 0, 1)]), (18, [(14, .invokevirtual 35, 3), (17, .iconst 1, 1), (18, .ireturn, 1)])])
def m_X2_takePoint : qT := ((2, yX2_takePoint, cX2_takePoint, 1, (some .boolean)), (0, 0, 0, true), [(7, [(0, .aload_n 0, 1), (1, .getfield 207, 3), (4, .ifCond .eq 14, 3), (7, .aload_n 0, 1)]), (15, [(8, .getfield 206, 3), (11, .ifCond .eq 16, 3), (14, .iconst 0, 1), (15, .ireturn, 1)]), (21, [(16, .aload_n 0, 1), (17, .invokevirtual 37, 3), (20, .aload_n 0, 1), (21, .iconst 1, 1)]), (26, [(22, .putfield 208, 3), (25, .iconst 1, 1), (26, .ireturn, 1)])])
def m_X2_startLevel : qT := ((2, yX2_startLevel, cX2_startLevel, 3, none), (2, 0, 0, true), [(9, [(0, .aload_n 0, 1), (1, .iload_n 1, 1), (2, .putfield 206, 3), (5, .aload_n 0, 1), (6, .getfield 206, 3), (9, .ifCond .lt 42, 3)]), (21, [(12, .aload_n 0, 1), (13, .getfield 206, 3), (16, .iconst 4, 1), (17, .if_icmp .gt 42, 3), (20, .aload_n 0, 1), (21, .getfield 202, 3)]), (31, [(24, .aload_n 0, 1), (25, .getfield 206, 3), (28, .iload_n 2, 1), (29, .bastore, 1), (30, .aload_n 0, 1), (31, .getfield 201, 3)]), (43, [(34, .aload_n 0, 1), (35, .getfield 206, 3), (38, .aaload, 1), (39, .invokevirtual 102, 3), (42, .aload_n 0, 1), (43, .invokevirtual 35, 3)]), (46, [(46, .return_, 1)])])
def m_X2_startRow : qT := ((2, yX2_startRow, cX2_startRow, 1, none), (0, 0, 0, true), [(9, [(0, .aload_n 0, 1), (1, .iconst 0, 1), (2, .putfield 207, 3), (5, .aload_n 0, 1), (6, .getfield 206, 3), (9, .ifCond .lt 47, 3)]), (21, [(12, .aload_n 0, 1), (13, .getfield 206, 3), (16, .iconst 4, 1), (17, .if_icmp .gt 47, 3), (20, .aload_n 0, 1), (21, .getfield 200, 3)]), (33, [(24, .aload_n 0, 1), (25, .getfield 206, 3), (28, .aaload, 1), (29, .invokevirtual 102, 3), (32, .aload_n 0, 1), (33, .getfield 200, 3)]), (43, [(36, .aload_n 0, 1), (37, .getfield 206, 3), (40, .aaload, 1), (41, .lconst 0, 1), (42, .lconst 0, 1), (43, .invokevirtual 109, 3)]), (47, [(46, .pop, 1), (47, .return_, 1)])])
def m_X2_appendPiece : qT := ((2, yX2_appendPiece, cX2_appendPiece, 2, none), (0, 0, 0, true), [(15, [(0, .aload_n 0, 1), (1, .getfield 205, 3), (4, .ifnull 22, 3), (7, .aload_n 0, 1), (8, .getfield 206, 3), (11, .ifCond .lt 22, 3), (14, .aload_n 0, 1), (15, .getfield 206, 3)]), (31, [(18, .iconst 4, 1), (19, .if_icmp .le 23, 3), (22, .return_, 1), (23, .aload_n 0, 1), (24, .getfield 209, 3), (27, .ifCond .ne 89, 3), (30, .aload_n 0, 1), (31, .getfield 200, 3)]), (47, [(34, .aload_n 0, 1), (35, .getfield 206, 3), (38, .aaload, 1), (39, .astore_n 1, 1), (40, .aload_n 0, 1), (41, .getfield 204, 3), (44, .invokevirtual 102, 3), (47, .aload_n 0, 1)]), (63, [(48, .aload_n 0, 1), (49, .getfield 204, 3), (52, .aload_n 1, 1), (53, .aload_n 0, 1), (54, .getfield 205, 3), (57, .invokevirtual 111, 3), (60, .ifCond .ne 67, 3), (63, .iconst 1, 1)]), (79, [(64, .goto 68, 3), (67, .iconst 0, 1), (68, .putfield 209, 3), (71, .aload_n 0, 1), (72, .getfield 200, 3), (75, .aload_n 0, 1), (76, .getfield 206, 3), (79, .aload_n 0, 1)]), (91, [(80, .getfield 204, 3), (83, .aastore, 1), (84, .aload_n 0, 1), (85, .aload_n 1, 1), (86, .putfield 204, 3), (89, .aload_n 0, 1), (90, .aconst_null, 1), (91, .putfield 205, 3)]), (99, [(94, .aload_n 0, 1), (95, .iconst 1, 1), (96, .putfield 207, 3), (99, .return_, 1)])])
def m_X2_endRow : qT := ((2, yX2_endRow, cX2_endRow, 1, none), (0, 0, 0, true), [(11, [(0, .aload_n 0, 1), (1, .getfield 209, 3), (4, .ifCond .ne 55, 3), (7, .aload_n 0, 1), (8, .getfield 206, 3), (11, .ifCond .lt 55, 3)]), (23, [(14, .aload_n 0, 1), (15, .getfield 206, 3), (18, .iconst 4, 1), (19, .if_icmp .gt 55, 3), (22, .aload_n 0, 1), (23, .aload_n 0, 1)]), (33, [(24, .getfield 201, 3), (27, .aload_n 0, 1), (28, .getfield 206, 3), (31, .aaload, 1), (32, .aload_n 0, 1), (33, .getfield 200, 3)]), (47, [(36, .aload_n 0, 1), (37, .getfield 206, 3), (40, .aaload, 1), (41, .invokevirtual 110, 3), (44, .ifCond .ne 51, 3), (47, .iconst 1, 1)]), (55, [(48, .goto 52, 3), (51, .iconst 0, 1), (52, .putfield 209, 3), (55, .return_, 1)])])
def m_X3_init : qT := ((3, yX3_init, cX3_init, 1, none), (0, 2, 96, false), [(5, [(0, .aload_n 0, 1), (1, .invokespecial 9999, 3), (4, .aload_n 0, 1), (5, .bipush 72, 2)]), (13, [(7, .newarray .int, 2), (9, .putfield 300, 3), (12, .aload_n 0, 1), (13, .bipush 24, 2)]), (20, [(15, .newarray .int, 2), (17, .putfield 301, 3), (20, .return_, 1)])])
def m_X3_clear : qT := ((3, yX3_clear, cX3_clear, 1, none), (0, 0, 0, true), [(5, [(0, .aload_n 0, 1), (1, .iconst 0, 1), (2, .putfield 302, 3), (5, .return_, 1)])])
def m_X3_size : qT := ((3, yX3_size, cX3_size, 1, (some .int)), (0, 0, 0, true), [(4, [(0, .aload_n 0, 1), (1, .getfield 302, 3), (4, .ireturn, 1)])])
def m_X3_byteAt : qT := ((3, yX3_byteAt, cX3_byteAt, 2, (some .int)), (1, 0, 0, true), [(6, [(0, .iload_n 1, 1), (1, .ifCond .lt 30, 3), (4, .iload_n 1, 1), (5, .aload_n 0, 1), (6, .getfield 302, 3)]), (17, [(9, .if_icmp .ge 30, 3), (12, .iload_n 1, 1), (13, .aload_n 0, 1), (14, .getfield 300, 3), (17, .arraylength, 1)]), (26, [(18, .if_icmp .ge 30, 3), (21, .aload_n 0, 1), (22, .getfield 300, 3), (25, .iload_n 1, 1), (26, .iaload, 1)]), (31, [(27, .goto 31, 3), (30, .iconst (-1), 1), (31, .ireturn, 1)])])
def m_X3_parsedAt : qT := ((3, yX3_parsedAt, cX3_parsedAt, 2, (some .int)), (1, 0, 0, true), [(5, [(0, .iload_n 1, 1), (1, .ifCond .lt 22, 3), (4, .iload_n 1, 1), (5, .aload_n 0, 1)]), (13, [(6, .getfield 301, 3), (9, .arraylength, 1), (10, .if_icmp .ge 22, 3), (13, .aload_n 0, 1)]), (19, [(14, .getfield 301, 3), (17, .iload_n 1, 1), (18, .iaload, 1), (19, .goto 23, 3)]), (23, [(22, .iconst 0, 1), (23, .ireturn, 1)])])
def m_X3_put : qT := ((3, yX3_put, cX3_put, 2, none), (1, 0, 0, true), [(8, [(0, .aload_n 0, 1), (1, .getfield 302, 3), (4, .ifCond .lt 39, 3), (7, .aload_n 0, 1), (8, .getfield 302, 3)]), (19, [(11, .aload_n 0, 1), (12, .getfield 300, 3), (15, .arraylength, 1), (16, .if_icmp .ge 39, 3), (19, .aload_n 0, 1)]), (28, [(20, .getfield 300, 3), (23, .aload_n 0, 1), (24, .getfield 302, 3), (27, .iload_n 1, 1), (28, .iastore, 1)]), (35, [(29, .aload_n 0, 1), (30, .dup, 1), (31, .getfield 302, 3), (34, .iconst 1, 1), (35, .iadd, 1)]), (39, [(36, .putfield 302, 3), (39, .return_, 1)])])
def m_X3_write : qT := ((3, yX3_write, cX3_write, 5, none), (2, 0, 0, true), [(11, [(0, .iload_n 1, 1), (1, .invokestatic 64, 3), (4, .istore_n 3, 1), (5, .iload_n 1, 1), (6, .invokestatic 65, 3), (9, .iconst 1, 1), (10, .isub, 1), (11, .invokestatic 246, 3)]), (26, [(14, .istore 4, 2), (16, .iload_n 3, 1), (17, .ifCond .eq 25, 3), (20, .iload_n 3, 1), (21, .iconst 1, 1), (22, .if_icmp .ne 37, 3), (25, .aload_n 0, 1), (26, .iload 4, 2)]), (43, [(28, .invokestatic 46, 3), (31, .invokevirtual 43, 3), (34, .goto 98, 3), (37, .iload_n 3, 1), (38, .iconst 5, 1), (39, .if_icmp .ne 55, 3), (42, .aload_n 0, 1), (43, .bipush 60, 2)]), (60, [(45, .iload 4, 2), (47, .bipush 62, 2), (49, .invokevirtual 45, 3), (52, .goto 98, 3), (55, .iload_n 2, 1), (56, .iconst (-1), 1), (57, .if_icmp .eq 72, 3), (60, .aload_n 0, 1)]), (74, [(61, .bipush 91, 2), (63, .iload_n 2, 1), (64, .bipush 93, 2), (66, .invokevirtual 45, 3), (69, .goto 98, 3), (72, .aload_n 0, 1), (73, .iload_n 3, 1), (74, .iconst 2, 1)]), (90, [(75, .if_icmp .ne 83, 3), (78, .bipush 63, 2), (80, .goto 95, 3), (83, .iload_n 3, 1), (84, .iconst 4, 1), (85, .if_icmp .ne 93, 3), (88, .bipush 35, 2), (90, .goto 95, 3)]), (98, [(93, .bipush 45, 2), (95, .invokevirtual 43, 3), (98, .return_, 1)])])
def m_X3_enclose : qT := ((3, yX3_enclose, cX3_enclose, 4, none), (3, 0, 0, true), [(5, [(0, .aload_n 0, 1), (1, .iload_n 1, 1), (2, .invokevirtual 43, 3), (5, .aload_n 0, 1)]), (13, [(6, .iload_n 2, 1), (7, .invokestatic 46, 3), (10, .invokevirtual 43, 3), (13, .aload_n 0, 1)]), (18, [(14, .iload_n 3, 1), (15, .invokevirtual 43, 3), (18, .return_, 1)])])
def m_X3_shown : qT := ((3, yX3_shown, cX3_shown, 1, (some .int)), (1, 0, 0, true), [(6, [(0, .iload_n 0, 1), (1, .bipush 26, 2), (3, .if_icmp .ne 11, 3), (6, .bipush 95, 2)]), (14, [(8, .goto 15, 3), (11, .bipush 97, 2), (13, .iload_n 0, 1), (14, .iadd, 1)]), (15, [(15, .ireturn, 1)])])
def m_X3_letterShown : qT := ((3, yX3_letterShown, cX3_letterShown, 1, (some .int)), (1, 0, 0, true), [(6, [(0, .iload_n 0, 1), (1, .bipush 95, 2), (3, .if_icmp .ne 11, 3), (6, .bipush 26, 2)]), (15, [(8, .goto 15, 3), (11, .iload_n 0, 1), (12, .invokestatic 100, 3), (15, .ireturn, 1)])])
def m_X3_parse : qT := ((3, yX3_parse, cX3_parse, 8, (some .int)), (2, 0, 0, true), [(14, [(0, .iconst 0, 1), (1, .istore_n 3, 1), (2, .iconst 0, 1), (3, .istore 4, 2), (5, .iload 4, 2), (7, .iload_n 2, 1), (8, .if_icmp .ge 166, 3), (11, .iload 4, 2), (13, .aload_n 0, 1), (14, .getfield 301, 3)]), (35, [(17, .arraylength, 1), (18, .if_icmp .ge 166, 3), (21, .aload_n 1, 1), (22, .iload_n 3, 1), (23, .invokevirtual 98, 3), (26, .istore 5, 2), (28, .iload 5, 2), (30, .bipush 60, 2), (32, .if_icmp .ne 40, 3), (35, .bipush 62, 2)]), (57, [(37, .goto 53, 3), (40, .iload 5, 2), (42, .bipush 91, 2), (44, .if_icmp .ne 52, 3), (47, .bipush 93, 2), (49, .goto 53, 3), (52, .iconst (-1), 1), (53, .istore 6, 2), (55, .iload 6, 2), (57, .iconst (-1), 1)]), (77, [(58, .if_icmp .ne 91, 3), (61, .aload_n 0, 1), (62, .getfield 301, 3), (65, .iload 4, 2), (67, .iload 5, 2), (69, .invokestatic 49, 3), (72, .iastore, 1), (73, .aload_n 0, 1), (74, .getfield 301, 3), (77, .iload 4, 2)]), (94, [(79, .iaload, 1), (80, .ifCond .ne 85, 3), (83, .iload_n 3, 1), (84, .ireturn, 1), (85, .iinc 3 1, 3), (88, .goto 160, 3), (91, .aload_n 1, 1), (92, .iload_n 3, 1), (93, .iconst 1, 1), (94, .iadd, 1)]), (112, [(95, .invokevirtual 98, 3), (98, .invokestatic 47, 3), (101, .istore 7, 2), (103, .iload 7, 2), (105, .iconst (-1), 1), (106, .if_icmp .ne 113, 3), (109, .iload_n 3, 1), (110, .iconst 1, 1), (111, .iadd, 1), (112, .ireturn, 1)]), (127, [(113, .aload_n 1, 1), (114, .iload_n 3, 1), (115, .iconst 2, 1), (116, .iadd, 1), (117, .invokevirtual 98, 3), (120, .iload 6, 2), (122, .if_icmp .eq 129, 3), (125, .iload_n 3, 1), (126, .iconst 2, 1), (127, .iadd, 1)]), (145, [(128, .ireturn, 1), (129, .aload_n 0, 1), (130, .getfield 301, 3), (133, .iload 4, 2), (135, .iload 5, 2), (137, .bipush 60, 2), (139, .if_icmp .ne 151, 3), (142, .iconst 5, 1), (143, .iload 7, 2), (145, .invokestatic 62, 3)]), (167, [(148, .goto 156, 3), (151, .iconst 3, 1), (152, .iconst 0, 1), (153, .invokestatic 62, 3), (156, .iastore, 1), (157, .iinc 3 3, 3), (160, .iinc 4 1, 3), (163, .goto 5, 3), (166, .iload_n 3, 1), (167, .aload_n 1, 1)]), (179, [(168, .invokevirtual 97, 3), (171, .if_icmp .ge 178, 3), (174, .iload_n 3, 1), (175, .goto 179, 3), (178, .iconst (-1), 1), (179, .ireturn, 1)])])
def m_X3_bareReading : qT := ((3, yX3_bareReading, cX3_bareReading, 2, (some .int)), (1, 0, 0, true), [(9, [(0, .iload_n 0, 1), (1, .bipush 63, 2), (3, .if_icmp .eq 12, 3), (6, .iload_n 0, 1), (7, .bipush 45, 2), (9, .if_icmp .ne 18, 3)]), (19, [(12, .iconst 3, 1), (13, .iconst 0, 1), (14, .invokestatic 62, 3), (17, .ireturn, 1), (18, .iload_n 0, 1), (19, .bipush 35, 2)]), (30, [(21, .if_icmp .ne 30, 3), (24, .iconst 4, 1), (25, .iconst 0, 1), (26, .invokestatic 62, 3), (29, .ireturn, 1), (30, .iload_n 0, 1)]), (40, [(31, .invokestatic 47, 3), (34, .istore_n 1, 1), (35, .iload_n 1, 1), (36, .iconst (-1), 1), (37, .if_icmp .ne 44, 3), (40, .iconst 0, 1)]), (49, [(41, .goto 49, 3), (44, .iconst 0, 1), (45, .iload_n 1, 1), (46, .invokestatic 62, 3), (49, .ireturn, 1)])])
def m_X4_init : qT := ((4, yX4_init, cX4_init, 2, none), (1, 4, 48, false), [(7, [(0, .aload_n 0, 1), (1, .invokespecial 9999, 3), (4, .aload_n 0, 1), (5, .bipush 12, 2), (7, .newarray .long, 2)]), (17, [(9, .putfield 401, 3), (12, .aload_n 0, 1), (13, .bipush 12, 2), (15, .newarray .long, 2), (17, .putfield 402, 3)]), (28, [(20, .aload_n 0, 1), (21, .bipush 12, 2), (23, .newarray .int, 2), (25, .putfield 403, 3), (28, .aload_n 0, 1)]), (37, [(29, .bipush 12, 2), (31, .newarray .int, 2), (33, .putfield 404, 3), (36, .aload_n 0, 1), (37, .aload_n 1, 1)]), (41, [(38, .putfield 400, 3), (41, .return_, 1)])])
def m_X4_isWord : qT := ((4, yX4_isWord, cX4_isWord, 5, (some .boolean)), (1, 0, 0, true), [(8, [(0, .lload_n 0, 1), (1, .lconst 0, 1), (2, .lcmp, 1), (3, .ifCond .gt 8, 3), (6, .iconst 0, 1), (7, .ireturn, 1), (8, .lload_n 0, 1)]), (20, [(9, .lstore_n 2, 1), (10, .iconst 0, 1), (11, .istore 4, 2), (13, .iload 4, 2), (15, .bipush 7, 2), (17, .if_icmp .ge 50, 3), (20, .lload_n 2, 1)]), (31, [(21, .lconst 0, 1), (22, .lcmp, 1), (23, .ifCond .le 50, 3), (26, .lload_n 2, 1), (27, .ldc2_w 27, 3), (30, .lrem, 1), (31, .lconst 0, 1)]), (42, [(32, .lcmp, 1), (33, .ifCond .ne 38, 3), (36, .iconst 0, 1), (37, .ireturn, 1), (38, .lload_n 2, 1), (39, .ldc2_w 27, 3), (42, .ldiv, 1)]), (53, [(43, .lstore_n 2, 1), (44, .iinc 4 1, 3), (47, .goto 13, 3), (50, .lload_n 2, 1), (51, .lconst 0, 1), (52, .lcmp, 1), (53, .ifCond .ne 60, 3)]), (61, [(56, .iconst 1, 1), (57, .goto 61, 3), (60, .iconst 0, 1), (61, .ireturn, 1)])])
def m_X4_put : qT := ((4, yX4_put, cX4_put, 6, (some .int)), (3, 0, 0, true), [(13, [(0, .aload_n 0, 1), (1, .getfield 405, 3), (4, .ifCond .lt 16, 3), (7, .aload_n 0, 1), (8, .getfield 405, 3), (11, .bipush 12, 2), (13, .if_icmp .lt 19, 3)]), (27, [(16, .bipush (-4), 2), (18, .ireturn, 1), (19, .aload_n 0, 1), (20, .getfield 401, 3), (23, .aload_n 0, 1), (24, .getfield 405, 3), (27, .lload_n 1, 1)]), (38, [(28, .lastore, 1), (29, .aload_n 0, 1), (30, .getfield 402, 3), (33, .aload_n 0, 1), (34, .getfield 405, 3), (37, .lload_n 3, 1), (38, .lastore, 1)]), (50, [(39, .aload_n 0, 1), (40, .getfield 403, 3), (43, .aload_n 0, 1), (44, .getfield 405, 3), (47, .iload 5, 2), (49, .iastore, 1), (50, .aload_n 0, 1)]), (61, [(51, .dup, 1), (52, .getfield 405, 3), (55, .iconst 1, 1), (56, .iadd, 1), (57, .putfield 405, 3), (60, .aload_n 0, 1), (61, .getfield 405, 3)]), (66, [(64, .iconst 1, 1), (65, .isub, 1), (66, .ireturn, 1)])])
def m_X4_size : qT := ((4, yX4_size, cX4_size, 1, (some .int)), (0, 0, 0, true), [(4, [(0, .aload_n 0, 1), (1, .getfield 405, 3), (4, .ireturn, 1)])])
def m_X4_has : qT := ((4, yX4_has, cX4_has, 2, (some .boolean)), (1, 0, 0, true), [(5, [(0, .iload_n 1, 1), (1, .ifCond .lt 22, 3), (4, .iload_n 1, 1), (5, .aload_n 0, 1)]), (13, [(6, .getfield 405, 3), (9, .if_icmp .ge 22, 3), (12, .iload_n 1, 1), (13, .bipush 12, 2)]), (22, [(15, .if_icmp .ge 22, 3), (18, .iconst 1, 1), (19, .goto 23, 3), (22, .iconst 0, 1)]), (23, [(23, .ireturn, 1)])])
def m_X4_mayBeOne : qT := ((4, yX4_mayBeOne, cX4_mayBeOne, 5, (some .boolean)), (2, 0, 0, true), [(17, [(0, .aload_n 0, 1), (1, .iload_n 1, 1), (2, .invokevirtual 54, 3), (5, .ifCond .eq 32, 3), (8, .aload_n 0, 1), (9, .iload_n 2, 1), (10, .invokevirtual 54, 3), (13, .ifCond .eq 32, 3), (16, .aload_n 0, 1), (17, .getfield 401, 3)]), (33, [(20, .iload_n 1, 1), (21, .laload, 1), (22, .aload_n 0, 1), (23, .getfield 401, 3), (26, .iload_n 2, 1), (27, .laload, 1), (28, .lcmp, 1), (29, .ifCond .eq 34, 3), (32, .iconst 0, 1), (33, .ireturn, 1)]), (47, [(34, .aload_n 0, 1), (35, .getfield 402, 3), (38, .iload_n 1, 1), (39, .laload, 1), (40, .aload_n 0, 1), (41, .getfield 402, 3), (44, .iload_n 2, 1), (45, .laload, 1), (46, .lcmp, 1), (47, .ifCond .eq 74, 3)]), (65, [(50, .aload_n 0, 1), (51, .getfield 402, 3), (54, .iload_n 1, 1), (55, .laload, 1), (56, .lconst 0, 1), (57, .lcmp, 1), (58, .ifCond .eq 74, 3), (61, .aload_n 0, 1), (62, .getfield 402, 3), (65, .iload_n 2, 1)]), (79, [(66, .laload, 1), (67, .lconst 0, 1), (68, .lcmp, 1), (69, .ifCond .eq 74, 3), (72, .iconst 0, 1), (73, .ireturn, 1), (74, .aload_n 0, 1), (75, .getfield 400, 3), (78, .aload_n 0, 1), (79, .getfield 403, 3)]), (97, [(82, .iload_n 1, 1), (83, .iaload, 1), (84, .invokevirtual 8, 3), (87, .aload_n 0, 1), (88, .getfield 400, 3), (91, .aload_n 0, 1), (92, .getfield 403, 3), (95, .iload_n 2, 1), (96, .iaload, 1), (97, .invokevirtual 9, 3)]), (115, [(100, .isub, 1), (101, .istore_n 3, 1), (102, .aload_n 0, 1), (103, .getfield 400, 3), (106, .aload_n 0, 1), (107, .getfield 403, 3), (110, .iload_n 2, 1), (111, .iaload, 1), (112, .invokevirtual 8, 3), (115, .aload_n 0, 1)]), (132, [(116, .getfield 400, 3), (119, .aload_n 0, 1), (120, .getfield 403, 3), (123, .iload_n 1, 1), (124, .iaload, 1), (125, .invokevirtual 9, 3), (128, .isub, 1), (129, .istore 4, 2), (131, .iload_n 3, 1), (132, .bipush 60, 2)]), (149, [(134, .if_icmp .ge 148, 3), (137, .iload 4, 2), (139, .bipush 60, 2), (141, .if_icmp .ge 148, 3), (144, .iconst 1, 1), (145, .goto 149, 3), (148, .iconst 0, 1), (149, .ireturn, 1)])])
def m_X4_sort : qT := ((4, yX4_sort, cX4_sort, 5, (some .int)), (0, 0, 0, true), [(10, [(0, .aload_n 0, 1), (1, .getfield 400, 3), (4, .invokevirtual 5, 3), (7, .istore_n 1, 1), (8, .iconst 0, 1), (9, .istore_n 2, 1), (10, .iconst 0, 1)]), (21, [(11, .istore_n 3, 1), (12, .iload_n 3, 1), (13, .aload_n 0, 1), (14, .getfield 405, 3), (17, .if_icmp .ge 78, 3), (20, .iload_n 3, 1), (21, .bipush 12, 2)]), (35, [(23, .if_icmp .ge 78, 3), (26, .iconst 0, 1), (27, .istore 4, 2), (29, .iload 4, 2), (31, .iload_n 2, 1), (32, .if_icmp .ge 55, 3), (35, .iload_n 1, 1)]), (49, [(36, .ifCond .eq 49, 3), (39, .aload_n 0, 1), (40, .iload_n 3, 1), (41, .iload 4, 2), (43, .invokevirtual 57, 3), (46, .ifCond .ne 55, 3), (49, .iinc 4 1, 3)]), (63, [(52, .goto 29, 3), (55, .aload_n 0, 1), (56, .getfield 404, 3), (59, .iload_n 3, 1), (60, .iload 4, 2), (62, .iastore, 1), (63, .iload_n 2, 1)]), (75, [(64, .iload 4, 2), (66, .iconst 1, 1), (67, .iadd, 1), (68, .invokestatic 9991, 3), (71, .istore_n 2, 1), (72, .iinc 3 1, 3), (75, .goto 12, 3)]), (79, [(78, .iload_n 2, 1), (79, .ireturn, 1)])])
def m_X4_belongs : qT := ((4, yX4_belongs, cX4_belongs, 4, (some .boolean)), (2, 0, 0, true), [(7, [(0, .iconst 0, 1), (1, .istore_n 3, 1), (2, .iload_n 3, 1), (3, .iload_n 1, 1), (4, .if_icmp .ge 40, 3), (7, .iload_n 3, 1)]), (18, [(8, .bipush 12, 2), (10, .if_icmp .ge 40, 3), (13, .aload_n 0, 1), (14, .getfield 404, 3), (17, .iload_n 3, 1), (18, .iaload, 1)]), (26, [(19, .iload_n 2, 1), (20, .if_icmp .ne 34, 3), (23, .aload_n 0, 1), (24, .iload_n 1, 1), (25, .iload_n 3, 1), (26, .invokevirtual 55, 3)]), (40, [(29, .ifCond .ne 34, 3), (32, .iconst 0, 1), (33, .ireturn, 1), (34, .iinc 3 1, 3), (37, .goto 2, 3), (40, .iconst 1, 1)]), (41, [(41, .ireturn, 1)])])
def m_X4_groupOf : qT := ((4, yX4_groupOf, cX4_groupOf, 2, (some .int)), (1, 0, 0, true), [(5, [(0, .aload_n 0, 1), (1, .iload_n 1, 1), (2, .invokevirtual 54, 3), (5, .ifCond .eq 17, 3)]), (13, [(8, .aload_n 0, 1), (9, .getfield 404, 3), (12, .iload_n 1, 1), (13, .iaload, 1)]), (18, [(14, .goto 18, 3), (17, .iconst (-1), 1), (18, .ireturn, 1)])])
def m_X4_fatherOf : qT := ((4, yX4_fatherOf, cX4_fatherOf, 3, (some .int)), (1, 0, 0, true), [(10, [(0, .aload_n 0, 1), (1, .iload_n 1, 1), (2, .invokevirtual 54, 3), (5, .ifCond .ne 10, 3), (8, .iconst (-1), 1), (9, .ireturn, 1), (10, .iconst 0, 1)]), (21, [(11, .istore_n 2, 1), (12, .iload_n 2, 1), (13, .aload_n 0, 1), (14, .getfield 405, 3), (17, .if_icmp .ge 64, 3), (20, .iload_n 2, 1), (21, .bipush 12, 2)]), (35, [(23, .if_icmp .ge 64, 3), (26, .iload_n 2, 1), (27, .iload_n 1, 1), (28, .if_icmp .eq 58, 3), (31, .aload_n 0, 1), (32, .getfield 401, 3), (35, .iload_n 2, 1)]), (44, [(36, .laload, 1), (37, .aload_n 0, 1), (38, .getfield 402, 3), (41, .iload_n 1, 1), (42, .laload, 1), (43, .lcmp, 1), (44, .ifCond .ne 58, 3)]), (57, [(47, .aload_n 0, 1), (48, .iload_n 2, 1), (49, .iload_n 1, 1), (50, .invokevirtual 60, 3), (53, .ifCond .eq 58, 3), (56, .iload_n 2, 1), (57, .ireturn, 1)]), (65, [(58, .iinc 2 1, 3), (61, .goto 12, 3), (64, .iconst (-1), 1), (65, .ireturn, 1)])])
def m_X4_isAhead : qT := ((4, yX4_isAhead, cX4_isAhead, 5, (some .boolean)), (2, 0, 0, true), [(13, [(0, .aload_n 0, 1), (1, .iload_n 1, 1), (2, .invokevirtual 54, 3), (5, .ifCond .eq 16, 3), (8, .aload_n 0, 1), (9, .iload_n 2, 1), (10, .invokevirtual 54, 3), (13, .ifCond .ne 18, 3)]), (27, [(16, .iconst 0, 1), (17, .ireturn, 1), (18, .aload_n 0, 1), (19, .getfield 400, 3), (22, .aload_n 0, 1), (23, .getfield 403, 3), (26, .iload_n 2, 1), (27, .iaload, 1)]), (41, [(28, .invokevirtual 8, 3), (31, .aload_n 0, 1), (32, .getfield 400, 3), (35, .aload_n 0, 1), (36, .getfield 403, 3), (39, .iload_n 1, 1), (40, .iaload, 1), (41, .invokevirtual 9, 3)]), (55, [(44, .isub, 1), (45, .istore_n 3, 1), (46, .aload_n 0, 1), (47, .getfield 400, 3), (50, .aload_n 0, 1), (51, .getfield 403, 3), (54, .iload_n 2, 1), (55, .iaload, 1)]), (69, [(56, .invokevirtual 9, 3), (59, .aload_n 0, 1), (60, .getfield 400, 3), (63, .aload_n 0, 1), (64, .getfield 403, 3), (67, .iload_n 1, 1), (68, .iaload, 1), (69, .invokevirtual 8, 3)]), (85, [(72, .isub, 1), (73, .istore 4, 2), (75, .iload_n 3, 1), (76, .bipush 60, 2), (78, .if_icmp .gt 92, 3), (81, .iload 4, 2), (83, .bipush 15, 2), (85, .if_icmp .lt 92, 3)]), (93, [(88, .iconst 1, 1), (89, .goto 93, 3), (92, .iconst 0, 1), (93, .ireturn, 1)])])
def m_X5_init : qT := ((5, yX5_init, cX5_init, 1, none), (0, 2, 6918, false), [(5, [(0, .aload_n 0, 1), (1, .invokespecial 9999, 3), (4, .aload_n 0, 1), (5, .bipush 6, 2)]), (13, [(7, .newarray .int, 2), (9, .putfield 500, 3), (12, .aload_n 0, 1), (13, .sipush 6912, 3)]), (21, [(16, .newarray .int, 2), (18, .putfield 501, 3), (21, .return_, 1)])])
def m_X5_told : qT := ((5, yX5_told, cX5_told, 2, (some .int)), (2, 0, 0, true), [(47, [(0, .iload_n 0, 1), (1, .tableswitch 97 0 5 #[40, 40, 62, 90, 90, 40], 39), (40, .iload_n 1, 1), (41, .ifCond .lt 60, 3), (44, .iload_n 1, 1), (45, .bipush 27, 2), (47, .if_icmp .ge 60, 3)]), (60, [(50, .iload_n 0, 1), (51, .iconst 1, 1), (52, .iload_n 1, 1), (53, .ishl, 1), (54, .invokestatic 63, 3), (57, .goto 61, 3), (60, .iconst 0, 1)]), (72, [(61, .ireturn, 1), (62, .iload_n 1, 1), (63, .ifCond .lt 88, 3), (66, .iload_n 1, 1), (67, .ldc 134217727, 2), (69, .if_icmp .gt 88, 3), (72, .iload_n 1, 1)]), (85, [(73, .invokestatic 246, 3), (76, .iconst 2, 1), (77, .if_icmp .lt 88, 3), (80, .iload_n 0, 1), (81, .iload_n 1, 1), (82, .invokestatic 63, 3), (85, .goto 89, 3)]), (97, [(88, .iconst 0, 1), (89, .ireturn, 1), (90, .iload_n 0, 1), (91, .ldc 134217727, 2), (93, .invokestatic 63, 3), (96, .ireturn, 1), (97, .iconst 0, 1)]), (98, [(98, .ireturn, 1)])])
def m_X5_packed : qT := ((5, yX5_packed, cX5_packed, 2, (some .int)), (2, 0, 0, true), [(3, [(0, .iload_n 0, 1), (1, .iconst 1, 1), (2, .iadd, 1), (3, .bipush 27, 2)]), (8, [(5, .ishl, 1), (6, .iload_n 1, 1), (7, .ior, 1), (8, .ireturn, 1)])])
def m_X5_kindOf : qT := ((5, yX5_kindOf, cX5_kindOf, 1, (some .int)), (1, 0, 0, true), [(5, [(0, .iload_n 0, 1), (1, .ifCond .ne 8, 3), (4, .iconst 3, 1), (5, .goto 14, 3)]), (12, [(8, .iload_n 0, 1), (9, .bipush 27, 2), (11, .ishr, 1), (12, .iconst 1, 1)]), (14, [(13, .isub, 1), (14, .ireturn, 1)])])
def m_X5_mayOf : qT := ((5, yX5_mayOf, cX5_mayOf, 1, (some .int)), (1, 0, 0, true), [(6, [(0, .iload_n 0, 1), (1, .ifCond .ne 9, 3), (4, .ldc 134217727, 2), (6, .goto 13, 3)]), (13, [(9, .iload_n 0, 1), (10, .ldc 134217727, 2), (12, .iand, 1), (13, .ireturn, 1)])])
def m_X5_isUnder : qT := ((5, yX5_isUnder, cX5_isUnder, 4, (some .boolean)), (2, 0, 0, true), [(5, [(0, .iload_n 0, 1), (1, .istore_n 2, 1), (2, .iconst 0, 1), (3, .istore_n 3, 1), (4, .iload_n 3, 1), (5, .bipush 6, 2)]), (17, [(7, .if_icmp .ge 39, 3), (10, .iload_n 2, 1), (11, .ifCond .lt 39, 3), (14, .iload_n 2, 1), (15, .bipush 6, 2), (17, .if_icmp .ge 39, 3)]), (27, [(20, .iload_n 2, 1), (21, .iload_n 1, 1), (22, .if_icmp .ne 27, 3), (25, .iconst 1, 1), (26, .ireturn, 1), (27, .getstatic 0, 3)]), (39, [(30, .iload_n 2, 1), (31, .iaload, 1), (32, .istore_n 2, 1), (33, .iinc 3 1, 3), (36, .goto 4, 3), (39, .iconst 0, 1)]), (40, [(40, .ireturn, 1)])])
def m_X5_putHand : qT := ((5, yX5_putHand, cX5_putHand, 2, (some .int)), (1, 0, 0, true), [(11, [(0, .aload_n 0, 1), (1, .getfield 502, 3), (4, .ifCond .lt 16, 3), (7, .aload_n 0, 1), (8, .getfield 502, 3), (11, .bipush 6, 2)]), (23, [(13, .if_icmp .lt 19, 3), (16, .bipush (-4), 2), (18, .ireturn, 1), (19, .aload_n 0, 1), (20, .getfield 500, 3), (23, .aload_n 0, 1)]), (31, [(24, .getfield 502, 3), (27, .iload_n 1, 1), (28, .iastore, 1), (29, .aload_n 0, 1), (30, .dup, 1), (31, .getfield 502, 3)]), (43, [(34, .iconst 1, 1), (35, .iadd, 1), (36, .putfield 502, 3), (39, .aload_n 0, 1), (40, .getfield 502, 3), (43, .iconst 1, 1)]), (45, [(44, .isub, 1), (45, .ireturn, 1)])])
def m_X5_hands : qT := ((5, yX5_hands, cX5_hands, 1, (some .int)), (0, 0, 0, true), [(4, [(0, .aload_n 0, 1), (1, .getfield 502, 3), (4, .ireturn, 1)])])
def m_X5_hasHand : qT := ((5, yX5_hasHand, cX5_hasHand, 2, (some .boolean)), (1, 0, 0, true), [(5, [(0, .iload_n 1, 1), (1, .ifCond .lt 22, 3), (4, .iload_n 1, 1), (5, .aload_n 0, 1)]), (13, [(6, .getfield 502, 3), (9, .if_icmp .ge 22, 3), (12, .iload_n 1, 1), (13, .bipush 6, 2)]), (22, [(15, .if_icmp .ge 22, 3), (18, .iconst 1, 1), (19, .goto 23, 3), (22, .iconst 0, 1)]), (23, [(23, .ireturn, 1)])])
def m_X5_index : qT := ((5, yX5_index, cX5_index, 5, (some .int)), (4, 0, 0, true), [(4, [(0, .iload_n 1, 1), (1, .bipush 12, 2), (3, .imul, 1), (4, .iload_n 2, 1)]), (8, [(5, .iadd, 1), (6, .iconst 4, 1), (7, .imul, 1), (8, .iload_n 3, 1)]), (13, [(9, .iadd, 1), (10, .bipush 24, 2), (12, .imul, 1), (13, .iload 4, 2)]), (16, [(15, .iadd, 1), (16, .ireturn, 1)])])
def m_X5_at : qT := ((5, yX5_at, cX5_at, 6, (some .int)), (4, 0, 0, true), [(4, [(0, .aload_n 0, 1), (1, .iload_n 1, 1), (2, .iload_n 2, 1), (3, .iload_n 3, 1), (4, .iload 4, 2)]), (16, [(6, .invokevirtual 70, 3), (9, .istore 5, 2), (11, .iload 5, 2), (13, .ifCond .lt 36, 3), (16, .iload 5, 2)]), (26, [(18, .aload_n 0, 1), (19, .getfield 501, 3), (22, .arraylength, 1), (23, .if_icmp .ge 36, 3), (26, .aload_n 0, 1)]), (36, [(27, .getfield 501, 3), (30, .iload 5, 2), (32, .iaload, 1), (33, .goto 37, 3), (36, .iconst 0, 1)]), (37, [(37, .ireturn, 1)])])
def m_X5_put : qT := ((5, yX5_put, cX5_put, 7, none), (5, 0, 0, true), [(4, [(0, .aload_n 0, 1), (1, .iload_n 1, 1), (2, .iload_n 2, 1), (3, .iload_n 3, 1), (4, .iload 4, 2)]), (16, [(6, .invokevirtual 70, 3), (9, .istore 6, 2), (11, .iload 6, 2), (13, .ifCond .lt 35, 3), (16, .iload 6, 2)]), (26, [(18, .aload_n 0, 1), (19, .getfield 501, 3), (22, .arraylength, 1), (23, .if_icmp .ge 35, 3), (26, .aload_n 0, 1)]), (35, [(27, .getfield 501, 3), (30, .iload 6, 2), (32, .iload 5, 2), (34, .iastore, 1), (35, .return_, 1)])])
def m_X5_leader : qT := ((5, yX5_leader, cX5_leader, 7, (some .int)), (3, 0, 0, true), [(9, [(0, .iconst (-1), 1), (1, .istore 4, 2), (3, .iconst (-1), 1), (4, .istore 5, 2), (6, .iconst 0, 1), (7, .istore 6, 2), (9, .iload 6, 2)]), (25, [(11, .aload_n 0, 1), (12, .getfield 502, 3), (15, .if_icmp .ge 68, 3), (18, .iload 6, 2), (20, .bipush 6, 2), (22, .if_icmp .ge 68, 3), (25, .aload_n 0, 1)]), (38, [(26, .getfield 500, 3), (29, .iload 6, 2), (31, .iaload, 1), (32, .iload 5, 2), (34, .if_icmp .le 62, 3), (37, .aload_n 0, 1), (38, .iload 6, 2)]), (51, [(40, .iload_n 1, 1), (41, .iload_n 2, 1), (42, .iload_n 3, 1), (43, .invokevirtual 71, 3), (46, .ifCond .eq 62, 3), (49, .iload 6, 2), (51, .istore 4, 2)]), (65, [(53, .aload_n 0, 1), (54, .getfield 500, 3), (57, .iload 6, 2), (59, .iaload, 1), (60, .istore 5, 2), (62, .iinc 6 1, 3), (65, .goto 9, 3)]), (70, [(68, .iload 4, 2), (70, .ireturn, 1)])])
def m_X5_leading : qT := ((5, yX5_leading, cX5_leading, 5, (some .int)), (3, 0, 0, true), [(4, [(0, .aload_n 0, 1), (1, .iload_n 1, 1), (2, .iload_n 2, 1), (3, .iload_n 3, 1), (4, .invokevirtual 73, 3)]), (15, [(7, .istore 4, 2), (9, .iload 4, 2), (11, .iconst (-1), 1), (12, .if_icmp .ne 19, 3), (15, .iconst 0, 1)]), (23, [(16, .goto 28, 3), (19, .aload_n 0, 1), (20, .iload 4, 2), (22, .iload_n 1, 1), (23, .iload_n 2, 1)]), (28, [(24, .iload_n 3, 1), (25, .invokevirtual 71, 3), (28, .ireturn, 1)])])
def m_X5_dissenters : qT := ((5, yX5_dissenters, cX5_dissenters, 8, (some .int)), (3, 0, 0, true), [(7, [(0, .aload_n 0, 1), (1, .iload_n 1, 1), (2, .iload_n 2, 1), (3, .iload_n 3, 1), (4, .invokevirtual 74, 3), (7, .istore 4, 2)]), (17, [(9, .iconst 0, 1), (10, .istore 5, 2), (12, .iconst 0, 1), (13, .istore 6, 2), (15, .iload 6, 2), (17, .aload_n 0, 1)]), (28, [(18, .getfield 502, 3), (21, .if_icmp .ge 56, 3), (24, .aload_n 0, 1), (25, .iload 6, 2), (27, .iload_n 1, 1), (28, .iload_n 2, 1)]), (40, [(29, .iload_n 3, 1), (30, .invokevirtual 71, 3), (33, .istore 7, 2), (35, .iload 7, 2), (37, .ifCond .eq 50, 3), (40, .iload 7, 2)]), (56, [(42, .iload 4, 2), (44, .if_icmp .eq 50, 3), (47, .iinc 5 1, 3), (50, .iinc 6 1, 3), (53, .goto 15, 3), (56, .iload 5, 2)]), (58, [(58, .ireturn, 1)])])
def m_X6_init : qT := ((6, yX6_init, cX6_init, 1, none), (0, 2, 24, false), [(5, [(0, .aload_n 0, 1), (1, .invokespecial 9999, 3), (4, .aload_n 0, 1), (5, .bipush 12, 2)]), (13, [(7, .newarray .int, 2), (9, .putfield 600, 3), (12, .aload_n 0, 1), (13, .bipush 12, 2)]), (20, [(15, .newarray .int, 2), (17, .putfield 601, 3), (20, .return_, 1)])])
def m_X6_put : qT := ((6, yX6_put, cX6_put, 3, (some .int)), (2, 0, 0, true), [(11, [(0, .aload_n 0, 1), (1, .getfield 602, 3), (4, .ifCond .lt 16, 3), (7, .aload_n 0, 1), (8, .getfield 602, 3), (11, .bipush 12, 2)]), (23, [(13, .if_icmp .lt 19, 3), (16, .bipush (-4), 2), (18, .ireturn, 1), (19, .aload_n 0, 1), (20, .getfield 600, 3), (23, .aload_n 0, 1)]), (33, [(24, .getfield 602, 3), (27, .iload_n 1, 1), (28, .iastore, 1), (29, .aload_n 0, 1), (30, .getfield 601, 3), (33, .aload_n 0, 1)]), (41, [(34, .getfield 602, 3), (37, .iload_n 2, 1), (38, .iastore, 1), (39, .aload_n 0, 1), (40, .dup, 1), (41, .getfield 602, 3)]), (53, [(44, .iconst 1, 1), (45, .iadd, 1), (46, .putfield 602, 3), (49, .aload_n 0, 1), (50, .getfield 602, 3), (53, .iconst 1, 1)]), (55, [(54, .isub, 1), (55, .ireturn, 1)])])
def m_X6_size : qT := ((6, yX6_size, cX6_size, 1, (some .int)), (0, 0, 0, true), [(4, [(0, .aload_n 0, 1), (1, .getfield 602, 3), (4, .ireturn, 1)])])
def m_X6_has : qT := ((6, yX6_has, cX6_has, 2, (some .boolean)), (1, 0, 0, true), [(5, [(0, .iload_n 1, 1), (1, .ifCond .lt 22, 3), (4, .iload_n 1, 1), (5, .aload_n 0, 1)]), (13, [(6, .getfield 602, 3), (9, .if_icmp .ge 22, 3), (12, .iload_n 1, 1), (13, .bipush 12, 2)]), (22, [(15, .if_icmp .ge 22, 3), (18, .iconst 1, 1), (19, .goto 23, 3), (22, .iconst 0, 1)]), (23, [(23, .ireturn, 1)])])
def m_X6_hasLine : qT := ((6, yX6_hasLine, cX6_hasLine, 3, (some .boolean)), (2, 0, 0, true), [(8, [(0, .aload_n 0, 1), (1, .iload_n 1, 1), (2, .invokevirtual 79, 3), (5, .ifCond .eq 26, 3), (8, .iload_n 2, 1)]), (17, [(9, .ifCond .lt 26, 3), (12, .iload_n 2, 1), (13, .aload_n 0, 1), (14, .getfield 600, 3), (17, .iload_n 1, 1)]), (26, [(18, .iaload, 1), (19, .if_icmp .ge 26, 3), (22, .iconst 1, 1), (23, .goto 27, 3), (26, .iconst 0, 1)]), (27, [(27, .ireturn, 1)])])
def m_X6_hasPlace : qT := ((6, yX6_hasPlace, cX6_hasPlace, 4, (some .boolean)), (3, 0, 0, true), [(6, [(0, .aload_n 0, 1), (1, .iload_n 1, 1), (2, .iload_n 2, 1), (3, .invokevirtual 80, 3), (6, .ifCond .eq 27, 3)]), (15, [(9, .iload_n 3, 1), (10, .ifCond .lt 27, 3), (13, .iload_n 3, 1), (14, .aload_n 0, 1), (15, .getfield 601, 3)]), (24, [(18, .iload_n 1, 1), (19, .iaload, 1), (20, .if_icmp .ge 27, 3), (23, .iconst 1, 1), (24, .goto 28, 3)]), (28, [(27, .iconst 0, 1), (28, .ireturn, 1)])])
def m_X6_linesOf : qT := ((6, yX6_linesOf, cX6_linesOf, 2, (some .int)), (1, 0, 0, true), [(5, [(0, .aload_n 0, 1), (1, .iload_n 1, 1), (2, .invokevirtual 79, 3), (5, .ifCond .eq 17, 3)]), (13, [(8, .aload_n 0, 1), (9, .getfield 600, 3), (12, .iload_n 1, 1), (13, .iaload, 1)]), (18, [(14, .goto 18, 3), (17, .iconst 0, 1), (18, .ireturn, 1)])])
def m_X6_placesOf : qT := ((6, yX6_placesOf, cX6_placesOf, 2, (some .int)), (1, 0, 0, true), [(5, [(0, .aload_n 0, 1), (1, .iload_n 1, 1), (2, .invokevirtual 79, 3), (5, .ifCond .eq 17, 3)]), (13, [(8, .aload_n 0, 1), (9, .getfield 601, 3), (12, .iload_n 1, 1), (13, .iaload, 1)]), (18, [(14, .goto 18, 3), (17, .iconst 0, 1), (18, .ireturn, 1)])])
def m_X7_init : qT := ((7, yX7_init, cX7_init, 1, none), (0, 2, 48, false), [(5, [(0, .aload_n 0, 1), (1, .invokespecial 9999, 3), (4, .aload_n 0, 1), (5, .bipush 24, 2)]), (13, [(7, .newarray .int, 2), (9, .putfield 700, 3), (12, .aload_n 0, 1), (13, .bipush 24, 2)]), (20, [(15, .newarray .int, 2), (17, .putfield 701, 3), (20, .return_, 1)])])
def m_X7_clear : qT := ((7, yX7_clear, cX7_clear, 1, none), (0, 0, 0, true), [(5, [(0, .aload_n 0, 1), (1, .iconst 0, 1), (2, .putfield 702, 3), (5, .return_, 1)])])
def m_X7_add : qT := ((7, yX7_add, cX7_add, 2, (some .boolean)), (1, 0, 0, true), [(8, [(0, .aload_n 0, 1), (1, .getfield 702, 3), (4, .ifCond .lt 16, 3), (7, .aload_n 0, 1), (8, .getfield 702, 3)]), (18, [(11, .bipush 24, 2), (13, .if_icmp .lt 18, 3), (16, .iconst 0, 1), (17, .ireturn, 1), (18, .aload_n 0, 1)]), (27, [(19, .getfield 700, 3), (22, .aload_n 0, 1), (23, .getfield 702, 3), (26, .iload_n 1, 1), (27, .iastore, 1)]), (34, [(28, .aload_n 0, 1), (29, .dup, 1), (30, .getfield 702, 3), (33, .iconst 1, 1), (34, .iadd, 1)]), (39, [(35, .putfield 702, 3), (38, .iconst 1, 1), (39, .ireturn, 1)])])
def m_X7_isWay : qT := ((7, yX7_isWay, cX7_isWay, 4, (some .boolean)), (2, 0, 0, true), [(11, [(0, .aload_n 0, 1), (1, .getfield 702, 3), (4, .bipush 24, 2), (6, .if_icmp .ge 24, 3), (9, .aload_n 1, 1), (10, .iload_n 2, 1), (11, .aload_n 0, 1)]), (24, [(12, .getfield 702, 3), (15, .invokevirtual 106, 3), (18, .iconst (-1), 1), (19, .if_icmp .eq 24, 3), (22, .iconst 0, 1), (23, .ireturn, 1), (24, .iconst 0, 1)]), (35, [(25, .istore_n 3, 1), (26, .iload_n 3, 1), (27, .aload_n 0, 1), (28, .getfield 702, 3), (31, .if_icmp .ge 67, 3), (34, .iload_n 3, 1), (35, .bipush 24, 2)]), (47, [(37, .if_icmp .ge 67, 3), (40, .aload_n 0, 1), (41, .getfield 700, 3), (44, .iload_n 3, 1), (45, .iaload, 1), (46, .aload_n 0, 1), (47, .aload_n 1, 1)]), (56, [(48, .iload_n 2, 1), (49, .iload_n 3, 1), (50, .invokevirtual 88, 3), (53, .ishr, 1), (54, .iconst 1, 1), (55, .iand, 1), (56, .ifCond .ne 61, 3)]), (68, [(59, .iconst 0, 1), (60, .ireturn, 1), (61, .iinc 3 1, 3), (64, .goto 26, 3), (67, .iconst 1, 1), (68, .ireturn, 1)])])
def m_X7_letterOn : qT := ((7, yX7_letterOn, cX7_letterOn, 5, (some .int)), (3, 0, 0, true), [(3, [(0, .aload_n 1, 1), (1, .iload_n 2, 1), (2, .iload_n 3, 1), (3, .invokevirtual 106, 3)]), (11, [(6, .istore 4, 2), (8, .iload 4, 2), (10, .iconst (-1), 1), (11, .if_icmp .ne 19, 3)]), (21, [(14, .bipush 26, 2), (16, .goto 21, 3), (19, .iload 4, 2), (21, .ireturn, 1)])])
def m_X7_countWays : qT := ((7, yX7_countWays, cX7_countWays, 4, (some .int)), (1, 0, 0, true), [(4, [(0, .iconst 0, 1), (1, .istore_n 2, 1), (2, .iconst 0, 1), (3, .istore_n 3, 1), (4, .iload_n 3, 1)]), (13, [(5, .aload_n 1, 1), (6, .invokevirtual 103, 3), (9, .if_icmp .ge 30, 3), (12, .aload_n 0, 1), (13, .aload_n 1, 1)]), (24, [(14, .iload_n 3, 1), (15, .invokevirtual 87, 3), (18, .ifCond .eq 24, 3), (21, .iinc 2 1, 3), (24, .iinc 3 1, 3)]), (31, [(27, .goto 4, 3), (30, .iload_n 2, 1), (31, .ireturn, 1)])])
def m_X7_findWay : qT := ((7, yX7_findWay, cX7_findWay, 5, (some .int)), (2, 0, 0, true), [(5, [(0, .iconst 0, 1), (1, .istore_n 3, 1), (2, .iconst 0, 1), (3, .istore 4, 2), (5, .iload 4, 2)]), (15, [(7, .aload_n 1, 1), (8, .invokevirtual 103, 3), (11, .if_icmp .ge 41, 3), (14, .aload_n 0, 1), (15, .aload_n 1, 1)]), (25, [(16, .iload 4, 2), (18, .invokevirtual 87, 3), (21, .ifCond .eq 35, 3), (24, .iload_n 3, 1), (25, .iload_n 2, 1)]), (35, [(26, .if_icmp .ne 32, 3), (29, .iload 4, 2), (31, .ireturn, 1), (32, .iinc 3 1, 3), (35, .iinc 4 1, 3)]), (42, [(38, .goto 5, 3), (41, .iconst (-1), 1), (42, .ireturn, 1)])])
def m_X7_carryNothing : qT := ((7, yX7_carryNothing, cX7_carryNothing, 1, none), (0, 0, 0, true), [(5, [(0, .aload_n 0, 1), (1, .getfield 701, 3), (4, .iconst (-1), 1), (5, .invokestatic 249, 3)]), (8, [(8, .return_, 1)])])
def m_X7_carry : qT := ((7, yX7_carry, cX7_carry, 7, none), (1, 0, 0, true), [(9, [(0, .aload_n 0, 1), (1, .invokevirtual 91, 3), (4, .iconst 1, 1), (5, .istore_n 2, 1), (6, .iconst 0, 1), (7, .istore_n 3, 1), (8, .iload_n 3, 1), (9, .aload_n 1, 1)]), (25, [(10, .invokevirtual 103, 3), (13, .if_icmp .ge 109, 3), (16, .aload_n 0, 1), (17, .aload_n 1, 1), (18, .iload_n 3, 1), (19, .invokevirtual 87, 3), (22, .ifCond .eq 103, 3), (25, .iconst 0, 1)]), (41, [(26, .istore 4, 2), (28, .iload 4, 2), (30, .aload_n 0, 1), (31, .getfield 702, 3), (34, .if_icmp .ge 101, 3), (37, .iload 4, 2), (39, .bipush 24, 2), (41, .if_icmp .ge 101, 3)]), (55, [(44, .aload_n 0, 1), (45, .aload_n 1, 1), (46, .iload_n 3, 1), (47, .iload 4, 2), (49, .invokevirtual 88, 3), (52, .istore 5, 2), (54, .iload_n 2, 1), (55, .ifCond .ne 70, 3)]), (71, [(58, .aload_n 0, 1), (59, .getfield 701, 3), (62, .iload 4, 2), (64, .iaload, 1), (65, .iload 5, 2), (67, .if_icmp .ne 74, 3), (70, .iconst 1, 1), (71, .goto 75, 3)]), (88, [(74, .iconst 0, 1), (75, .istore 6, 2), (77, .aload_n 0, 1), (78, .getfield 701, 3), (81, .iload 4, 2), (83, .iload 6, 2), (85, .ifCond .eq 93, 3), (88, .iload 5, 2)]), (103, [(90, .goto 94, 3), (93, .iconst (-1), 1), (94, .iastore, 1), (95, .iinc 4 1, 3), (98, .goto 28, 3), (101, .iconst 0, 1), (102, .istore_n 2, 1), (103, .iinc 3 1, 3)]), (109, [(106, .goto 8, 3), (109, .return_, 1)])])
def m_X7_carriedAt : qT := ((7, yX7_carriedAt, cX7_carriedAt, 2, (some .int)), (1, 0, 0, true), [(6, [(0, .iload_n 1, 1), (1, .ifCond .lt 27, 3), (4, .iload_n 1, 1), (5, .aload_n 0, 1), (6, .getfield 702, 3)]), (18, [(9, .if_icmp .ge 27, 3), (12, .iload_n 1, 1), (13, .bipush 24, 2), (15, .if_icmp .ge 27, 3), (18, .aload_n 0, 1)]), (27, [(19, .getfield 701, 3), (22, .iload_n 1, 1), (23, .iaload, 1), (24, .goto 28, 3), (27, .iconst (-1), 1)]), (28, [(28, .ireturn, 1)])])
def m_X8_init : qT := ((8, yX8_init, cX8_init, 1, none), (0, 1, 200, false), [(5, [(0, .aload_n 0, 1), (1, .invokespecial 9999, 3), (4, .aload_n 0, 1), (5, .sipush 200, 3)]), (13, [(8, .newarray .byte, 2), (10, .putfield 800, 3), (13, .return_, 1)])])
def m_X8_append : qT := ((8, yX8_append, cX8_append, 5, (some .int)), (2, 0, 0, true), [(12, [(0, .iload_n 1, 1), (1, .ifCond .lt 23, 3), (4, .aload_n 0, 1), (5, .getfield 801, 3), (8, .ifCond .lt 23, 3), (11, .aload_n 0, 1), (12, .getfield 801, 3)]), (26, [(15, .iload_n 1, 1), (16, .iadd, 1), (17, .sipush 200, 3), (20, .if_icmp .le 26, 3), (23, .bipush (-4), 2), (25, .ireturn, 1), (26, .iconst 0, 1)]), (39, [(27, .istore 4, 2), (29, .iload 4, 2), (31, .iload_n 1, 1), (32, .if_icmp .ge 62, 3), (35, .aload_n 0, 1), (36, .getfield 800, 3), (39, .aload_n 0, 1)]), (51, [(40, .getfield 801, 3), (43, .iload 4, 2), (45, .iadd, 1), (46, .lload_n 2, 1), (47, .bipush 8, 2), (49, .iload 4, 2), (51, .imul, 1)]), (62, [(52, .lshr, 1), (53, .l2i, 1), (54, .i2b, 1), (55, .bastore, 1), (56, .iinc 4 1, 3), (59, .goto 29, 3), (62, .aload_n 0, 1)]), (73, [(63, .dup, 1), (64, .getfield 801, 3), (67, .iload_n 1, 1), (68, .iadd, 1), (69, .putfield 801, 3), (72, .aload_n 0, 1), (73, .getfield 801, 3)]), (76, [(76, .ireturn, 1)])])
def m_X8_clear : qT := ((8, yX8_clear, cX8_clear, 1, none), (0, 0, 0, true), [(5, [(0, .aload_n 0, 1), (1, .iconst 0, 1), (2, .putfield 801, 3), (5, .return_, 1)])])
def m_X8_size : qT := ((8, yX8_size, cX8_size, 1, (some .int)), (0, 0, 0, true), [(4, [(0, .aload_n 0, 1), (1, .getfield 801, 3), (4, .ireturn, 1)])])
def m_X8_byteAt : qT := ((8, yX8_byteAt, cX8_byteAt, 2, (some .int)), (1, 0, 0, true), [(6, [(0, .iload_n 1, 1), (1, .ifCond .lt 32, 3), (4, .iload_n 1, 1), (5, .aload_n 0, 1), (6, .getfield 801, 3)]), (19, [(9, .if_icmp .ge 32, 3), (12, .iload_n 1, 1), (13, .sipush 200, 3), (16, .if_icmp .ge 32, 3), (19, .aload_n 0, 1)]), (28, [(20, .getfield 800, 3), (23, .iload_n 1, 1), (24, .baload, 1), (25, .sipush 255, 3), (28, .iand, 1)]), (33, [(29, .goto 33, 3), (32, .iconst (-1), 1), (33, .ireturn, 1)])])
def m_X8_lettersFrom : qT := ((8, yX8_lettersFrom, cX8_lettersFrom, 3, (some .int)), (1, 0, 0, true), [(4, [(0, .iload_n 1, 1), (1, .istore_n 2, 1), (2, .iload_n 2, 1), (3, .aload_n 0, 1), (4, .getfield 801, 3)]), (15, [(7, .if_icmp .ge 28, 3), (10, .aload_n 0, 1), (11, .iload_n 2, 1), (12, .invokevirtual 98, 3), (15, .invokestatic 100, 3)]), (28, [(18, .iconst (-1), 1), (19, .if_icmp .eq 28, 3), (22, .iinc 2 1, 3), (25, .goto 2, 3), (28, .iload_n 2, 1)]), (31, [(29, .iload_n 1, 1), (30, .isub, 1), (31, .ireturn, 1)])])
def m_X8_letterOf : qT := ((8, yX8_letterOf, cX8_letterOf, 1, (some .int)), (1, 0, 0, true), [(6, [(0, .iload_n 0, 1), (1, .bipush 97, 2), (3, .if_icmp .lt 19, 3), (6, .iload_n 0, 1)]), (13, [(7, .bipush 122, 2), (9, .if_icmp .gt 19, 3), (12, .iload_n 0, 1), (13, .bipush 97, 2)]), (20, [(15, .isub, 1), (16, .goto 20, 3), (19, .iconst (-1), 1), (20, .ireturn, 1)])])
def m_X9_init : qT := ((9, yX9_init, cX9_init, 2, none), (1, 1, 400, false), [(5, [(0, .aload_n 0, 1), (1, .invokespecial 9999, 3), (4, .aload_n 0, 1), (5, .iconst 2, 1)]), (11, [(6, .iconst 0, 1), (7, .iload_n 1, 1), (8, .sipush 200, 3), (11, .invokestatic 9992, 3)]), (20, [(14, .invokestatic 9991, 3), (17, .imul, 1), (18, .newarray .long, 2), (20, .putfield 900, 3)]), (23, [(23, .return_, 1)])])
def m_X9_clear : qT := ((9, yX9_clear, cX9_clear, 1, none), (0, 0, 0, true), [(5, [(0, .aload_n 0, 1), (1, .iconst 0, 1), (2, .putfield 901, 3), (5, .return_, 1)])])
def m_X9_size : qT := ((9, yX9_size, cX9_size, 1, (some .int)), (0, 0, 0, true), [(4, [(0, .aload_n 0, 1), (1, .getfield 901, 3), (4, .ireturn, 1)])])
def m_X9_head : qT := ((9, yX9_head, cX9_head, 2, (some .long)), (1, 0, 0, true), [(6, [(0, .iload_n 1, 1), (1, .ifCond .lt 34, 3), (4, .iload_n 1, 1), (5, .aload_n 0, 1), (6, .getfield 901, 3)]), (15, [(9, .if_icmp .ge 34, 3), (12, .iconst 2, 1), (13, .iload_n 1, 1), (14, .imul, 1), (15, .aload_n 0, 1)]), (24, [(16, .getfield 900, 3), (19, .arraylength, 1), (20, .if_icmp .ge 34, 3), (23, .aload_n 0, 1), (24, .getfield 900, 3)]), (31, [(27, .iconst 2, 1), (28, .iload_n 1, 1), (29, .imul, 1), (30, .laload, 1), (31, .goto 35, 3)]), (35, [(34, .lconst 0, 1), (35, .lreturn, 1)])])
def m_X9_tail : qT := ((9, yX9_tail, cX9_tail, 2, (some .long)), (1, 0, 0, true), [(9, [(0, .iload_n 1, 1), (1, .ifCond .lt 38, 3), (4, .iload_n 1, 1), (5, .aload_n 0, 1), (6, .getfield 901, 3), (9, .if_icmp .ge 38, 3)]), (17, [(12, .iconst 2, 1), (13, .iload_n 1, 1), (14, .imul, 1), (15, .iconst 1, 1), (16, .iadd, 1), (17, .aload_n 0, 1)]), (29, [(18, .getfield 900, 3), (21, .arraylength, 1), (22, .if_icmp .ge 38, 3), (25, .aload_n 0, 1), (26, .getfield 900, 3), (29, .iconst 2, 1)]), (35, [(30, .iload_n 1, 1), (31, .imul, 1), (32, .iconst 1, 1), (33, .iadd, 1), (34, .laload, 1), (35, .goto 39, 3)]), (39, [(38, .lconst 0, 1), (39, .lreturn, 1)])])
def m_X9_letter : qT := ((9, yX9_letter, cX9_letter, 8, (some .int)), (2, 0, 0, true), [(12, [(0, .iload_n 2, 1), (1, .ifCond .lt 10, 3), (4, .iload_n 2, 1), (5, .bipush 24, 2), (7, .if_icmp .lt 12, 3), (10, .iconst (-1), 1), (11, .ireturn, 1), (12, .iload_n 2, 1)]), (25, [(13, .bipush 12, 2), (15, .if_icmp .ge 22, 3), (18, .iconst 1, 1), (19, .goto 23, 3), (22, .iconst 0, 1), (23, .istore_n 3, 1), (24, .iload_n 3, 1), (25, .ifCond .eq 36, 3)]), (41, [(28, .aload_n 0, 1), (29, .iload_n 1, 1), (30, .invokevirtual 104, 3), (33, .goto 41, 3), (36, .aload_n 0, 1), (37, .iload_n 1, 1), (38, .invokevirtual 105, 3), (41, .lstore 4, 2)]), (56, [(43, .bipush 11, 2), (45, .iload_n 3, 1), (46, .ifCond .eq 53, 3), (49, .iload_n 2, 1), (50, .goto 57, 3), (53, .iload_n 2, 1), (54, .bipush 12, 2), (56, .isub, 1)]), (67, [(57, .isub, 1), (58, .istore 6, 2), (60, .lload 4, 2), (62, .iload 6, 2), (64, .iconst 5, 1), (65, .imul, 1), (66, .lshr, 1), (67, .ldc2_w 31, 3)]), (83, [(70, .land, 1), (71, .l2i, 1), (72, .istore 7, 2), (74, .iload 7, 2), (76, .ifCond .ne 83, 3), (79, .iconst (-1), 1), (80, .goto 98, 3), (83, .iload 7, 2)]), (98, [(85, .iconst 1, 1), (86, .if_icmp .ne 94, 3), (89, .bipush 26, 2), (91, .goto 98, 3), (94, .iload 7, 2), (96, .iconst 2, 1), (97, .isub, 1), (98, .ireturn, 1)])])
def m_X9_codeAt : qT := ((9, yX9_codeAt, cX9_codeAt, 2, (some .long)), (2, 0, 0, true), [(7, [(0, .iload_n 0, 1), (1, .bipush 26, 2), (3, .if_icmp .ne 10, 3), (6, .lconst 1, 1), (7, .goto 16, 3)]), (16, [(10, .iload_n 0, 1), (11, .i2l, 1), (12, .ldc2_w 2, 3), (15, .ladd, 1), (16, .bipush 11, 2)]), (22, [(18, .iload_n 1, 1), (19, .isub, 1), (20, .iconst 5, 1), (21, .imul, 1), (22, .lshl, 1)]), (23, [(23, .lreturn, 1)])])
def m_X9_lengthOf : qT := ((9, yX9_lengthOf, cX9_lengthOf, 7, (some .int)), (2, 0, 0, true), [(7, [(0, .lload_n 0, 1), (1, .lconst 0, 1), (2, .lcmp, 1), (3, .ifCond .ne 8, 3), (6, .iconst 0, 1), (7, .ireturn, 1)]), (15, [(8, .lload_n 2, 1), (9, .lconst 0, 1), (10, .lcmp, 1), (11, .ifCond .ne 18, 3), (14, .lload_n 0, 1), (15, .goto 19, 3)]), (26, [(18, .lload_n 2, 1), (19, .lstore 4, 2), (21, .lload 4, 2), (23, .lload 4, 2), (25, .lneg, 1), (26, .land, 1)]), (35, [(27, .lconst 1, 1), (28, .lsub, 1), (29, .invokestatic 247, 3), (32, .istore 6, 2), (34, .lload_n 2, 1), (35, .lconst 0, 1)]), (47, [(36, .lcmp, 1), (37, .ifCond .ne 45, 3), (40, .bipush 12, 2), (42, .goto 47, 3), (45, .bipush 24, 2), (47, .iload 6, 2)]), (52, [(49, .iconst 5, 1), (50, .idiv, 1), (51, .isub, 1), (52, .ireturn, 1)])])
def m_X9_add : qT := ((9, yX9_add, cX9_add, 9, (some .boolean)), (2, 0, 0, true), [(22, [(0, .iconst 0, 1), (1, .istore 5, 2), (3, .aload_n 0, 1), (4, .getfield 901, 3), (7, .istore 6, 2), (9, .iconst 0, 1), (10, .istore 7, 2), (12, .iload 7, 2), (14, .sipush 200, 3), (17, .if_icmp .ge 88, 3), (20, .iload 5, 2), (22, .iload 6, 2)]), (43, [(24, .if_icmp .ge 88, 3), (27, .iload 5, 2), (29, .iload 6, 2), (31, .iadd, 1), (32, .iconst 2, 1), (33, .idiv, 1), (34, .istore 8, 2), (36, .aload_n 0, 1), (37, .iload 8, 2), (39, .invokevirtual 104, 3), (42, .lload_n 1, 1), (43, .lcmp, 1)]), (65, [(44, .ifCond .lt 69, 3), (47, .aload_n 0, 1), (48, .iload 8, 2), (50, .invokevirtual 104, 3), (53, .lload_n 1, 1), (54, .lcmp, 1), (55, .ifCond .ne 78, 3), (58, .aload_n 0, 1), (59, .iload 8, 2), (61, .invokevirtual 105, 3), (64, .lload_n 3, 1), (65, .lcmp, 1)]), (90, [(66, .ifCond .ge 78, 3), (69, .iload 8, 2), (71, .iconst 1, 1), (72, .iadd, 1), (73, .istore 5, 2), (75, .goto 82, 3), (78, .iload 8, 2), (80, .istore 6, 2), (82, .iinc 7 1, 3), (85, .goto 12, 3), (88, .iload 5, 2), (90, .aload_n 0, 1)]), (114, [(91, .getfield 901, 3), (94, .if_icmp .ge 121, 3), (97, .aload_n 0, 1), (98, .iload 5, 2), (100, .invokevirtual 104, 3), (103, .lload_n 1, 1), (104, .lcmp, 1), (105, .ifCond .ne 121, 3), (108, .aload_n 0, 1), (109, .iload 5, 2), (111, .invokevirtual 105, 3), (114, .lload_n 3, 1)]), (136, [(115, .lcmp, 1), (116, .ifCond .ne 121, 3), (119, .iconst 1, 1), (120, .ireturn, 1), (121, .iload 5, 2), (123, .ifCond .lt 151, 3), (126, .iload 5, 2), (128, .aload_n 0, 1), (129, .getfield 901, 3), (132, .if_icmp .gt 151, 3), (135, .iconst 2, 1), (136, .aload_n 0, 1)]), (154, [(137, .getfield 901, 3), (140, .imul, 1), (141, .iconst 2, 1), (142, .iadd, 1), (143, .aload_n 0, 1), (144, .getfield 900, 3), (147, .arraylength, 1), (148, .if_icmp .le 153, 3), (151, .iconst 0, 1), (152, .ireturn, 1), (153, .aload_n 0, 1), (154, .getfield 900, 3)]), (172, [(157, .iconst 2, 1), (158, .iload 5, 2), (160, .imul, 1), (161, .aload_n 0, 1), (162, .getfield 900, 3), (165, .iconst 2, 1), (166, .iload 5, 2), (168, .imul, 1), (169, .iconst 2, 1), (170, .iadd, 1), (171, .iconst 2, 1), (172, .aload_n 0, 1)]), (192, [(173, .getfield 901, 3), (176, .iload 5, 2), (178, .isub, 1), (179, .imul, 1), (180, .invokestatic 9998, 3), (183, .aload_n 0, 1), (184, .getfield 900, 3), (187, .iconst 2, 1), (188, .iload 5, 2), (190, .imul, 1), (191, .lload_n 1, 1), (192, .lastore, 1)]), (207, [(193, .aload_n 0, 1), (194, .getfield 900, 3), (197, .iconst 2, 1), (198, .iload 5, 2), (200, .imul, 1), (201, .iconst 1, 1), (202, .iadd, 1), (203, .lload_n 3, 1), (204, .lastore, 1), (205, .aload_n 0, 1), (206, .dup, 1), (207, .getfield 901, 3)]), (216, [(210, .iconst 1, 1), (211, .iadd, 1), (212, .putfield 901, 3), (215, .iconst 1, 1), (216, .ireturn, 1)])])
def m_X9_addAll : qT := ((9, yX9_addAll, cX9_addAll, 3, (some .boolean)), (1, 0, 0, true), [(4, [(0, .iconst 0, 1), (1, .istore_n 2, 1), (2, .iload_n 2, 1), (3, .aload_n 1, 1), (4, .getfield 901, 3)]), (13, [(7, .if_icmp .ge 35, 3), (10, .aload_n 0, 1), (11, .aload_n 1, 1), (12, .iload_n 2, 1), (13, .invokevirtual 104, 3)]), (24, [(16, .aload_n 1, 1), (17, .iload_n 2, 1), (18, .invokevirtual 105, 3), (21, .invokevirtual 109, 3), (24, .ifCond .ne 29, 3)]), (35, [(27, .iconst 0, 1), (28, .ireturn, 1), (29, .iinc 2 1, 3), (32, .goto 2, 3), (35, .iconst 1, 1)]), (36, [(36, .ireturn, 1)])])
def m_X9_addPairs : qT := ((9, yX9_addPairs, cX9_addPairs, 5, (some .boolean)), (2, 0, 0, true), [(7, [(0, .iconst 0, 1), (1, .istore_n 3, 1), (2, .iload_n 3, 1), (3, .aload_n 1, 1), (4, .getfield 901, 3), (7, .if_icmp .ge 65, 3)]), (19, [(10, .iconst 0, 1), (11, .istore 4, 2), (13, .iload 4, 2), (15, .aload_n 2, 1), (16, .getfield 901, 3), (19, .if_icmp .ge 59, 3)]), (29, [(22, .aload_n 0, 1), (23, .aload_n 1, 1), (24, .iload_n 3, 1), (25, .invokevirtual 104, 3), (28, .aload_n 1, 1), (29, .iload_n 3, 1)]), (40, [(30, .invokevirtual 105, 3), (33, .aload_n 2, 1), (34, .iload 4, 2), (36, .invokevirtual 104, 3), (39, .aload_n 2, 1), (40, .iload 4, 2)]), (53, [(42, .invokevirtual 105, 3), (45, .invokevirtual 112, 3), (48, .ifCond .ne 53, 3), (51, .iconst 0, 1), (52, .ireturn, 1), (53, .iinc 4 1, 3)]), (66, [(56, .goto 13, 3), (59, .iinc 3 1, 3), (62, .goto 2, 3), (65, .iconst 1, 1), (66, .ireturn, 1)])])
def m_X9_addPair : qT := ((9, yX9_addPair, cX9_addPair, 15, (some .boolean)), (4, 0, 0, true), [(18, [(0, .lload_n 1, 1), (1, .lload_n 3, 1), (2, .invokestatic 108, 3), (5, .istore 9, 2), (7, .lload 5, 2), (9, .lload 7, 2), (11, .invokestatic 108, 3), (14, .istore 10, 2), (16, .iload 9, 2), (18, .ifCond .ne 30, 3)]), (37, [(21, .aload_n 0, 1), (22, .lload 5, 2), (24, .lload 7, 2), (26, .invokevirtual 109, 3), (29, .ireturn, 1), (30, .iload 10, 2), (32, .ifCond .ne 42, 3), (35, .aload_n 0, 1), (36, .lload_n 1, 1), (37, .lload_n 3, 1)]), (53, [(38, .invokevirtual 109, 3), (41, .ireturn, 1), (42, .iload 9, 2), (44, .iconst 1, 1), (45, .iadd, 1), (46, .istore 11, 2), (48, .iload 11, 2), (50, .iload 10, 2), (52, .iadd, 1), (53, .bipush 24, 2)]), (72, [(55, .if_icmp .le 60, 3), (58, .iconst 0, 1), (59, .ireturn, 1), (60, .iload 11, 2), (62, .bipush 12, 2), (64, .if_icmp .le 100, 3), (67, .iload 11, 2), (69, .bipush 12, 2), (71, .isub, 1), (72, .iconst 5, 1)]), (86, [(73, .imul, 1), (74, .istore 12, 2), (76, .aload_n 0, 1), (77, .lload_n 1, 1), (78, .lload_n 3, 1), (79, .bipush 26, 2), (81, .iload 9, 2), (83, .bipush 12, 2), (85, .isub, 1), (86, .invokestatic 107, 3)]), (103, [(89, .lor, 1), (90, .lload 5, 2), (92, .iload 12, 2), (94, .lshr, 1), (95, .lor, 1), (96, .invokevirtual 109, 3), (99, .ireturn, 1), (100, .iload 11, 2), (102, .iconst 5, 1), (103, .imul, 1)]), (120, [(104, .istore 12, 2), (106, .lload 5, 2), (108, .bipush 60, 2), (110, .iload 12, 2), (112, .isub, 1), (113, .lshl, 1), (114, .ldc2_w 1152921504606846975, 3), (117, .land, 1), (118, .lstore 13, 2), (120, .aload_n 0, 1)]), (136, [(121, .lload_n 1, 1), (122, .bipush 26, 2), (124, .iload 9, 2), (126, .invokestatic 107, 3), (129, .lor, 1), (130, .lload 5, 2), (132, .iload 12, 2), (134, .lshr, 1), (135, .lor, 1), (136, .lload 13, 2)]), (147, [(138, .lload 7, 2), (140, .iload 12, 2), (142, .lshr, 1), (143, .lor, 1), (144, .invokevirtual 109, 3), (147, .ireturn, 1)])])
def m_X9_copy : qT := ((9, yX9_copy, cX9_copy, 2, (some (.object "InscribedStones$TextSet"))), (0, 2, 402, false), [(5, [(0, .new 9, 3), (3, .dup, 1), (4, .aload_n 0, 1), (5, .getfield 901, 3)]), (13, [(8, .invokespecial 101, 3), (11, .astore_n 1, 1), (12, .aload_n 1, 1), (13, .aload_n 0, 1)]), (19, [(14, .invokevirtual 110, 3), (17, .pop, 1), (18, .aload_n 1, 1), (19, .areturn, 1)])])
def m_X10_init : qT := ((10, yX10_init, cX10_init, 1, none), (0, 2, 164, false), [(5, [(0, .aload_n 0, 1), (1, .invokespecial 9999, 3), (4, .aload_n 0, 1), (5, .sipush 160, 3)]), (14, [(8, .newarray .byte, 2), (10, .putfield 1000, 3), (13, .aload_n 0, 1), (14, .iconst 4, 1)]), (21, [(15, .newarray .int, 2), (17, .putfield 1001, 3), (20, .aload_n 0, 1), (21, .getfield 1001, 3)]), (28, [(24, .iconst (-1), 1), (25, .invokestatic 249, 3), (28, .return_, 1)])])
def m_X10_has : qT := ((10, yX10_has, cX10_has, 1, (some .boolean)), (1, 0, 0, true), [(5, [(0, .iload_n 0, 1), (1, .ifCond .lt 13, 3), (4, .iload_n 0, 1), (5, .iconst 4, 1)]), (13, [(6, .if_icmp .ge 13, 3), (9, .iconst 1, 1), (10, .goto 14, 3), (13, .iconst 0, 1)]), (14, [(14, .ireturn, 1)])])
def m_X10_isMissing : qT := ((10, yX10_isMissing, cX10_isMissing, 2, (some .boolean)), (1, 0, 0, true), [(5, [(0, .aload_n 0, 1), (1, .iload_n 1, 1), (2, .invokevirtual 117, 3), (5, .iconst (-1), 1)]), (13, [(6, .if_icmp .ne 13, 3), (9, .iconst 1, 1), (10, .goto 14, 3), (13, .iconst 0, 1)]), (14, [(14, .ireturn, 1)])])
def m_X10_sizeOf : qT := ((10, yX10_sizeOf, cX10_sizeOf, 2, (some .int)), (1, 0, 0, true), [(7, [(0, .iload_n 1, 1), (1, .invokestatic 115, 3), (4, .ifCond .eq 16, 3), (7, .aload_n 0, 1)]), (13, [(8, .getfield 1001, 3), (11, .iload_n 1, 1), (12, .iaload, 1), (13, .goto 17, 3)]), (17, [(16, .iconst (-1), 1), (17, .ireturn, 1)])])
def m_X10_put : qT := ((10, yX10_put, cX10_put, 3, none), (2, 0, 0, true), [(8, [(0, .iload_n 1, 1), (1, .invokestatic 115, 3), (4, .ifCond .eq 32, 3), (7, .aload_n 0, 1), (8, .getfield 1001, 3)]), (15, [(11, .iload_n 1, 1), (12, .iload_n 2, 1), (13, .iastore, 1), (14, .aload_n 0, 1), (15, .getfield 1000, 3)]), (23, [(18, .iload_n 1, 1), (19, .bipush 40, 2), (21, .imul, 1), (22, .iload_n 1, 1), (23, .iconst 1, 1)]), (29, [(24, .iadd, 1), (25, .bipush 40, 2), (27, .imul, 1), (28, .iconst 0, 1), (29, .invokestatic 250, 3)]), (32, [(32, .return_, 1)])])
def m_X10_set : qT := ((10, yX10_set, cX10_set, 4, (some .boolean)), (3, 0, 0, true), [(11, [(0, .iload_n 1, 1), (1, .invokestatic 115, 3), (4, .ifCond .eq 26, 3), (7, .iload_n 2, 1), (8, .ifCond .lt 26, 3), (11, .iload_n 2, 1)]), (21, [(12, .aload_n 0, 1), (13, .iload_n 1, 1), (14, .invokevirtual 117, 3), (17, .if_icmp .ge 26, 3), (20, .iload_n 2, 1), (21, .bipush 40, 2)]), (32, [(23, .if_icmp .lt 28, 3), (26, .iconst 0, 1), (27, .ireturn, 1), (28, .aload_n 0, 1), (29, .getfield 1000, 3), (32, .iload_n 1, 1)]), (39, [(33, .bipush 40, 2), (35, .imul, 1), (36, .iload_n 2, 1), (37, .iadd, 1), (38, .iload_n 3, 1), (39, .i2b, 1)]), (42, [(40, .bastore, 1), (41, .iconst 1, 1), (42, .ireturn, 1)])])
def m_X10_byteAt : qT := ((10, yX10_byteAt, cX10_byteAt, 5, (some .int)), (3, 0, 0, true), [(8, [(0, .aload_n 0, 1), (1, .iload_n 1, 1), (2, .invokevirtual 117, 3), (5, .istore 4, 2), (7, .iload_n 2, 1), (8, .ifCond .lt 30, 3)]), (19, [(11, .iload_n 3, 1), (12, .ifCond .lt 30, 3), (15, .iload_n 2, 1), (16, .iload 4, 2), (18, .iload_n 3, 1), (19, .isub, 1)]), (31, [(20, .if_icmp .ge 30, 3), (23, .iload 4, 2), (25, .bipush 40, 2), (27, .if_icmp .le 32, 3), (30, .iconst (-1), 1), (31, .ireturn, 1)]), (40, [(32, .aload_n 0, 1), (33, .getfield 1000, 3), (36, .iload_n 1, 1), (37, .bipush 40, 2), (39, .imul, 1), (40, .iload_n 2, 1)]), (48, [(41, .iadd, 1), (42, .iload_n 3, 1), (43, .iadd, 1), (44, .baload, 1), (45, .sipush 255, 3), (48, .iand, 1)]), (49, [(49, .ireturn, 1)])])
def m_X11_init : qT := ((11, yX11_init, cX11_init, 1, none), (0, 62, 12617, false), [(15, [(0, .aload_n 0, 1), (1, .invokespecial 9999, 3), (4, .aload_n 0, 1), (5, .new 6, 3), (8, .dup, 1), (9, .invokespecial 76, 3), (12, .putfield 1100, 3), (15, .aload_n 0, 1)]), (31, [(16, .new 5, 3), (19, .dup, 1), (20, .invokespecial 61, 3), (23, .putfield 1101, 3), (26, .aload_n 0, 1), (27, .new 8, 3), (30, .dup, 1), (31, .invokespecial 94, 3)]), (49, [(34, .putfield 1102, 3), (37, .aload_n 0, 1), (38, .new 2, 3), (41, .dup, 1), (42, .invokespecial 24, 3), (45, .putfield 1103, 3), (48, .aload_n 0, 1), (49, .bipush 8, 2)]), (68, [(51, .anewarray 9, 3), (54, .putfield 1104, 3), (57, .aload_n 0, 1), (58, .new 7, 3), (61, .dup, 1), (62, .invokespecial 84, 3), (65, .putfield 1106, 3), (68, .aload_n 0, 1)]), (84, [(69, .new 1, 3), (72, .dup, 1), (73, .aload_n 0, 1), (74, .getfield 1100, 3), (77, .invokespecial 11, 3), (80, .putfield 1107, 3), (83, .aload_n 0, 1), (84, .new 0, 3)]), (100, [(87, .dup, 1), (88, .invokespecial 0, 3), (91, .putfield 1108, 3), (94, .aload_n 0, 1), (95, .new 4, 3), (98, .dup, 1), (99, .aload_n 0, 1), (100, .getfield 1108, 3)]), (120, [(103, .invokespecial 50, 3), (106, .putfield 1109, 3), (109, .aload_n 0, 1), (110, .new 3, 3), (113, .dup, 1), (114, .invokespecial 38, 3), (117, .putfield 1110, 3), (120, .aload_n 0, 1)]), (131, [(121, .new 10, 3), (124, .dup, 1), (125, .invokespecial 114, 3), (128, .putfield 1111, 3), (131, .return_, 1)])])
def m_X11_stone : qT := ((11, yX11_stone, cX11_stone, 3, (some .int)), (2, 0, 0, true), [(6, [(0, .iload_n 1, 1), (1, .iconst 1, 1), (2, .if_icmp .lt 21, 3), (5, .iload_n 1, 1), (6, .iconst 4, 1)]), (15, [(7, .if_icmp .gt 21, 3), (10, .iload_n 2, 1), (11, .iconst 1, 1), (12, .if_icmp .lt 21, 3), (15, .iload_n 2, 1)]), (24, [(16, .bipush 24, 2), (18, .if_icmp .le 24, 3), (21, .bipush (-2), 2), (23, .ireturn, 1), (24, .aload_n 0, 1)]), (33, [(25, .getfield 1100, 3), (28, .iload_n 1, 1), (29, .iload_n 2, 1), (30, .invokevirtual 77, 3), (33, .ireturn, 1)])])
def m_X11_hand : qT := ((11, yX11_hand, cX11_hand, 2, (some .int)), (1, 0, 0, true), [(5, [(0, .iload_n 1, 1), (1, .ifCond .lt 10, 3), (4, .iload_n 1, 1), (5, .bipush 9, 2)]), (13, [(7, .if_icmp .le 13, 3), (10, .bipush (-2), 2), (12, .ireturn, 1), (13, .aload_n 0, 1)]), (21, [(14, .getfield 1101, 3), (17, .iload_n 1, 1), (18, .invokevirtual 67, 3), (21, .ireturn, 1)])])
def m_X11_read : qT := ((11, yX11_read, cX11_read, 8, (some .int)), (6, 0, 0, true), [(11, [(0, .aload_n 0, 1), (1, .getfield 1101, 3), (4, .iload_n 1, 1), (5, .invokevirtual 69, 3), (8, .ifCond .eq 25, 3), (11, .aload_n 0, 1)]), (22, [(12, .getfield 1100, 3), (15, .iload_n 2, 1), (16, .iload_n 3, 1), (17, .iload 4, 2), (19, .invokevirtual 81, 3), (22, .ifCond .ne 28, 3)]), (35, [(25, .bipush (-2), 2), (27, .ireturn, 1), (28, .iload 5, 2), (30, .iload 6, 2), (32, .invokestatic 62, 3), (35, .istore 7, 2)]), (46, [(37, .iload 7, 2), (39, .ifCond .ne 45, 3), (42, .bipush (-2), 2), (44, .ireturn, 1), (45, .aload_n 0, 1), (46, .getfield 1101, 3)]), (56, [(49, .iload_n 1, 1), (50, .iload_n 2, 1), (51, .iload_n 3, 1), (52, .iload 4, 2), (54, .iload 7, 2), (56, .invokevirtual 72, 3)]), (60, [(59, .iconst 1, 1), (60, .ireturn, 1)])])
def m_X11_forget : qT := ((11, yX11_forget, cX11_forget, 5, (some .int)), (4, 0, 0, true), [(11, [(0, .aload_n 0, 1), (1, .getfield 1101, 3), (4, .iload_n 1, 1), (5, .invokevirtual 69, 3), (8, .ifCond .eq 25, 3), (11, .aload_n 0, 1)]), (22, [(12, .getfield 1100, 3), (15, .iload_n 2, 1), (16, .iload_n 3, 1), (17, .iload 4, 2), (19, .invokevirtual 81, 3), (22, .ifCond .ne 28, 3)]), (33, [(25, .bipush (-2), 2), (27, .ireturn, 1), (28, .aload_n 0, 1), (29, .getfield 1101, 3), (32, .iload_n 1, 1), (33, .iload_n 2, 1)]), (44, [(34, .iload_n 3, 1), (35, .iload 4, 2), (37, .invokevirtual 71, 3), (40, .ifCond .ne 45, 3), (43, .iconst 0, 1), (44, .ireturn, 1)]), (52, [(45, .aload_n 0, 1), (46, .getfield 1101, 3), (49, .iload_n 1, 1), (50, .iload_n 2, 1), (51, .iload_n 3, 1), (52, .iload 4, 2)]), (59, [(54, .iconst 0, 1), (55, .invokevirtual 72, 3), (58, .iconst 1, 1), (59, .ireturn, 1)])])
def m_X11_sign : qT := ((11, yX11_sign, cX11_sign, 5, (some .int)), (4, 0, 0, true), [(10, [(0, .aload_n 0, 1), (1, .getfield 1100, 3), (4, .iload_n 1, 1), (5, .iload_n 2, 1), (6, .iload_n 3, 1), (7, .invokevirtual 81, 3), (10, .ifCond .ne 16, 3)]), (52, [(13, .bipush (-2), 2), (15, .ireturn, 1), (16, .iload 4, 2), (18, .tableswitch 98 0 3 #[48, 62, 76, 87], 30), (48, .aload_n 0, 1), (49, .getfield 1101, 3), (52, .iload_n 1, 1)]), (63, [(53, .iload_n 2, 1), (54, .iload_n 3, 1), (55, .invokevirtual 74, 3), (58, .invokestatic 64, 3), (61, .ireturn, 1), (62, .aload_n 0, 1), (63, .getfield 1101, 3)]), (76, [(66, .iload_n 1, 1), (67, .iload_n 2, 1), (68, .iload_n 3, 1), (69, .invokevirtual 74, 3), (72, .invokestatic 65, 3), (75, .ireturn, 1), (76, .aload_n 0, 1)]), (87, [(77, .getfield 1101, 3), (80, .iload_n 1, 1), (81, .iload_n 2, 1), (82, .iload_n 3, 1), (83, .invokevirtual 73, 3), (86, .ireturn, 1), (87, .aload_n 0, 1)]), (98, [(88, .getfield 1101, 3), (91, .iload_n 1, 1), (92, .iload_n 2, 1), (93, .iload_n 3, 1), (94, .invokevirtual 75, 3), (97, .ireturn, 1), (98, .bipush (-2), 2)]), (100, [(100, .ireturn, 1)])])
def m_X11_feed : qT := ((11, yX11_feed, cX11_feed, 4, (some .int)), (2, 0, 0, true), [(5, [(0, .iload_n 1, 1), (1, .iconst 1, 1), (2, .if_icmp .lt 11, 3), (5, .iload_n 1, 1)]), (13, [(6, .bipush 8, 2), (8, .if_icmp .le 14, 3), (11, .bipush (-2), 2), (13, .ireturn, 1)]), (19, [(14, .aload_n 0, 1), (15, .getfield 1102, 3), (18, .iload_n 1, 1), (19, .lload_n 2, 1)]), (23, [(20, .invokevirtual 95, 3), (23, .ireturn, 1)])])
def m_X11_formula : qT := ((11, yX11_formula, cX11_formula, 2, (some .int)), (0, 2, 402, true), [(15, [(0, .aload_n 0, 1), (1, .getfield 1105, 3), (4, .ifCond .lt 19, 3), (7, .aload_n 0, 1), (8, .getfield 1105, 3), (11, .aload_n 0, 1), (12, .getfield 1104, 3), (15, .arraylength, 1)]), (30, [(16, .if_icmp .lt 22, 3), (19, .bipush (-4), 2), (21, .ireturn, 1), (22, .aload_n 0, 1), (23, .getfield 1103, 3), (26, .aload_n 0, 1), (27, .getfield 1102, 3), (30, .invokevirtual 25, 3)]), (46, [(33, .istore_n 1, 1), (34, .aload_n 0, 1), (35, .getfield 1102, 3), (38, .invokevirtual 96, 3), (41, .iload_n 1, 1), (42, .iconst (-1), 1), (43, .if_icmp .eq 51, 3), (46, .bipush (-20), 2)]), (61, [(48, .iload_n 1, 1), (49, .isub, 1), (50, .ireturn, 1), (51, .aload_n 0, 1), (52, .getfield 1103, 3), (55, .invokevirtual 26, 3), (58, .ifCond .eq 64, 3), (61, .bipush (-3), 2)]), (76, [(63, .ireturn, 1), (64, .aload_n 0, 1), (65, .getfield 1104, 3), (68, .aload_n 0, 1), (69, .getfield 1105, 3), (72, .aload_n 0, 1), (73, .getfield 1103, 3), (76, .invokevirtual 27, 3)]), (90, [(79, .aastore, 1), (80, .aload_n 0, 1), (81, .dup, 1), (82, .getfield 1105, 3), (85, .iconst 1, 1), (86, .iadd, 1), (87, .putfield 1105, 3), (90, .aload_n 0, 1)]), (96, [(91, .getfield 1105, 3), (94, .iconst 1, 1), (95, .isub, 1), (96, .ireturn, 1)])])
def m_X11_texts : qT := ((11, yX11_texts, cX11_texts, 3, (some .int)), (1, 0, 0, true), [(5, [(0, .aload_n 0, 1), (1, .iload_n 1, 1), (2, .invokevirtual 135, 3), (5, .astore_n 2, 1)]), (12, [(6, .aload_n 2, 1), (7, .ifnonnull 15, 3), (10, .bipush (-2), 2), (12, .goto 19, 3)]), (19, [(15, .aload_n 2, 1), (16, .invokevirtual 103, 3), (19, .ireturn, 1)])])
def m_X11_text : qT := ((11, yX11_text, cX11_text, 5, (some .int)), (3, 0, 0, true), [(5, [(0, .aload_n 0, 1), (1, .iload_n 1, 1), (2, .invokevirtual 135, 3), (5, .astore 4, 2)]), (14, [(7, .aload 4, 2), (9, .ifnonnull 17, 3), (12, .bipush (-2), 2), (14, .goto 24, 3)]), (21, [(17, .aload 4, 2), (19, .iload_n 2, 1), (20, .iload_n 3, 1), (21, .invokevirtual 106, 3)]), (24, [(24, .ireturn, 1)])])
def m_X11_ways : qT := ((11, yX11_ways, cX11_ways, 5, (some .int)), (3, 0, 0, true), [(7, [(0, .aload_n 0, 1), (1, .iload_n 3, 1), (2, .invokevirtual 135, 3), (5, .astore 4, 2), (7, .aload 4, 2)]), (17, [(9, .ifnull 24, 3), (12, .aload_n 0, 1), (13, .getfield 1100, 3), (16, .iload_n 1, 1), (17, .iload_n 2, 1)]), (27, [(18, .invokevirtual 80, 3), (21, .ifCond .ne 27, 3), (24, .bipush (-2), 2), (26, .ireturn, 1), (27, .aload_n 0, 1)]), (34, [(28, .iload_n 1, 1), (29, .iload_n 2, 1), (30, .invokevirtual 136, 3), (33, .aload_n 0, 1), (34, .getfield 1106, 3)]), (42, [(37, .aload 4, 2), (39, .invokevirtual 89, 3), (42, .ireturn, 1)])])
def m_X11_way : qT := ((11, yX11_way, cX11_way, 6, (some .int)), (4, 0, 0, true), [(7, [(0, .aload_n 0, 1), (1, .iload_n 3, 1), (2, .invokevirtual 135, 3), (5, .astore 5, 2), (7, .aload 5, 2)]), (17, [(9, .ifnull 24, 3), (12, .aload_n 0, 1), (13, .getfield 1100, 3), (16, .iload_n 1, 1), (17, .iload_n 2, 1)]), (27, [(18, .invokevirtual 80, 3), (21, .ifCond .ne 27, 3), (24, .bipush (-2), 2), (26, .ireturn, 1), (27, .aload_n 0, 1)]), (34, [(28, .iload_n 1, 1), (29, .iload_n 2, 1), (30, .invokevirtual 136, 3), (33, .aload_n 0, 1), (34, .getfield 1106, 3)]), (44, [(37, .aload 5, 2), (39, .iload 4, 2), (41, .invokevirtual 90, 3), (44, .ireturn, 1)])])
def m_X11_carried : qT := ((11, yX11_carried, cX11_carried, 6, (some .int)), (4, 0, 0, true), [(10, [(0, .aload_n 0, 1), (1, .iload 4, 2), (3, .invokevirtual 135, 3), (6, .astore 5, 2), (8, .aload 5, 2), (10, .ifnull 26, 3)]), (20, [(13, .aload_n 0, 1), (14, .getfield 1100, 3), (17, .iload_n 1, 1), (18, .iload_n 2, 1), (19, .iload_n 3, 1), (20, .invokevirtual 81, 3)]), (31, [(23, .ifCond .ne 29, 3), (26, .bipush (-2), 2), (28, .ireturn, 1), (29, .aload_n 0, 1), (30, .iload_n 1, 1), (31, .iload_n 2, 1)]), (44, [(32, .invokevirtual 136, 3), (35, .aload_n 0, 1), (36, .getfield 1106, 3), (39, .aload 5, 2), (41, .invokevirtual 92, 3), (44, .aload_n 0, 1)]), (52, [(45, .getfield 1106, 3), (48, .iload_n 3, 1), (49, .invokevirtual 93, 3), (52, .ireturn, 1)])])
def m_X11_fits : qT := ((11, yX11_fits, cX11_fits, 5, (some .int)), (2, 0, 0, true), [(12, [(0, .aload_n 0, 1), (1, .getfield 1100, 3), (4, .iload_n 1, 1), (5, .iload_n 2, 1), (6, .invokevirtual 80, 3), (9, .ifCond .ne 15, 3), (12, .bipush (-2), 2)]), (22, [(14, .ireturn, 1), (15, .aload_n 0, 1), (16, .iload_n 1, 1), (17, .iload_n 2, 1), (18, .invokevirtual 136, 3), (21, .iconst 0, 1), (22, .istore_n 3, 1)]), (33, [(23, .iload_n 3, 1), (24, .aload_n 0, 1), (25, .getfield 1105, 3), (28, .if_icmp .ge 65, 3), (31, .aload_n 0, 1), (32, .iload_n 3, 1), (33, .invokevirtual 135, 3)]), (49, [(36, .astore 4, 2), (38, .aload 4, 2), (40, .ifnull 59, 3), (43, .aload_n 0, 1), (44, .getfield 1106, 3), (47, .aload 4, 2), (49, .iconst 0, 1)]), (62, [(50, .invokevirtual 90, 3), (53, .iconst (-1), 1), (54, .if_icmp .eq 59, 3), (57, .iload_n 3, 1), (58, .ireturn, 1), (59, .iinc 3 1, 3), (62, .goto 23, 3)]), (66, [(65, .iconst (-1), 1), (66, .ireturn, 1)])])
def m_X11_textsOf : qT := ((11, yX11_textsOf, cX11_textsOf, 3, (some (.object "InscribedStones$TextSet"))), (1, 0, 0, true), [(6, [(0, .iload_n 1, 1), (1, .ifCond .lt 25, 3), (4, .iload_n 1, 1), (5, .aload_n 0, 1), (6, .getfield 1105, 3)]), (17, [(9, .if_icmp .ge 25, 3), (12, .iload_n 1, 1), (13, .aload_n 0, 1), (14, .getfield 1104, 3), (17, .arraylength, 1)]), (26, [(18, .if_icmp .ge 25, 3), (21, .iconst 1, 1), (22, .goto 26, 3), (25, .iconst 0, 1), (26, .istore_n 2, 1)]), (35, [(27, .iload_n 2, 1), (28, .ifCond .eq 40, 3), (31, .aload_n 0, 1), (32, .getfield 1104, 3), (35, .iload_n 1, 1)]), (41, [(36, .aaload, 1), (37, .goto 41, 3), (40, .aconst_null, 1), (41, .areturn, 1)])])
def m_X11_layBare : qT := ((11, yX11_layBare, cX11_layBare, 3, none), (2, 0, 0, true), [(7, [(0, .aload_n 0, 1), (1, .getfield 1106, 3), (4, .invokevirtual 85, 3), (7, .aload_n 0, 1)]), (13, [(8, .iload_n 1, 1), (9, .iload_n 2, 1), (10, .invokevirtual 137, 3), (13, .pop, 1)]), (14, [(14, .return_, 1)])])
def m_X11_layBareMore : qT := ((11, yX11_layBareMore, cX11_layBareMore, 6, (some .boolean)), (2, 0, 0, true), [(9, [(0, .aload_n 0, 1), (1, .getfield 1100, 3), (4, .iload_n 1, 1), (5, .invokevirtual 83, 3), (8, .istore_n 3, 1), (9, .iconst 0, 1)]), (19, [(10, .istore 4, 2), (12, .iload 4, 2), (14, .iload_n 3, 1), (15, .if_icmp .ge 54, 3), (18, .aload_n 0, 1), (19, .getfield 1101, 3)]), (32, [(22, .iload_n 1, 1), (23, .iload_n 2, 1), (24, .iload 4, 2), (26, .invokevirtual 74, 3), (29, .invokestatic 65, 3), (32, .istore 5, 2)]), (46, [(34, .aload_n 0, 1), (35, .getfield 1106, 3), (38, .iload 5, 2), (40, .invokevirtual 86, 3), (43, .ifCond .ne 48, 3), (46, .iconst 0, 1)]), (55, [(47, .ireturn, 1), (48, .iinc 4 1, 3), (51, .goto 12, 3), (54, .iconst 1, 1), (55, .ireturn, 1)])])
def m_X11_edge : qT := ((11, yX11_edge, cX11_edge, 5, (some .int)), (4, 0, 0, true), [(6, [(0, .aload_n 0, 1), (1, .getfield 1100, 3), (4, .iload_n 1, 1), (5, .iload_n 3, 1), (6, .invokevirtual 80, 3)]), (19, [(9, .ifCond .eq 31, 3), (12, .iload_n 2, 1), (13, .invokestatic 146, 3), (16, .ifCond .eq 31, 3), (19, .iload 4, 2)]), (31, [(21, .ifCond .lt 31, 3), (24, .iload 4, 2), (26, .bipush 9, 2), (28, .if_icmp .le 34, 3), (31, .bipush (-2), 2)]), (39, [(33, .ireturn, 1), (34, .aload_n 0, 1), (35, .getfield 1107, 3), (38, .iload_n 1, 1), (39, .iload_n 2, 1)]), (46, [(40, .iload_n 3, 1), (41, .iload 4, 2), (43, .invokevirtual 16, 3), (46, .ireturn, 1)])])
def m_X11_tolerance : qT := ((11, yX11_tolerance, cX11_tolerance, 2, (some .int)), (1, 0, 0, true), [(5, [(0, .iload_n 1, 1), (1, .ifCond .lt 9, 3), (4, .iload_n 1, 1), (5, .iconst 3, 1)]), (12, [(6, .if_icmp .le 12, 3), (9, .bipush (-2), 2), (11, .ireturn, 1), (12, .aload_n 0, 1)]), (20, [(13, .getfield 1107, 3), (16, .iload_n 1, 1), (17, .invokevirtual 17, 3), (20, .ireturn, 1)])])
def m_X11_room : qT := ((11, yX11_room, cX11_room, 3, (some .int)), (2, 0, 0, true), [(8, [(0, .aload_n 0, 1), (1, .getfield 1100, 3), (4, .iload_n 1, 1), (5, .invokevirtual 79, 3), (8, .ifCond .eq 22, 3)]), (19, [(11, .aload_n 0, 1), (12, .getfield 1100, 3), (15, .iload_n 2, 1), (16, .invokevirtual 79, 3), (19, .ifCond .ne 25, 3)]), (29, [(22, .bipush (-2), 2), (24, .ireturn, 1), (25, .aload_n 0, 1), (26, .getfield 1107, 3), (29, .iload_n 1, 1)]), (34, [(30, .iload_n 2, 1), (31, .invokevirtual 18, 3), (34, .ireturn, 1)])])
def m_X11_best : qT := ((11, yX11_best, cX11_best, 3, (some .int)), (2, 0, 0, true), [(8, [(0, .aload_n 0, 1), (1, .getfield 1100, 3), (4, .iload_n 1, 1), (5, .invokevirtual 79, 3), (8, .ifCond .eq 18, 3)]), (20, [(11, .iload_n 2, 1), (12, .invokestatic 146, 3), (15, .ifCond .ne 21, 3), (18, .bipush (-2), 2), (20, .ireturn, 1)]), (27, [(21, .aload_n 0, 1), (22, .getfield 1107, 3), (25, .iload_n 1, 1), (26, .iload_n 2, 1), (27, .invokevirtual 19, 3)]), (30, [(30, .ireturn, 1)])])
def m_X11_join : qT := ((11, yX11_join, cX11_join, 3, (some .int)), (2, 0, 0, true), [(8, [(0, .aload_n 0, 1), (1, .getfield 1100, 3), (4, .iload_n 1, 1), (5, .invokevirtual 79, 3), (8, .ifCond .eq 22, 3)]), (19, [(11, .aload_n 0, 1), (12, .getfield 1100, 3), (15, .iload_n 2, 1), (16, .invokevirtual 79, 3), (19, .ifCond .ne 25, 3)]), (29, [(22, .bipush (-2), 2), (24, .ireturn, 1), (25, .aload_n 0, 1), (26, .getfield 1107, 3), (29, .iload_n 1, 1)]), (38, [(30, .iload_n 2, 1), (31, .invokevirtual 20, 3), (34, .ifCond .eq 41, 3), (37, .iconst 1, 1), (38, .goto 43, 3)]), (43, [(41, .bipush (-3), 2), (43, .ireturn, 1)])])
def m_X11_part : qT := ((11, yX11_part, cX11_part, 2, (some .int)), (1, 0, 0, true), [(8, [(0, .aload_n 0, 1), (1, .getfield 1100, 3), (4, .iload_n 1, 1), (5, .invokevirtual 79, 3), (8, .ifCond .ne 14, 3)]), (18, [(11, .bipush (-2), 2), (13, .ireturn, 1), (14, .aload_n 0, 1), (15, .getfield 1107, 3), (18, .iload_n 1, 1)]), (29, [(19, .invokevirtual 22, 3), (22, .ifCond .eq 29, 3), (25, .iconst 1, 1), (26, .goto 31, 3), (29, .bipush (-3), 2)]), (31, [(31, .ireturn, 1)])])
def m_X11_joined : qT := ((11, yX11_joined, cX11_joined, 3, (some .int)), (2, 0, 0, true), [(8, [(0, .aload_n 0, 1), (1, .getfield 1100, 3), (4, .iload_n 1, 1), (5, .invokevirtual 79, 3), (8, .ifCond .eq 18, 3)]), (20, [(11, .iload_n 2, 1), (12, .invokestatic 146, 3), (15, .ifCond .ne 21, 3), (18, .bipush (-2), 2), (20, .ireturn, 1)]), (27, [(21, .aload_n 0, 1), (22, .getfield 1107, 3), (25, .iload_n 1, 1), (26, .iload_n 2, 1), (27, .invokevirtual 14, 3)]), (30, [(30, .ireturn, 1)])])
def m_X11_whole : qT := ((11, yX11_whole, cX11_whole, 7, (some .int)), (3, 0, 0, true), [(13, [(0, .aload_n 0, 1), (1, .iload_n 3, 1), (2, .invokevirtual 135, 3), (5, .astore 4, 2), (7, .aload 4, 2), (9, .ifnull 24, 3), (12, .aload_n 0, 1), (13, .getfield 1100, 3)]), (28, [(16, .iload_n 1, 1), (17, .iload_n 2, 1), (18, .invokevirtual 80, 3), (21, .ifCond .ne 27, 3), (24, .bipush (-2), 2), (26, .ireturn, 1), (27, .aload_n 0, 1), (28, .getfield 1107, 3)]), (43, [(31, .iload_n 1, 1), (32, .iconst 0, 1), (33, .invokevirtual 14, 3), (36, .iconst (-1), 1), (37, .if_icmp .eq 43, 3), (40, .bipush (-3), 2), (42, .ireturn, 1), (43, .aload_n 0, 1)]), (58, [(44, .getfield 1106, 3), (47, .invokevirtual 85, 3), (50, .iload_n 1, 1), (51, .istore 5, 2), (53, .iconst 0, 1), (54, .istore 6, 2), (56, .iload 6, 2), (58, .bipush 12, 2)]), (73, [(60, .if_icmp .ge 99, 3), (63, .iload 5, 2), (65, .iconst (-1), 1), (66, .if_icmp .eq 99, 3), (69, .aload_n 0, 1), (70, .iload 5, 2), (72, .iload_n 2, 1), (73, .invokevirtual 137, 3)]), (88, [(76, .ifCond .ne 81, 3), (79, .iconst 0, 1), (80, .ireturn, 1), (81, .aload_n 0, 1), (82, .getfield 1107, 3), (85, .iload 5, 2), (87, .iconst 1, 1), (88, .invokevirtual 14, 3)]), (108, [(91, .istore 5, 2), (93, .iinc 6 1, 3), (96, .goto 56, 3), (99, .aload_n 0, 1), (100, .getfield 1106, 3), (103, .aload 4, 2), (105, .invokevirtual 89, 3), (108, .ireturn, 1)])])
def m_X11_isSide : qT := ((11, yX11_isSide, cX11_isSide, 1, (some .boolean)), (1, 0, 0, true), [(5, [(0, .iload_n 0, 1), (1, .ifCond .eq 9, 3), (4, .iload_n 0, 1), (5, .iconst 1, 1)]), (13, [(6, .if_icmp .ne 13, 3), (9, .iconst 1, 1), (10, .goto 14, 3), (13, .iconst 0, 1)]), (14, [(14, .ireturn, 1)])])
def m_X11_years : qT := ((11, yX11_years, cX11_years, 5, (some .int)), (3, 0, 0, true), [(9, [(0, .iload_n 2, 1), (1, .sipush (-999), 3), (4, .if_icmp .lt 23, 3), (7, .iload_n 2, 1), (8, .iload_n 3, 1), (9, .if_icmp .gt 23, 3)]), (23, [(12, .iload_n 3, 1), (13, .sipush 999, 3), (16, .if_icmp .gt 23, 3), (19, .iconst 1, 1), (20, .goto 24, 3), (23, .iconst 0, 1)]), (34, [(24, .istore 4, 2), (26, .aload_n 0, 1), (27, .getfield 1100, 3), (30, .iload_n 1, 1), (31, .invokevirtual 79, 3), (34, .ifCond .eq 42, 3)]), (46, [(37, .iload 4, 2), (39, .ifCond .ne 45, 3), (42, .bipush (-2), 2), (44, .ireturn, 1), (45, .aload_n 0, 1), (46, .getfield 1108, 3)]), (56, [(49, .iload_n 1, 1), (50, .iload_n 2, 1), (51, .iload_n 3, 1), (52, .invokevirtual 2, 3), (55, .iconst 1, 1), (56, .ireturn, 1)])])
def m_X11_bound : qT := ((11, yX11_bound, cX11_bound, 4, (some .int)), (3, 0, 0, true), [(11, [(0, .aload_n 0, 1), (1, .getfield 1100, 3), (4, .iload_n 1, 1), (5, .invokevirtual 79, 3), (8, .ifCond .eq 41, 3), (11, .aload_n 0, 1)]), (23, [(12, .getfield 1100, 3), (15, .iload_n 2, 1), (16, .invokevirtual 79, 3), (19, .ifCond .eq 41, 3), (22, .iload_n 1, 1), (23, .iload_n 2, 1)]), (35, [(24, .if_icmp .eq 41, 3), (27, .iload_n 3, 1), (28, .sipush (-200), 3), (31, .if_icmp .lt 41, 3), (34, .iload_n 3, 1), (35, .sipush 200, 3)]), (48, [(38, .if_icmp .le 44, 3), (41, .bipush (-2), 2), (43, .ireturn, 1), (44, .aload_n 0, 1), (45, .getfield 1108, 3), (48, .iload_n 1, 1)]), (54, [(49, .iload_n 2, 1), (50, .iload_n 3, 1), (51, .invokevirtual 3, 3), (54, .ireturn, 1)])])
def m_X11_loose : qT := ((11, yX11_loose, cX11_loose, 1, (some .int)), (0, 0, 0, true), [(7, [(0, .aload_n 0, 1), (1, .getfield 1108, 3), (4, .invokevirtual 4, 3), (7, .ireturn, 1)])])
def m_X11_span : qT := ((11, yX11_span, cX11_span, 3, (some .int)), (2, 0, 0, true), [(11, [(0, .aload_n 0, 1), (1, .getfield 1100, 3), (4, .iload_n 1, 1), (5, .invokevirtual 79, 3), (8, .ifCond .eq 20, 3), (11, .iload_n 2, 1)]), (22, [(12, .ifCond .lt 20, 3), (15, .iload_n 2, 1), (16, .iconst 1, 1), (17, .if_icmp .le 23, 3), (20, .bipush (-2), 2), (22, .ireturn, 1)]), (35, [(23, .aload_n 0, 1), (24, .getfield 1108, 3), (27, .invokevirtual 5, 3), (30, .ifCond .ne 36, 3), (33, .ldc 4294867296, 2), (35, .ireturn, 1)]), (45, [(36, .iload_n 2, 1), (37, .ifCond .ne 51, 3), (40, .aload_n 0, 1), (41, .getfield 1108, 3), (44, .iload_n 1, 1), (45, .invokevirtual 8, 3)]), (59, [(48, .goto 59, 3), (51, .aload_n 0, 1), (52, .getfield 1108, 3), (55, .iload_n 1, 1), (56, .invokevirtual 9, 3), (59, .ireturn, 1)])])
def m_X11_clash : qT := ((11, yX11_clash, cX11_clash, 1, (some .int)), (0, 0, 0, true), [(7, [(0, .aload_n 0, 1), (1, .getfield 1108, 3), (4, .invokevirtual 10, 3), (7, .ireturn, 1)])])
def m_X11_person : qT := ((11, yX11_person, cX11_person, 7, (some .int)), (3, 0, 0, true), [(9, [(0, .lload_n 1, 1), (1, .invokestatic 51, 3), (4, .ifCond .eq 24, 3), (7, .lload_n 3, 1), (8, .lconst 0, 1), (9, .lcmp, 1)]), (21, [(10, .ifCond .eq 20, 3), (13, .lload_n 3, 1), (14, .invokestatic 51, 3), (17, .ifCond .eq 24, 3), (20, .iconst 1, 1), (21, .goto 25, 3)]), (33, [(24, .iconst 0, 1), (25, .istore 6, 2), (27, .iload 6, 2), (29, .ifCond .eq 44, 3), (32, .aload_n 0, 1), (33, .getfield 1100, 3)]), (47, [(36, .iload 5, 2), (38, .invokevirtual 79, 3), (41, .ifCond .ne 47, 3), (44, .bipush (-2), 2), (46, .ireturn, 1), (47, .aload_n 0, 1)]), (58, [(48, .getfield 1109, 3), (51, .lload_n 1, 1), (52, .lload_n 3, 1), (53, .iload 5, 2), (55, .invokevirtual 52, 3), (58, .ireturn, 1)])])
def m_X11_one : qT := ((11, yX11_one, cX11_one, 3, (some .int)), (2, 0, 0, true), [(11, [(0, .aload_n 0, 1), (1, .getfield 1109, 3), (4, .iload_n 1, 1), (5, .invokevirtual 54, 3), (8, .ifCond .eq 27, 3), (11, .aload_n 0, 1)]), (23, [(12, .getfield 1109, 3), (15, .iload_n 2, 1), (16, .invokevirtual 54, 3), (19, .ifCond .eq 27, 3), (22, .iload_n 1, 1), (23, .iload_n 2, 1)]), (34, [(24, .if_icmp .ne 30, 3), (27, .bipush (-2), 2), (29, .ireturn, 1), (30, .aload_n 0, 1), (31, .getfield 1108, 3), (34, .invokevirtual 5, 3)]), (46, [(37, .ifCond .eq 56, 3), (40, .aload_n 0, 1), (41, .getfield 1109, 3), (44, .iload_n 1, 1), (45, .iload_n 2, 1), (46, .invokevirtual 55, 3)]), (57, [(49, .ifCond .eq 56, 3), (52, .iconst 1, 1), (53, .goto 57, 3), (56, .iconst 0, 1), (57, .ireturn, 1)])])
def m_X11_group : qT := ((11, yX11_group, cX11_group, 2, (some .int)), (1, 0, 0, true), [(8, [(0, .aload_n 0, 1), (1, .getfield 1109, 3), (4, .iload_n 1, 1), (5, .invokevirtual 54, 3), (8, .ifCond .ne 14, 3)]), (18, [(11, .bipush (-2), 2), (13, .ireturn, 1), (14, .aload_n 0, 1), (15, .getfield 1109, 3), (18, .invokevirtual 56, 3)]), (27, [(21, .pop, 1), (22, .aload_n 0, 1), (23, .getfield 1109, 3), (26, .iload_n 1, 1), (27, .invokevirtual 58, 3)]), (30, [(30, .ireturn, 1)])])
def m_X11_father : qT := ((11, yX11_father, cX11_father, 2, (some .int)), (1, 0, 0, true), [(8, [(0, .aload_n 0, 1), (1, .getfield 1109, 3), (4, .iload_n 1, 1), (5, .invokevirtual 54, 3), (8, .ifCond .ne 14, 3)]), (18, [(11, .bipush (-2), 2), (13, .ireturn, 1), (14, .aload_n 0, 1), (15, .getfield 1108, 3), (18, .invokevirtual 5, 3)]), (29, [(21, .ifCond .eq 35, 3), (24, .aload_n 0, 1), (25, .getfield 1109, 3), (28, .iload_n 1, 1), (29, .invokevirtual 59, 3)]), (36, [(32, .goto 36, 3), (35, .iconst (-1), 1), (36, .ireturn, 1)])])
def m_X11_print : qT := ((11, yX11_print, cX11_print, 4, (some .int)), (3, 0, 0, true), [(6, [(0, .aload_n 0, 1), (1, .getfield 1100, 3), (4, .iload_n 1, 1), (5, .iload_n 2, 1), (6, .invokevirtual 80, 3)]), (17, [(9, .ifCond .eq 20, 3), (12, .aload_n 0, 1), (13, .iload_n 3, 1), (14, .invokevirtual 160, 3), (17, .ifCond .ne 23, 3)]), (25, [(20, .bipush (-2), 2), (22, .ireturn, 1), (23, .aload_n 0, 1), (24, .iload_n 1, 1), (25, .iload_n 2, 1)]), (34, [(26, .iload_n 3, 1), (27, .invokevirtual 161, 3), (30, .aload_n 0, 1), (31, .getfield 1110, 3), (34, .invokevirtual 40, 3)]), (37, [(37, .ireturn, 1)])])
def m_X11_printed : qT := ((11, yX11_printed, cX11_printed, 5, (some .int)), (4, 0, 0, true), [(6, [(0, .aload_n 0, 1), (1, .getfield 1100, 3), (4, .iload_n 1, 1), (5, .iload_n 2, 1), (6, .invokevirtual 80, 3)]), (17, [(9, .ifCond .eq 20, 3), (12, .aload_n 0, 1), (13, .iload_n 3, 1), (14, .invokevirtual 160, 3), (17, .ifCond .ne 23, 3)]), (25, [(20, .bipush (-2), 2), (22, .ireturn, 1), (23, .aload_n 0, 1), (24, .iload_n 1, 1), (25, .iload_n 2, 1)]), (34, [(26, .iload_n 3, 1), (27, .invokevirtual 161, 3), (30, .aload_n 0, 1), (31, .getfield 1110, 3), (34, .iload 4, 2)]), (39, [(36, .invokevirtual 41, 3), (39, .ireturn, 1)])])
def m_X11_back : qT := ((11, yX11_back, cX11_back, 7, (some .int)), (3, 0, 0, true), [(15, [(0, .aload_n 0, 1), (1, .getfield 1101, 3), (4, .iload_n 1, 1), (5, .invokevirtual 69, 3), (8, .ifCond .eq 23, 3), (11, .aload_n 0, 1), (12, .getfield 1100, 3), (15, .iload_n 2, 1)]), (30, [(16, .iload_n 3, 1), (17, .invokevirtual 80, 3), (20, .ifCond .ne 26, 3), (23, .bipush (-2), 2), (25, .ireturn, 1), (26, .aload_n 0, 1), (27, .getfield 1100, 3), (30, .iload_n 2, 1)]), (46, [(31, .invokevirtual 83, 3), (34, .istore 4, 2), (36, .aload_n 0, 1), (37, .getfield 1110, 3), (40, .aload_n 0, 1), (41, .getfield 1102, 3), (44, .iload 4, 2), (46, .invokevirtual 48, 3)]), (64, [(49, .istore 5, 2), (51, .aload_n 0, 1), (52, .getfield 1102, 3), (55, .invokevirtual 96, 3), (58, .iload 5, 2), (60, .iconst (-1), 1), (61, .if_icmp .eq 70, 3), (64, .bipush (-20), 2)]), (77, [(66, .iload 5, 2), (68, .isub, 1), (69, .ireturn, 1), (70, .iconst 0, 1), (71, .istore 6, 2), (73, .iload 6, 2), (75, .iload 4, 2), (77, .if_icmp .ge 107, 3)]), (90, [(80, .aload_n 0, 1), (81, .getfield 1101, 3), (84, .iload_n 1, 1), (85, .iload_n 2, 1), (86, .iload_n 3, 1), (87, .iload 6, 2), (89, .aload_n 0, 1), (90, .getfield 1110, 3)]), (109, [(93, .iload 6, 2), (95, .invokevirtual 42, 3), (98, .invokevirtual 72, 3), (101, .iinc 6 1, 3), (104, .goto 73, 3), (107, .iload 4, 2), (109, .ireturn, 1)])])
def m_X11_count : qT := ((11, yX11_count, cX11_count, 2, (some .int)), (1, 0, 0, true), [(60, [(0, .iload_n 1, 1), (1, .tableswitch 121 0 8 #[52, 60, 68, 73, 81, 89, 97, 105, 113], 51), (52, .aload_n 0, 1), (53, .getfield 1100, 3), (56, .invokevirtual 78, 3), (59, .ireturn, 1), (60, .aload_n 0, 1)]), (73, [(61, .getfield 1101, 3), (64, .invokevirtual 68, 3), (67, .ireturn, 1), (68, .aload_n 0, 1), (69, .getfield 1105, 3), (72, .ireturn, 1), (73, .aload_n 0, 1)]), (88, [(74, .getfield 1109, 3), (77, .invokevirtual 53, 3), (80, .ireturn, 1), (81, .aload_n 0, 1), (82, .getfield 1108, 3), (85, .invokevirtual 1, 3), (88, .ireturn, 1)]), (101, [(89, .aload_n 0, 1), (90, .getfield 1107, 3), (93, .invokevirtual 23, 3), (96, .ireturn, 1), (97, .aload_n 0, 1), (98, .getfield 1102, 3), (101, .invokevirtual 97, 3)]), (114, [(104, .ireturn, 1), (105, .aload_n 0, 1), (106, .getfield 1109, 3), (109, .invokevirtual 56, 3), (112, .ireturn, 1), (113, .aload_n 0, 1), (114, .getfield 1107, 3)]), (123, [(117, .invokevirtual 12, 3), (120, .ireturn, 1), (121, .bipush (-2), 2), (123, .ireturn, 1)])])
def m_X11_isFormulaOrNone : qT := ((11, yX11_isFormulaOrNone, cX11_isFormulaOrNone, 2, (some .boolean)), (1, 0, 0, true), [(5, [(0, .iload_n 1, 1), (1, .iconst (-1), 1), (2, .if_icmp .eq 13, 3), (5, .aload_n 0, 1)]), (13, [(6, .iload_n 1, 1), (7, .invokevirtual 135, 3), (10, .ifnull 17, 3), (13, .iconst 1, 1)]), (18, [(14, .goto 18, 3), (17, .iconst 0, 1), (18, .ireturn, 1)])])
def m_X11_setPage : qT := ((11, yX11_setPage, cX11_setPage, 7, none), (3, 0, 0, true), [(14, [(0, .aload_n 0, 1), (1, .iload_n 3, 1), (2, .invokevirtual 135, 3), (5, .astore 4, 2), (7, .aload_n 0, 1), (8, .getfield 1106, 3), (11, .invokevirtual 85, 3), (14, .aload_n 0, 1)]), (27, [(15, .iload_n 1, 1), (16, .iload_n 2, 1), (17, .invokevirtual 137, 3), (20, .pop, 1), (21, .aload 4, 2), (23, .ifnonnull 36, 3), (26, .aload_n 0, 1), (27, .getfield 1106, 3)]), (46, [(30, .invokevirtual 91, 3), (33, .goto 45, 3), (36, .aload_n 0, 1), (37, .getfield 1106, 3), (40, .aload 4, 2), (42, .invokevirtual 92, 3), (45, .aload_n 0, 1), (46, .getfield 1110, 3)]), (63, [(49, .invokevirtual 39, 3), (52, .aload_n 0, 1), (53, .getfield 1100, 3), (56, .iload_n 1, 1), (57, .invokevirtual 83, 3), (60, .istore 5, 2), (62, .iconst 0, 1), (63, .istore 6, 2)]), (80, [(65, .iload 6, 2), (67, .iload 5, 2), (69, .if_icmp .ge 105, 3), (72, .aload_n 0, 1), (73, .getfield 1110, 3), (76, .aload_n 0, 1), (77, .getfield 1101, 3), (80, .iload_n 1, 1)]), (96, [(81, .iload_n 2, 1), (82, .iload 6, 2), (84, .invokevirtual 74, 3), (87, .aload_n 0, 1), (88, .getfield 1106, 3), (91, .iload 6, 2), (93, .invokevirtual 93, 3), (96, .invokevirtual 44, 3)]), (105, [(99, .iinc 6 1, 3), (102, .goto 65, 3), (105, .return_, 1)])])
def m_X11_tray : qT := ((11, yX11_tray, cX11_tray, 3, (some .int)), (2, 0, 0, true), [(8, [(0, .iload_n 1, 1), (1, .invokestatic 115, 3), (4, .ifCond .eq 13, 3), (7, .iload_n 2, 1), (8, .bipush 40, 2)]), (17, [(10, .if_icmp .le 16, 3), (13, .bipush (-2), 2), (15, .ireturn, 1), (16, .iload_n 2, 1), (17, .iconst (-1), 1)]), (25, [(18, .if_icmp .ge 24, 3), (21, .bipush (-14), 2), (23, .ireturn, 1), (24, .aload_n 0, 1), (25, .getfield 1111, 3)]), (34, [(28, .iload_n 1, 1), (29, .iload_n 2, 1), (30, .invokevirtual 118, 3), (33, .iconst 1, 1), (34, .ireturn, 1)])])
def m_X11_cell : qT := ((11, yX11_cell, cX11_cell, 4, (some .int)), (3, 0, 0, true), [(9, [(0, .iload_n 1, 1), (1, .invokestatic 115, 3), (4, .ifCond .ne 10, 3), (7, .bipush (-2), 2), (9, .ireturn, 1)]), (18, [(10, .aload_n 0, 1), (11, .getfield 1111, 3), (14, .iload_n 1, 1), (15, .invokevirtual 116, 3), (18, .ifCond .eq 24, 3)]), (28, [(21, .bipush (-11), 2), (23, .ireturn, 1), (24, .aload_n 0, 1), (25, .getfield 1111, 3), (28, .iload_n 1, 1)]), (37, [(29, .iload_n 2, 1), (30, .iload_n 3, 1), (31, .invokevirtual 119, 3), (34, .ifCond .eq 41, 3), (37, .iconst 1, 1)]), (43, [(38, .goto 43, 3), (41, .bipush (-12), 2), (43, .ireturn, 1)])])
def m_X11_lay : qT := ((11, yX11_lay, cX11_lay, 11, (some .int)), (5, 0, 0, true), [(16, [(0, .aload_n 0, 1), (1, .getfield 1101, 3), (4, .iload_n 1, 1), (5, .invokevirtual 69, 3), (8, .ifCond .eq 31, 3), (11, .aload_n 0, 1), (12, .getfield 1100, 3), (15, .iload_n 2, 1), (16, .iload_n 3, 1)]), (35, [(17, .invokevirtual 80, 3), (20, .ifCond .eq 31, 3), (23, .iload 4, 2), (25, .invokestatic 115, 3), (28, .ifCond .ne 34, 3), (31, .bipush (-2), 2), (33, .ireturn, 1), (34, .aload_n 0, 1), (35, .getfield 1111, 3)]), (54, [(38, .iload 4, 2), (40, .invokevirtual 116, 3), (43, .ifCond .eq 49, 3), (46, .bipush (-11), 2), (48, .ireturn, 1), (49, .aload_n 0, 1), (50, .getfield 1100, 3), (53, .iload_n 2, 1), (54, .invokevirtual 83, 3)]), (73, [(57, .istore 6, 2), (59, .iconst 0, 1), (60, .istore 7, 2), (62, .iload 7, 2), (64, .iload 6, 2), (66, .if_icmp .ge 154, 3), (69, .aload_n 0, 1), (70, .getfield 1111, 3), (73, .iload 4, 2)]), (92, [(75, .iload 5, 2), (77, .iload 7, 2), (79, .invokevirtual 120, 3), (82, .istore 8, 2), (84, .iload 8, 2), (86, .iconst (-1), 1), (87, .if_icmp .ne 93, 3), (90, .bipush (-12), 2), (92, .ireturn, 1)]), (112, [(93, .iload 8, 2), (95, .bipush 32, 2), (97, .if_icmp .ne 105, 3), (100, .bipush 26, 2), (102, .goto 110, 3), (105, .iload 8, 2), (107, .invokestatic 100, 3), (110, .istore 9, 2), (112, .iload 9, 2)]), (129, [(114, .iconst (-1), 1), (115, .if_icmp .ne 126, 3), (118, .iconst 3, 1), (119, .iconst 0, 1), (120, .invokestatic 62, 3), (123, .goto 132, 3), (126, .iconst 0, 1), (127, .iload 9, 2), (129, .invokestatic 62, 3)]), (145, [(132, .istore 10, 2), (134, .aload_n 0, 1), (135, .getfield 1101, 3), (138, .iload_n 1, 1), (139, .iload_n 2, 1), (140, .iload_n 3, 1), (141, .iload 7, 2), (143, .iload 10, 2), (145, .invokevirtual 72, 3)]), (156, [(148, .iinc 7 1, 3), (151, .goto 62, 3), (154, .iload 6, 2), (156, .ireturn, 1)])])
def m_X11_taken : qT := ((11, yX11_taken, cX11_taken, 8, (some .int)), (5, 0, 0, true), [(12, [(0, .aload_n 0, 1), (1, .getfield 1101, 3), (4, .iload_n 1, 1), (5, .invokevirtual 69, 3), (8, .ifCond .eq 29, 3), (11, .aload_n 0, 1), (12, .getfield 1100, 3)]), (26, [(15, .iload_n 2, 1), (16, .iload_n 3, 1), (17, .iload 4, 2), (19, .invokevirtual 81, 3), (22, .ifCond .eq 29, 3), (25, .iconst 1, 1), (26, .goto 30, 3)]), (42, [(29, .iconst 0, 1), (30, .istore 6, 2), (32, .iload 6, 2), (34, .ifCond .eq 49, 3), (37, .iload 5, 2), (39, .ifCond .lt 49, 3), (42, .iload 5, 2)]), (56, [(44, .bipush 6, 2), (46, .if_icmp .lt 52, 3), (49, .bipush (-2), 2), (51, .ireturn, 1), (52, .aload_n 0, 1), (53, .getfield 1101, 3), (56, .iload_n 1, 1)]), (68, [(57, .iload_n 2, 1), (58, .iload_n 3, 1), (59, .iload 4, 2), (61, .invokevirtual 71, 3), (64, .istore 7, 2), (66, .iload 7, 2), (68, .ifCond .ne 74, 3)]), (84, [(71, .bipush (-11), 2), (73, .ireturn, 1), (74, .iload 7, 2), (76, .invokestatic 64, 3), (79, .iload 5, 2), (81, .invokestatic 66, 3), (84, .ifCond .eq 95, 3)]), (97, [(87, .iload 7, 2), (89, .invokestatic 65, 3), (92, .goto 97, 3), (95, .bipush (-13), 2), (97, .ireturn, 1)])])
def m_X12_init : qT := ((12, yX12_init, cX12_init, 2, none), (0, 30, 154622, false), [(20, [(0, .aload_n 0, 1), (1, .invokespecial 9999, 3), (4, .aload_n 0, 1), (5, .iconst 1, 1), (6, .putfield 1205, 3), (9, .aload_n 0, 1), (10, .bipush 12, 2), (12, .newarray .int, 2), (14, .putfield 1207, 3), (17, .aload_n 0, 1), (18, .bipush 12, 2), (20, .newarray .int, 2)]), (46, [(22, .putfield 1208, 3), (25, .aload_n 0, 1), (26, .bipush 6, 2), (28, .newarray .int, 2), (30, .putfield 1209, 3), (33, .aload_n 0, 1), (34, .sipush 200, 3), (37, .newarray .int, 2), (39, .putfield 1210, 3), (42, .aload_n 0, 1), (43, .sipush 6912, 3), (46, .newarray .int, 2)]), (72, [(48, .putfield 1211, 3), (51, .aload_n 0, 1), (52, .sipush 6912, 3), (55, .newarray .int, 2), (57, .putfield 1212, 3), (60, .aload_n 0, 1), (61, .ldc 96000, 2), (63, .newarray .int, 2), (65, .putfield 1213, 3), (68, .aload_n 0, 1), (69, .sipush 4000, 3), (72, .newarray .int, 2)]), (97, [(74, .putfield 1214, 3), (77, .aload_n 0, 1), (78, .ldc 38400, 2), (80, .newarray .int, 2), (82, .putfield 1222, 3), (85, .aload_n 0, 1), (86, .sipush 1600, 3), (89, .newarray .int, 2), (91, .putfield 1223, 3), (94, .aload_n 0, 1), (95, .bipush 8, 2), (97, .newarray .int, 2)]), (121, [(99, .putfield 1224, 3), (102, .aload_n 0, 1), (103, .bipush 96, 2), (105, .newarray .int, 2), (107, .putfield 1225, 3), (110, .aload_n 0, 1), (111, .bipush 12, 2), (113, .newarray .int, 2), (115, .putfield 1226, 3), (118, .aload_n 0, 1), (119, .bipush 12, 2), (121, .newarray .int, 2)]), (145, [(123, .putfield 1227, 3), (126, .aload_n 0, 1), (127, .bipush 12, 2), (129, .newarray .int, 2), (131, .putfield 1228, 3), (134, .aload_n 0, 1), (135, .bipush 12, 2), (137, .newarray .int, 2), (139, .putfield 1229, 3), (142, .aload_n 0, 1), (143, .bipush 12, 2), (145, .newarray .int, 2)]), (169, [(147, .putfield 1230, 3), (150, .aload_n 0, 1), (151, .bipush 12, 2), (153, .newarray .int, 2), (155, .putfield 1231, 3), (158, .aload_n 0, 1), (159, .bipush 20, 2), (161, .newarray .int, 2), (163, .putfield 1232, 3), (166, .aload_n 0, 1), (167, .bipush 20, 2), (169, .newarray .int, 2)]), (193, [(171, .putfield 1233, 3), (174, .aload_n 0, 1), (175, .bipush 20, 2), (177, .newarray .int, 2), (179, .putfield 1234, 3), (182, .aload_n 0, 1), (183, .bipush 12, 2), (185, .newarray .long, 2), (187, .putfield 1235, 3), (190, .aload_n 0, 1), (191, .bipush 12, 2), (193, .newarray .long, 2)]), (217, [(195, .putfield 1236, 3), (198, .aload_n 0, 1), (199, .bipush 12, 2), (201, .newarray .int, 2), (203, .putfield 1237, 3), (206, .aload_n 0, 1), (207, .bipush 12, 2), (209, .newarray .int, 2), (211, .putfield 1238, 3), (214, .aload_n 0, 1), (215, .bipush 72, 2), (217, .newarray .int, 2)]), (240, [(219, .putfield 1239, 3), (222, .aload_n 0, 1), (223, .bipush 24, 2), (225, .newarray .int, 2), (227, .putfield 1240, 3), (230, .aload_n 0, 1), (231, .bipush 24, 2), (233, .newarray .int, 2), (235, .putfield 1241, 3), (238, .aload_n 0, 1), (239, .iconst 4, 1), (240, .newarray .int, 2)]), (262, [(242, .putfield 1242, 3), (245, .aload_n 0, 1), (246, .sipush 160, 3), (249, .newarray .int, 2), (251, .putfield 1243, 3), (254, .iconst 0, 1), (255, .istore_n 1, 1), (256, .iload_n 1, 1), (257, .iconst 4, 1), (258, .if_icmp .ge 274, 3), (261, .aload_n 0, 1), (262, .getfield 1242, 3)]), (274, [(265, .iload_n 1, 1), (266, .iconst (-1), 1), (267, .iastore, 1), (268, .iinc 1 1, 3), (271, .goto 256, 3), (274, .return_, 1)])])
def m_X12_isIn : qT := ((12, yX12_isIn, cX12_isIn, 2, (some .boolean)), (2, 0, 0, true), [(5, [(0, .iload_n 0, 1), (1, .ifCond .lt 13, 3), (4, .iload_n 0, 1), (5, .iload_n 1, 1)]), (13, [(6, .if_icmp .ge 13, 3), (9, .iconst 1, 1), (10, .goto 14, 3), (13, .iconst 0, 1)]), (14, [(14, .ireturn, 1)])])
def m_X12_isStone : qT := ((12, yX12_isStone, cX12_isStone, 2, (some .boolean)), (1, 0, 0, true), [(5, [(0, .iload_n 1, 1), (1, .aload_n 0, 1), (2, .getfield 1200, 3), (5, .invokestatic 167, 3)]), (8, [(8, .ireturn, 1)])])
def m_X12_isLine : qT := ((12, yX12_isLine, cX12_isLine, 3, (some .boolean)), (2, 0, 0, true), [(5, [(0, .aload_n 0, 1), (1, .iload_n 1, 1), (2, .invokevirtual 168, 3), (5, .ifCond .eq 25, 3)]), (13, [(8, .iload_n 2, 1), (9, .aload_n 0, 1), (10, .getfield 1207, 3), (13, .iload_n 1, 1)]), (21, [(14, .iaload, 1), (15, .invokestatic 167, 3), (18, .ifCond .eq 25, 3), (21, .iconst 1, 1)]), (26, [(22, .goto 26, 3), (25, .iconst 0, 1), (26, .ireturn, 1)])])
def m_X12_isPlace : qT := ((12, yX12_isPlace, cX12_isPlace, 4, (some .boolean)), (3, 0, 0, true), [(6, [(0, .aload_n 0, 1), (1, .iload_n 1, 1), (2, .iload_n 2, 1), (3, .invokevirtual 169, 3), (6, .ifCond .eq 26, 3)]), (15, [(9, .iload_n 3, 1), (10, .aload_n 0, 1), (11, .getfield 1208, 3), (14, .iload_n 1, 1), (15, .iaload, 1)]), (26, [(16, .invokestatic 167, 3), (19, .ifCond .eq 26, 3), (22, .iconst 1, 1), (23, .goto 27, 3), (26, .iconst 0, 1)]), (27, [(27, .ireturn, 1)])])
def m_X12_at : qT := ((12, yX12_at, cX12_at, 4, (some .int)), (4, 0, 0, true), [(4, [(0, .iload_n 0, 1), (1, .bipush 12, 2), (3, .imul, 1), (4, .iload_n 1, 1)]), (8, [(5, .iadd, 1), (6, .iconst 4, 1), (7, .imul, 1), (8, .iload_n 2, 1)]), (13, [(9, .iadd, 1), (10, .bipush 24, 2), (12, .imul, 1), (13, .iload_n 3, 1)]), (15, [(14, .iadd, 1), (15, .ireturn, 1)])])
def m_X12_stone : qT := ((12, yX12_stone, cX12_stone, 3, (some .int)), (2, 0, 0, true), [(12, [(0, .iload_n 1, 1), (1, .iconst 1, 1), (2, .isub, 1), (3, .iconst 4, 1), (4, .invokestatic 167, 3), (7, .ifCond .eq 21, 3), (10, .iload_n 2, 1), (11, .iconst 1, 1), (12, .isub, 1)]), (30, [(13, .bipush 24, 2), (15, .invokestatic 167, 3), (18, .ifCond .ne 24, 3), (21, .bipush (-2), 2), (23, .ireturn, 1), (24, .aload_n 0, 1), (25, .getfield 1200, 3), (28, .bipush 12, 2), (30, .if_icmp .ne 36, 3)]), (46, [(33, .bipush (-4), 2), (35, .ireturn, 1), (36, .aload_n 0, 1), (37, .getfield 1207, 3), (40, .aload_n 0, 1), (41, .getfield 1200, 3), (44, .iload_n 1, 1), (45, .iastore, 1), (46, .aload_n 0, 1)]), (61, [(47, .getfield 1208, 3), (50, .aload_n 0, 1), (51, .getfield 1200, 3), (54, .iload_n 2, 1), (55, .iastore, 1), (56, .aload_n 0, 1), (57, .getfield 1228, 3), (60, .aload_n 0, 1), (61, .getfield 1200, 3)]), (80, [(64, .sipush (-999), 3), (67, .iastore, 1), (68, .aload_n 0, 1), (69, .getfield 1229, 3), (72, .aload_n 0, 1), (73, .getfield 1200, 3), (76, .sipush 999, 3), (79, .iastore, 1), (80, .aload_n 0, 1)]), (95, [(81, .getfield 1226, 3), (84, .aload_n 0, 1), (85, .getfield 1200, 3), (88, .iconst (-1), 1), (89, .iastore, 1), (90, .aload_n 0, 1), (91, .getfield 1227, 3), (94, .aload_n 0, 1), (95, .getfield 1200, 3)]), (110, [(98, .iconst (-1), 1), (99, .iastore, 1), (100, .aload_n 0, 1), (101, .dup, 1), (102, .getfield 1200, 3), (105, .iconst 1, 1), (106, .iadd, 1), (107, .putfield 1200, 3), (110, .aload_n 0, 1)]), (116, [(111, .getfield 1200, 3), (114, .iconst 1, 1), (115, .isub, 1), (116, .ireturn, 1)])])
def m_X12_hand : qT := ((12, yX12_hand, cX12_hand, 2, (some .int)), (1, 0, 0, true), [(11, [(0, .iload_n 1, 1), (1, .bipush 10, 2), (3, .invokestatic 167, 3), (6, .ifCond .ne 12, 3), (9, .bipush (-2), 2), (11, .ireturn, 1)]), (23, [(12, .aload_n 0, 1), (13, .getfield 1201, 3), (16, .bipush 6, 2), (18, .if_icmp .ne 24, 3), (21, .bipush (-4), 2), (23, .ireturn, 1)]), (33, [(24, .aload_n 0, 1), (25, .getfield 1209, 3), (28, .aload_n 0, 1), (29, .getfield 1201, 3), (32, .iload_n 1, 1), (33, .iastore, 1)]), (41, [(34, .aload_n 0, 1), (35, .dup, 1), (36, .getfield 1201, 3), (39, .iconst 1, 1), (40, .iadd, 1), (41, .putfield 1201, 3)]), (50, [(44, .aload_n 0, 1), (45, .getfield 1201, 3), (48, .iconst 1, 1), (49, .isub, 1), (50, .ireturn, 1)])])
def m_X12_reads : qT := ((12, yX12_reads, cX12_reads, 7, none), (6, 0, 0, true), [(6, [(0, .aload_n 0, 1), (1, .getfield 1211, 3), (4, .iload_n 1, 1), (5, .iload_n 2, 1), (6, .iload_n 3, 1)]), (15, [(7, .iload 4, 2), (9, .invokestatic 171, 3), (12, .iload 5, 2), (14, .iconst 1, 1), (15, .iadd, 1)]), (22, [(16, .iastore, 1), (17, .aload_n 0, 1), (18, .getfield 1212, 3), (21, .iload_n 1, 1), (22, .iload_n 2, 1)]), (31, [(23, .iload_n 3, 1), (24, .iload 4, 2), (26, .invokestatic 171, 3), (29, .iload 6, 2), (31, .iastore, 1)]), (32, [(32, .return_, 1)])])
def m_X12_read : qT := ((12, yX12_read, cX12_read, 7, (some .int)), (6, 0, 0, true), [(14, [(0, .iload_n 1, 1), (1, .aload_n 0, 1), (2, .getfield 1201, 3), (5, .invokestatic 167, 3), (8, .ifCond .eq 32, 3), (11, .aload_n 0, 1), (12, .iload_n 2, 1), (13, .iload_n 3, 1), (14, .iload 4, 2)]), (35, [(16, .invokevirtual 170, 3), (19, .ifCond .eq 32, 3), (22, .iload 5, 2), (24, .bipush 6, 2), (26, .invokestatic 167, 3), (29, .ifCond .ne 35, 3), (32, .bipush (-2), 2), (34, .ireturn, 1), (35, .iload 5, 2)]), (50, [(37, .iconst 3, 1), (38, .if_icmp .eq 47, 3), (41, .iload 5, 2), (43, .iconst 4, 1), (44, .if_icmp .ne 62, 3), (47, .aload_n 0, 1), (48, .iload_n 1, 1), (49, .iload_n 2, 1), (50, .iload_n 3, 1)]), (65, [(51, .iload 4, 2), (53, .iload 5, 2), (55, .ldc 134217727, 2), (57, .invokevirtual 174, 3), (60, .iconst 1, 1), (61, .ireturn, 1), (62, .iload 5, 2), (64, .iconst 2, 1), (65, .if_icmp .ne 93, 3)]), (85, [(68, .iload 6, 2), (70, .ifCond .lt 103, 3), (73, .iload 6, 2), (75, .ldc 134217727, 2), (77, .if_icmp .gt 103, 3), (80, .iload 6, 2), (82, .iload 6, 2), (84, .iconst 1, 1), (85, .isub, 1)]), (105, [(86, .iand, 1), (87, .ifCond .ne 106, 3), (90, .goto 103, 3), (93, .iload 6, 2), (95, .bipush 27, 2), (97, .invokestatic 167, 3), (100, .ifCond .ne 106, 3), (103, .bipush (-2), 2), (105, .ireturn, 1)]), (117, [(106, .aload_n 0, 1), (107, .iload_n 1, 1), (108, .iload_n 2, 1), (109, .iload_n 3, 1), (110, .iload 4, 2), (112, .iload 5, 2), (114, .iload 5, 2), (116, .iconst 2, 1), (117, .if_icmp .ne 125, 3)]), (133, [(120, .iload 6, 2), (122, .goto 129, 3), (125, .iconst 1, 1), (126, .iload 6, 2), (128, .ishl, 1), (129, .invokevirtual 174, 3), (132, .iconst 1, 1), (133, .ireturn, 1)])])
def m_X12_forget : qT := ((12, yX12_forget, cX12_forget, 7, (some .int)), (4, 0, 0, true), [(11, [(0, .iload_n 1, 1), (1, .aload_n 0, 1), (2, .getfield 1201, 3), (5, .invokestatic 167, 3), (8, .ifCond .eq 22, 3), (11, .aload_n 0, 1)]), (22, [(12, .iload_n 2, 1), (13, .iload_n 3, 1), (14, .iload 4, 2), (16, .invokevirtual 170, 3), (19, .ifCond .ne 25, 3), (22, .bipush (-2), 2)]), (30, [(24, .ireturn, 1), (25, .iload_n 1, 1), (26, .iload_n 2, 1), (27, .iload_n 3, 1), (28, .iload 4, 2), (30, .invokestatic 171, 3)]), (42, [(33, .istore 5, 2), (35, .aload_n 0, 1), (36, .getfield 1211, 3), (39, .iload 5, 2), (41, .iaload, 1), (42, .ifCond .le 49, 3)]), (53, [(45, .iconst 1, 1), (46, .goto 50, 3), (49, .iconst 0, 1), (50, .istore 6, 2), (52, .aload_n 0, 1), (53, .getfield 1211, 3)]), (62, [(56, .iload 5, 2), (58, .iconst 0, 1), (59, .iastore, 1), (60, .iload 6, 2), (62, .ireturn, 1)])])
def m_X12_handOf : qT := ((12, yX12_handOf, cX12_handOf, 6, (some .int)), (3, 0, 0, true), [(8, [(0, .iconst (-1), 1), (1, .istore 4, 2), (3, .iconst 0, 1), (4, .istore 5, 2), (6, .iload 5, 2), (8, .aload_n 0, 1)]), (21, [(9, .getfield 1201, 3), (12, .if_icmp .ge 63, 3), (15, .aload_n 0, 1), (16, .getfield 1211, 3), (19, .iload 5, 2), (21, .iload_n 1, 1)]), (31, [(22, .iload_n 2, 1), (23, .iload_n 3, 1), (24, .invokestatic 171, 3), (27, .iaload, 1), (28, .ifCond .le 57, 3), (31, .iload 4, 2)]), (43, [(33, .ifCond .lt 53, 3), (36, .aload_n 0, 1), (37, .getfield 1209, 3), (40, .iload 5, 2), (42, .iaload, 1), (43, .aload_n 0, 1)]), (55, [(44, .getfield 1209, 3), (47, .iload 4, 2), (49, .iaload, 1), (50, .if_icmp .le 57, 3), (53, .iload 5, 2), (55, .istore 4, 2)]), (65, [(57, .iinc 5 1, 3), (60, .goto 6, 3), (63, .iload 4, 2), (65, .ireturn, 1)])])
def m_X12_kindOf : qT := ((12, yX12_kindOf, cX12_kindOf, 5, (some .int)), (3, 0, 0, true), [(4, [(0, .aload_n 0, 1), (1, .iload_n 1, 1), (2, .iload_n 2, 1), (3, .iload_n 3, 1), (4, .invokevirtual 177, 3)]), (15, [(7, .istore 4, 2), (9, .iload 4, 2), (11, .ifCond .ge 18, 3), (14, .iconst 3, 1), (15, .goto 33, 3)]), (25, [(18, .aload_n 0, 1), (19, .getfield 1211, 3), (22, .iload 4, 2), (24, .iload_n 1, 1), (25, .iload_n 2, 1)]), (32, [(26, .iload_n 3, 1), (27, .invokestatic 171, 3), (30, .iaload, 1), (31, .iconst 1, 1), (32, .isub, 1)]), (33, [(33, .ireturn, 1)])])
def m_X12_mayOf : qT := ((12, yX12_mayOf, cX12_mayOf, 5, (some .int)), (3, 0, 0, true), [(4, [(0, .aload_n 0, 1), (1, .iload_n 1, 1), (2, .iload_n 2, 1), (3, .iload_n 3, 1), (4, .invokevirtual 177, 3)]), (16, [(7, .istore 4, 2), (9, .iload 4, 2), (11, .ifCond .ge 19, 3), (14, .ldc 134217727, 2), (16, .goto 32, 3)]), (26, [(19, .aload_n 0, 1), (20, .getfield 1212, 3), (23, .iload 4, 2), (25, .iload_n 1, 1), (26, .iload_n 2, 1)]), (32, [(27, .iload_n 3, 1), (28, .invokestatic 171, 3), (31, .iaload, 1), (32, .ireturn, 1)])])
def m_X12_sign : qT := ((12, yX12_sign, cX12_sign, 10, (some .int)), (4, 0, 0, true), [(16, [(0, .aload_n 0, 1), (1, .iload_n 1, 1), (2, .iload_n 2, 1), (3, .iload_n 3, 1), (4, .invokevirtual 170, 3), (7, .ifCond .eq 19, 3), (10, .iload 4, 2), (12, .iconst 4, 1), (13, .invokestatic 167, 3), (16, .ifCond .ne 22, 3)]), (32, [(19, .bipush (-2), 2), (21, .ireturn, 1), (22, .aload_n 0, 1), (23, .iload_n 1, 1), (24, .iload_n 2, 1), (25, .iload_n 3, 1), (26, .invokevirtual 178, 3), (29, .istore 5, 2), (31, .aload_n 0, 1), (32, .iload_n 1, 1)]), (51, [(33, .iload_n 2, 1), (34, .iload_n 3, 1), (35, .invokevirtual 179, 3), (38, .istore 6, 2), (40, .iload 4, 2), (42, .iconst 2, 1), (43, .if_icmp .ge 59, 3), (46, .iload 4, 2), (48, .ifCond .ne 56, 3), (51, .iload 5, 2)]), (68, [(53, .goto 58, 3), (56, .iload 6, 2), (58, .ireturn, 1), (59, .iload 4, 2), (61, .iconst 2, 1), (62, .if_icmp .ne 73, 3), (65, .aload_n 0, 1), (66, .iload_n 1, 1), (67, .iload_n 2, 1), (68, .iload_n 3, 1)]), (85, [(69, .invokevirtual 177, 3), (72, .ireturn, 1), (73, .iconst 0, 1), (74, .istore 7, 2), (76, .iconst 0, 1), (77, .istore 8, 2), (79, .iload 8, 2), (81, .aload_n 0, 1), (82, .getfield 1201, 3), (85, .if_icmp .ge 150, 3)]), (104, [(88, .iload 8, 2), (90, .iload_n 1, 1), (91, .iload_n 2, 1), (92, .iload_n 3, 1), (93, .invokestatic 171, 3), (96, .istore 9, 2), (98, .iload 7, 2), (100, .aload_n 0, 1), (101, .getfield 1211, 3), (104, .iload 9, 2)]), (121, [(106, .iaload, 1), (107, .ifCond .le 140, 3), (110, .aload_n 0, 1), (111, .getfield 1211, 3), (114, .iload 9, 2), (116, .iaload, 1), (117, .iconst 1, 1), (118, .isub, 1), (119, .iload 5, 2), (121, .if_icmp .ne 136, 3)]), (141, [(124, .aload_n 0, 1), (125, .getfield 1212, 3), (128, .iload 9, 2), (130, .iaload, 1), (131, .iload 6, 2), (133, .if_icmp .eq 140, 3), (136, .iconst 1, 1), (137, .goto 141, 3), (140, .iconst 0, 1), (141, .iadd, 1)]), (152, [(142, .istore 7, 2), (144, .iinc 8 1, 3), (147, .goto 79, 3), (150, .iload 7, 2), (152, .ireturn, 1)])])
def m_X12_feed : qT := ((12, yX12_feed, cX12_feed, 5, (some .int)), (2, 0, 0, true), [(11, [(0, .iload_n 1, 1), (1, .iconst 1, 1), (2, .isub, 1), (3, .bipush 8, 2), (5, .invokestatic 167, 3), (8, .ifCond .ne 14, 3), (11, .bipush (-2), 2)]), (23, [(13, .ireturn, 1), (14, .aload_n 0, 1), (15, .getfield 1206, 3), (18, .iload_n 1, 1), (19, .iadd, 1), (20, .sipush 200, 3), (23, .if_icmp .le 29, 3)]), (35, [(26, .bipush (-4), 2), (28, .ireturn, 1), (29, .iconst 0, 1), (30, .istore 4, 2), (32, .iload 4, 2), (34, .iload_n 1, 1), (35, .if_icmp .ge 75, 3)]), (49, [(38, .aload_n 0, 1), (39, .getfield 1210, 3), (42, .aload_n 0, 1), (43, .getfield 1206, 3), (46, .lload_n 2, 1), (47, .bipush 8, 2), (49, .iload 4, 2)]), (59, [(51, .imul, 1), (52, .lshr, 1), (53, .l2i, 1), (54, .sipush 255, 3), (57, .iand, 1), (58, .iastore, 1), (59, .aload_n 0, 1)]), (72, [(60, .dup, 1), (61, .getfield 1206, 3), (64, .iconst 1, 1), (65, .iadd, 1), (66, .putfield 1206, 3), (69, .iinc 4 1, 3), (72, .goto 32, 3)]), (79, [(75, .aload_n 0, 1), (76, .getfield 1206, 3), (79, .ireturn, 1)])])
def m_X12_isLetter : qT := ((12, yX12_isLetter, cX12_isLetter, 1, (some .boolean)), (1, 0, 0, true), [(6, [(0, .iload_n 0, 1), (1, .bipush 97, 2), (3, .if_icmp .lt 16, 3), (6, .iload_n 0, 1)]), (13, [(7, .bipush 122, 2), (9, .if_icmp .gt 16, 3), (12, .iconst 1, 1), (13, .goto 17, 3)]), (17, [(16, .iconst 0, 1), (17, .ireturn, 1)])])
def m_X12_token : qT := ((12, yX12_token, cX12_token, 2, none), (0, 0, 0, true), [(20, [(0, .aload_n 0, 1), (1, .getfield 1219, 3), (4, .aload_n 0, 1), (5, .getfield 1206, 3), (8, .if_icmp .ge 52, 3), (11, .aload_n 0, 1), (12, .getfield 1210, 3), (15, .aload_n 0, 1), (16, .getfield 1219, 3), (19, .iaload, 1), (20, .bipush 32, 2)]), (41, [(22, .if_icmp .eq 39, 3), (25, .aload_n 0, 1), (26, .getfield 1210, 3), (29, .aload_n 0, 1), (30, .getfield 1219, 3), (33, .iaload, 1), (34, .bipush 10, 2), (36, .if_icmp .ne 52, 3), (39, .aload_n 0, 1), (40, .dup, 1), (41, .getfield 1219, 3)]), (62, [(44, .iconst 1, 1), (45, .iadd, 1), (46, .putfield 1219, 3), (49, .goto 0, 3), (52, .aload_n 0, 1), (53, .aload_n 0, 1), (54, .getfield 1219, 3), (57, .putfield 1217, 3), (60, .aload_n 0, 1), (61, .iconst 0, 1), (62, .putfield 1218, 3)]), (83, [(65, .aload_n 0, 1), (66, .getfield 1219, 3), (69, .aload_n 0, 1), (70, .getfield 1206, 3), (73, .if_icmp .ne 82, 3), (76, .aload_n 0, 1), (77, .iconst 0, 1), (78, .putfield 1216, 3), (81, .return_, 1), (82, .aload_n 0, 1), (83, .getfield 1210, 3)]), (104, [(86, .aload_n 0, 1), (87, .getfield 1219, 3), (90, .iaload, 1), (91, .istore_n 1, 1), (92, .iload_n 1, 1), (93, .invokestatic 182, 3), (96, .ifCond .eq 171, 3), (99, .aload_n 0, 1), (100, .getfield 1219, 3), (103, .aload_n 0, 1), (104, .getfield 1206, 3)]), (127, [(107, .if_icmp .ge 138, 3), (110, .aload_n 0, 1), (111, .getfield 1210, 3), (114, .aload_n 0, 1), (115, .getfield 1219, 3), (118, .iaload, 1), (119, .invokestatic 182, 3), (122, .ifCond .eq 138, 3), (125, .aload_n 0, 1), (126, .dup, 1), (127, .getfield 1219, 3)]), (148, [(130, .iconst 1, 1), (131, .iadd, 1), (132, .putfield 1219, 3), (135, .goto 99, 3), (138, .aload_n 0, 1), (139, .aload_n 0, 1), (140, .getfield 1219, 3), (143, .aload_n 0, 1), (144, .getfield 1217, 3), (147, .isub, 1), (148, .putfield 1218, 3)]), (171, [(151, .aload_n 0, 1), (152, .aload_n 0, 1), (153, .getfield 1218, 3), (156, .bipush 8, 2), (158, .if_icmp .le 165, 3), (161, .iconst 1, 1), (162, .goto 167, 3), (165, .bipush 97, 2), (167, .putfield 1216, 3), (170, .return_, 1), (171, .aload_n 0, 1)]), (191, [(172, .iload_n 1, 1), (173, .bipush 40, 2), (175, .if_icmp .eq 208, 3), (178, .iload_n 1, 1), (179, .bipush 41, 2), (181, .if_icmp .eq 208, 3), (184, .iload_n 1, 1), (185, .bipush 91, 2), (187, .if_icmp .eq 208, 3), (190, .iload_n 1, 1), (191, .bipush 93, 2)]), (213, [(193, .if_icmp .eq 208, 3), (196, .iload_n 1, 1), (197, .bipush 124, 2), (199, .if_icmp .eq 208, 3), (202, .iload_n 1, 1), (203, .bipush 46, 2), (205, .if_icmp .ne 212, 3), (208, .iload_n 1, 1), (209, .goto 213, 3), (212, .iconst 1, 1), (213, .putfield 1216, 3)]), (226, [(216, .aload_n 0, 1), (217, .dup, 1), (218, .getfield 1219, 3), (221, .iconst 1, 1), (222, .iadd, 1), (223, .putfield 1219, 3), (226, .return_, 1)])])
def m_X12_faults : qT := ((12, yX12_faults, cX12_faults, 1, none), (0, 0, 0, true), [(7, [(0, .aload_n 0, 1), (1, .getfield 1220, 3), (4, .ifCond .ge 15, 3), (7, .aload_n 0, 1)]), (15, [(8, .aload_n 0, 1), (9, .getfield 1217, 3), (12, .putfield 1220, 3), (15, .return_, 1)])])
def m_X12_isAlike : qT := ((12, yX12_isAlike, cX12_isAlike, 5, (some .boolean)), (2, 0, 0, true), [(10, [(0, .aload_n 0, 1), (1, .getfield 1214, 3), (4, .iload_n 1, 1), (5, .iaload, 1), (6, .aload_n 0, 1), (7, .getfield 1214, 3), (10, .iload_n 2, 1)]), (21, [(11, .iaload, 1), (12, .if_icmp .ne 19, 3), (15, .iconst 1, 1), (16, .goto 20, 3), (19, .iconst 0, 1), (20, .istore_n 3, 1), (21, .iconst 0, 1)]), (32, [(22, .istore 4, 2), (24, .iload 4, 2), (26, .aload_n 0, 1), (27, .getfield 1214, 3), (30, .iload_n 1, 1), (31, .iaload, 1), (32, .if_icmp .ge 78, 3)]), (46, [(35, .iload_n 3, 1), (36, .ifCond .eq 78, 3), (39, .aload_n 0, 1), (40, .getfield 1213, 3), (43, .bipush 24, 2), (45, .iload_n 1, 1), (46, .imul, 1)]), (57, [(47, .iload 4, 2), (49, .iadd, 1), (50, .iaload, 1), (51, .aload_n 0, 1), (52, .getfield 1213, 3), (55, .bipush 24, 2), (57, .iload_n 2, 1)]), (67, [(58, .imul, 1), (59, .iload 4, 2), (61, .iadd, 1), (62, .iaload, 1), (63, .if_icmp .ne 70, 3), (66, .iconst 1, 1), (67, .goto 71, 3)]), (79, [(70, .iconst 0, 1), (71, .istore_n 3, 1), (72, .iinc 4 1, 3), (75, .goto 24, 3), (78, .iload_n 3, 1), (79, .ireturn, 1)])])
def m_X12_keeps : qT := ((12, yX12_keeps, cX12_keeps, 3, none), (1, 0, 0, true), [(7, [(0, .iload_n 1, 1), (1, .istore_n 2, 1), (2, .iload_n 2, 1), (3, .aload_n 0, 1), (4, .getfield 1215, 3), (7, .if_icmp .ge 29, 3)]), (19, [(10, .aload_n 0, 1), (11, .iload_n 2, 1), (12, .aload_n 0, 1), (13, .getfield 1215, 3), (16, .invokevirtual 185, 3), (19, .ifCond .eq 23, 3)]), (31, [(22, .return_, 1), (23, .iinc 2 1, 3), (26, .goto 2, 3), (29, .aload_n 0, 1), (30, .dup, 1), (31, .getfield 1215, 3)]), (43, [(34, .iconst 1, 1), (35, .iadd, 1), (36, .putfield 1215, 3), (39, .aload_n 0, 1), (40, .getfield 1215, 3), (43, .iload_n 1, 1)]), (53, [(44, .isub, 1), (45, .sipush 200, 3), (48, .if_icmp .le 61, 3), (51, .aload_n 0, 1), (52, .iconst 1, 1), (53, .putfield 1221, 3)]), (61, [(56, .aload_n 0, 1), (57, .iload_n 1, 1), (58, .putfield 1215, 3), (61, .return_, 1)])])
def m_X12_copies : qT := ((12, yX12_copies, cX12_copies, 4, none), (2, 0, 0, true), [(9, [(0, .aload_n 0, 1), (1, .getfield 1214, 3), (4, .iload_n 2, 1), (5, .aload_n 0, 1), (6, .getfield 1214, 3), (9, .iload_n 1, 1)]), (15, [(10, .iaload, 1), (11, .iastore, 1), (12, .iconst 0, 1), (13, .istore_n 3, 1), (14, .iload_n 3, 1), (15, .aload_n 0, 1)]), (25, [(16, .getfield 1214, 3), (19, .iload_n 1, 1), (20, .iaload, 1), (21, .if_icmp .ge 52, 3), (24, .aload_n 0, 1), (25, .getfield 1213, 3)]), (34, [(28, .bipush 24, 2), (30, .iload_n 2, 1), (31, .imul, 1), (32, .iload_n 3, 1), (33, .iadd, 1), (34, .aload_n 0, 1)]), (43, [(35, .getfield 1213, 3), (38, .bipush 24, 2), (40, .iload_n 1, 1), (41, .imul, 1), (42, .iload_n 3, 1), (43, .iadd, 1)]), (52, [(44, .iaload, 1), (45, .iastore, 1), (46, .iinc 3 1, 3), (49, .goto 14, 3), (52, .return_, 1)])])
def m_X12_all : qT := ((12, yX12_all, cX12_all, 7, none), (1, 0, 0, true), [(11, [(0, .aload_n 0, 1), (1, .getfield 1215, 3), (4, .istore_n 2, 1), (5, .iconst 1, 1), (6, .istore_n 3, 1), (7, .iload_n 3, 1), (8, .ifCond .eq 113, 3), (11, .aload_n 0, 1)]), (26, [(12, .getfield 1220, 3), (15, .ifCond .ge 113, 3), (18, .aload_n 0, 1), (19, .getfield 1215, 3), (22, .istore 4, 2), (24, .aload_n 0, 1), (25, .iload_n 1, 1), (26, .invokevirtual 189, 3)]), (43, [(29, .aload_n 0, 1), (30, .getfield 1215, 3), (33, .istore 5, 2), (35, .aload_n 0, 1), (36, .iload 4, 2), (38, .putfield 1215, 3), (41, .iload 4, 2), (43, .istore 6, 2)]), (60, [(45, .iload 6, 2), (47, .iload 5, 2), (49, .if_icmp .ge 80, 3), (52, .aload_n 0, 1), (53, .getfield 1221, 3), (56, .ifCond .ne 80, 3), (59, .aload_n 0, 1), (60, .iload 6, 2)]), (77, [(62, .aload_n 0, 1), (63, .getfield 1215, 3), (66, .invokevirtual 187, 3), (69, .aload_n 0, 1), (70, .iload_n 2, 1), (71, .invokevirtual 186, 3), (74, .iinc 6 1, 3), (77, .goto 45, 3)]), (96, [(80, .aload_n 0, 1), (81, .getfield 1220, 3), (84, .ifCond .ge 100, 3), (87, .aload_n 0, 1), (88, .getfield 1216, 3), (91, .bipush 124, 2), (93, .if_icmp .ne 100, 3), (96, .iconst 1, 1)]), (110, [(97, .goto 101, 3), (100, .iconst 0, 1), (101, .istore_n 3, 1), (102, .iload_n 3, 1), (103, .ifCond .eq 110, 3), (106, .aload_n 0, 1), (107, .invokevirtual 183, 3), (110, .goto 7, 3)]), (113, [(113, .return_, 1)])])
def m_X12_row : qT := ((12, yX12_row, cX12_row, 4, none), (1, 0, 0, true), [(10, [(0, .aload_n 0, 1), (1, .getfield 1215, 3), (4, .istore_n 2, 1), (5, .aload_n 0, 1), (6, .iload_n 1, 1), (7, .invokevirtual 191, 3), (10, .aload_n 0, 1)]), (26, [(11, .getfield 1220, 3), (14, .ifCond .ge 70, 3), (17, .aload_n 0, 1), (18, .getfield 1216, 3), (21, .bipush 97, 2), (23, .if_icmp .eq 44, 3), (26, .aload_n 0, 1)]), (41, [(27, .getfield 1216, 3), (30, .bipush 40, 2), (32, .if_icmp .eq 44, 3), (35, .aload_n 0, 1), (36, .getfield 1216, 3), (39, .bipush 91, 2), (41, .if_icmp .ne 70, 3)]), (54, [(44, .aload_n 0, 1), (45, .getfield 1215, 3), (48, .istore_n 3, 1), (49, .aload_n 0, 1), (50, .iload_n 1, 1), (51, .invokevirtual 191, 3), (54, .aload_n 0, 1)]), (67, [(55, .getfield 1221, 3), (58, .ifCond .ne 67, 3), (61, .aload_n 0, 1), (62, .iload_n 2, 1), (63, .iload_n 3, 1), (64, .invokevirtual 190, 3), (67, .goto 10, 3)]), (70, [(70, .return_, 1)])])
def m_X12_joins : qT := ((12, yX12_joins, cX12_joins, 9, none), (2, 0, 0, true), [(22, [(0, .aload_n 0, 1), (1, .getfield 1215, 3), (4, .istore_n 3, 1), (5, .iload_n 1, 1), (6, .istore 4, 2), (8, .iload 4, 2), (10, .iload_n 2, 1), (11, .if_icmp .ge 224, 3), (14, .aload_n 0, 1), (15, .getfield 1221, 3), (18, .ifCond .ne 224, 3), (21, .iload_n 2, 1), (22, .istore 5, 2)]), (48, [(24, .iload 5, 2), (26, .iload_n 3, 1), (27, .if_icmp .ge 218, 3), (30, .aload_n 0, 1), (31, .getfield 1221, 3), (34, .ifCond .ne 218, 3), (37, .aload_n 0, 1), (38, .getfield 1214, 3), (41, .iload 4, 2), (43, .iaload, 1), (44, .ifCond .le 61, 3), (47, .aload_n 0, 1), (48, .getfield 1214, 3)]), (73, [(51, .iload 5, 2), (53, .iaload, 1), (54, .ifCond .le 61, 3), (57, .iconst 1, 1), (58, .goto 62, 3), (61, .iconst 0, 1), (62, .istore 6, 2), (64, .aload_n 0, 1), (65, .getfield 1214, 3), (68, .iload 4, 2), (70, .iaload, 1), (71, .iload 6, 2), (73, .iadd, 1)]), (96, [(74, .aload_n 0, 1), (75, .getfield 1214, 3), (78, .iload 5, 2), (80, .iaload, 1), (81, .iadd, 1), (82, .istore 7, 2), (84, .iload 7, 2), (86, .bipush 24, 2), (88, .if_icmp .le 99, 3), (91, .aload_n 0, 1), (92, .iconst 1, 1), (93, .putfield 1221, 3), (96, .goto 212, 3)]), (122, [(99, .aload_n 0, 1), (100, .iload 4, 2), (102, .aload_n 0, 1), (103, .getfield 1215, 3), (106, .invokevirtual 187, 3), (109, .iload 6, 2), (111, .iconst 1, 1), (112, .if_icmp .ne 136, 3), (115, .aload_n 0, 1), (116, .getfield 1213, 3), (119, .bipush 24, 2), (121, .aload_n 0, 1), (122, .getfield 1215, 3)]), (142, [(125, .imul, 1), (126, .aload_n 0, 1), (127, .getfield 1214, 3), (130, .iload 4, 2), (132, .iaload, 1), (133, .iadd, 1), (134, .iconst 0, 1), (135, .iastore, 1), (136, .iconst 0, 1), (137, .istore 8, 2), (139, .iload 8, 2), (141, .aload_n 0, 1), (142, .getfield 1214, 3)]), (168, [(145, .iload 5, 2), (147, .iaload, 1), (148, .if_icmp .ge 196, 3), (151, .aload_n 0, 1), (152, .getfield 1213, 3), (155, .bipush 24, 2), (157, .aload_n 0, 1), (158, .getfield 1215, 3), (161, .imul, 1), (162, .aload_n 0, 1), (163, .getfield 1214, 3), (166, .iload 4, 2), (168, .iaload, 1)]), (188, [(169, .iadd, 1), (170, .iload 6, 2), (172, .iadd, 1), (173, .iload 8, 2), (175, .iadd, 1), (176, .aload_n 0, 1), (177, .getfield 1213, 3), (180, .bipush 24, 2), (182, .iload 5, 2), (184, .imul, 1), (185, .iload 8, 2), (187, .iadd, 1), (188, .iaload, 1)]), (212, [(189, .iastore, 1), (190, .iinc 8 1, 3), (193, .goto 139, 3), (196, .aload_n 0, 1), (197, .getfield 1214, 3), (200, .aload_n 0, 1), (201, .getfield 1215, 3), (204, .iload 7, 2), (206, .iastore, 1), (207, .aload_n 0, 1), (208, .iload_n 3, 1), (209, .invokevirtual 186, 3), (212, .iinc 5 1, 3)]), (239, [(215, .goto 24, 3), (218, .iinc 4 1, 3), (221, .goto 8, 3), (224, .aload_n 0, 1), (225, .getfield 1215, 3), (228, .iload_n 3, 1), (229, .isub, 1), (230, .istore 4, 2), (232, .iconst 0, 1), (233, .istore 5, 2), (235, .iload 5, 2), (237, .iload 4, 2), (239, .if_icmp .ge 260, 3)]), (262, [(242, .aload_n 0, 1), (243, .iload_n 3, 1), (244, .iload 5, 2), (246, .iadd, 1), (247, .iload_n 1, 1), (248, .iload 5, 2), (250, .iadd, 1), (251, .invokevirtual 187, 3), (254, .iinc 5 1, 3), (257, .goto 235, 3), (260, .aload_n 0, 1), (261, .aload_n 0, 1), (262, .getfield 1221, 3)]), (279, [(265, .ifCond .eq 272, 3), (268, .iload_n 1, 1), (269, .goto 276, 3), (272, .iload_n 1, 1), (273, .iload 4, 2), (275, .iadd, 1), (276, .putfield 1215, 3), (279, .return_, 1)])])
def m_X12_piece : qT := ((12, yX12_piece, cX12_piece, 4, none), (1, 0, 0, true), [(21, [(0, .aload_n 0, 1), (1, .getfield 1216, 3), (4, .bipush 97, 2), (6, .if_icmp .ne 88, 3), (9, .aload_n 0, 1), (10, .getfield 1214, 3), (13, .aload_n 0, 1), (14, .getfield 1215, 3), (17, .aload_n 0, 1), (18, .getfield 1218, 3), (21, .iastore, 1)]), (39, [(22, .iconst 0, 1), (23, .istore_n 2, 1), (24, .iload_n 2, 1), (25, .aload_n 0, 1), (26, .getfield 1218, 3), (29, .if_icmp .ge 66, 3), (32, .aload_n 0, 1), (33, .getfield 1213, 3), (36, .bipush 24, 2), (38, .aload_n 0, 1), (39, .getfield 1215, 3)]), (56, [(42, .imul, 1), (43, .iload_n 2, 1), (44, .iadd, 1), (45, .aload_n 0, 1), (46, .getfield 1210, 3), (49, .aload_n 0, 1), (50, .getfield 1217, 3), (53, .iload_n 2, 1), (54, .iadd, 1), (55, .iaload, 1), (56, .bipush 96, 2)]), (78, [(58, .isub, 1), (59, .iastore, 1), (60, .iinc 2 1, 3), (63, .goto 24, 3), (66, .aload_n 0, 1), (67, .getfield 1221, 3), (70, .ifCond .ne 83, 3), (73, .aload_n 0, 1), (74, .dup, 1), (75, .getfield 1215, 3), (78, .iconst 1, 1)]), (98, [(79, .iadd, 1), (80, .putfield 1215, 3), (83, .aload_n 0, 1), (84, .invokevirtual 183, 3), (87, .return_, 1), (88, .aload_n 0, 1), (89, .getfield 1216, 3), (92, .bipush 91, 2), (94, .if_icmp .ne 101, 3), (97, .iconst 1, 1), (98, .goto 102, 3)]), (118, [(101, .iconst 0, 1), (102, .istore_n 2, 1), (103, .aload_n 0, 1), (104, .getfield 1216, 3), (107, .bipush 40, 2), (109, .if_icmp .eq 116, 3), (112, .iload_n 2, 1), (113, .ifCond .eq 121, 3), (116, .iload_n 1, 1), (117, .iconst 4, 1), (118, .if_icmp .ne 126, 3)]), (137, [(121, .aload_n 0, 1), (122, .invokevirtual 184, 3), (125, .return_, 1), (126, .aload_n 0, 1), (127, .getfield 1215, 3), (130, .istore_n 3, 1), (131, .aload_n 0, 1), (132, .invokevirtual 183, 3), (135, .aload_n 0, 1), (136, .iload_n 1, 1), (137, .iconst 1, 1)]), (158, [(138, .iadd, 1), (139, .invokevirtual 188, 3), (142, .aload_n 0, 1), (143, .getfield 1220, 3), (146, .ifCond .lt 150, 3), (149, .return_, 1), (150, .aload_n 0, 1), (151, .getfield 1216, 3), (154, .iload_n 2, 1), (155, .ifCond .eq 163, 3), (158, .bipush 93, 2)]), (181, [(160, .goto 165, 3), (163, .bipush 41, 2), (165, .if_icmp .eq 173, 3), (168, .aload_n 0, 1), (169, .invokevirtual 184, 3), (172, .return_, 1), (173, .aload_n 0, 1), (174, .invokevirtual 183, 3), (177, .iload_n 2, 1), (178, .ifCond .eq 188, 3), (181, .aload_n 0, 1)]), (200, [(182, .getfield 1221, 3), (185, .ifCond .eq 189, 3), (188, .return_, 1), (189, .aload_n 0, 1), (190, .getfield 1214, 3), (193, .aload_n 0, 1), (194, .getfield 1215, 3), (197, .iconst 0, 1), (198, .iastore, 1), (199, .aload_n 0, 1), (200, .iload_n 3, 1)]), (204, [(201, .invokevirtual 186, 3), (204, .return_, 1)])])
def m_X12_isAhead : qT := ((12, yX12_isAhead, cX12_isAhead, 5, (some .boolean)), (2, 0, 0, true), [(12, [(0, .aload_n 0, 1), (1, .getfield 1214, 3), (4, .iload_n 1, 1), (5, .iaload, 1), (6, .aload_n 0, 1), (7, .getfield 1214, 3), (10, .iload_n 2, 1), (11, .iaload, 1), (12, .invokestatic 9992, 3)]), (29, [(15, .istore_n 3, 1), (16, .iconst 0, 1), (17, .istore 4, 2), (19, .iload 4, 2), (21, .iload_n 3, 1), (22, .if_icmp .ge 91, 3), (25, .aload_n 0, 1), (26, .getfield 1213, 3), (29, .bipush 24, 2)]), (43, [(31, .iload_n 1, 1), (32, .imul, 1), (33, .iload 4, 2), (35, .iadd, 1), (36, .iaload, 1), (37, .aload_n 0, 1), (38, .getfield 1213, 3), (41, .bipush 24, 2), (43, .iload_n 2, 1)]), (58, [(44, .imul, 1), (45, .iload 4, 2), (47, .iadd, 1), (48, .iaload, 1), (49, .if_icmp .eq 85, 3), (52, .aload_n 0, 1), (53, .getfield 1213, 3), (56, .bipush 24, 2), (58, .iload_n 1, 1)]), (71, [(59, .imul, 1), (60, .iload 4, 2), (62, .iadd, 1), (63, .iaload, 1), (64, .aload_n 0, 1), (65, .getfield 1213, 3), (68, .bipush 24, 2), (70, .iload_n 2, 1), (71, .imul, 1)]), (85, [(72, .iload 4, 2), (74, .iadd, 1), (75, .iaload, 1), (76, .if_icmp .ge 83, 3), (79, .iconst 1, 1), (80, .goto 84, 3), (83, .iconst 0, 1), (84, .ireturn, 1), (85, .iinc 4 1, 3)]), (102, [(88, .goto 19, 3), (91, .aload_n 0, 1), (92, .getfield 1214, 3), (95, .iload_n 1, 1), (96, .iaload, 1), (97, .aload_n 0, 1), (98, .getfield 1214, 3), (101, .iload_n 2, 1), (102, .iaload, 1)]), (111, [(103, .if_icmp .ge 110, 3), (106, .iconst 1, 1), (107, .goto 111, 3), (110, .iconst 0, 1), (111, .ireturn, 1)])])
def m_X12_formula : qT := ((12, yX12_formula, cX12_formula, 5, (some .int)), (0, 0, 0, true), [(19, [(0, .aload_n 0, 1), (1, .getfield 1202, 3), (4, .bipush 8, 2), (6, .if_icmp .ne 12, 3), (9, .bipush (-4), 2), (11, .ireturn, 1), (12, .aload_n 0, 1), (13, .iconst 0, 1), (14, .putfield 1215, 3), (17, .aload_n 0, 1), (18, .iconst 0, 1), (19, .putfield 1219, 3)]), (41, [(22, .aload_n 0, 1), (23, .iconst (-1), 1), (24, .putfield 1220, 3), (27, .aload_n 0, 1), (28, .iconst 0, 1), (29, .putfield 1221, 3), (32, .aload_n 0, 1), (33, .invokevirtual 183, 3), (36, .aload_n 0, 1), (37, .iconst 0, 1), (38, .invokevirtual 188, 3), (41, .aload_n 0, 1)]), (68, [(42, .getfield 1220, 3), (45, .ifCond .ge 61, 3), (48, .aload_n 0, 1), (49, .getfield 1216, 3), (52, .bipush 46, 2), (54, .if_icmp .eq 61, 3), (57, .aload_n 0, 1), (58, .invokevirtual 184, 3), (61, .aload_n 0, 1), (62, .getfield 1220, 3), (65, .ifCond .ge 83, 3), (68, .aload_n 0, 1)]), (92, [(69, .invokevirtual 183, 3), (72, .aload_n 0, 1), (73, .getfield 1216, 3), (76, .ifCond .eq 83, 3), (79, .aload_n 0, 1), (80, .invokevirtual 184, 3), (83, .aload_n 0, 1), (84, .iconst 0, 1), (85, .putfield 1206, 3), (88, .aload_n 0, 1), (89, .getfield 1220, 3), (92, .ifCond .lt 103, 3)]), (114, [(95, .bipush (-20), 2), (97, .aload_n 0, 1), (98, .getfield 1220, 3), (101, .isub, 1), (102, .ireturn, 1), (103, .aload_n 0, 1), (104, .getfield 1221, 3), (107, .ifCond .eq 113, 3), (110, .bipush (-3), 2), (112, .ireturn, 1), (113, .aload_n 0, 1), (114, .getfield 1202, 3)]), (134, [(117, .istore_n 1, 1), (118, .aload_n 0, 1), (119, .dup, 1), (120, .getfield 1202, 3), (123, .iconst 1, 1), (124, .iadd, 1), (125, .putfield 1202, 3), (128, .aload_n 0, 1), (129, .getfield 1224, 3), (132, .iload_n 1, 1), (133, .aload_n 0, 1), (134, .getfield 1215, 3)]), (154, [(137, .iastore, 1), (138, .iconst 0, 1), (139, .istore_n 2, 1), (140, .iload_n 2, 1), (141, .aload_n 0, 1), (142, .getfield 1215, 3), (145, .if_icmp .ge 252, 3), (148, .sipush 200, 3), (151, .iload_n 1, 1), (152, .imul, 1), (153, .istore_n 3, 1), (154, .iconst 0, 1)]), (177, [(155, .istore 4, 2), (157, .iload 4, 2), (159, .aload_n 0, 1), (160, .getfield 1215, 3), (163, .if_icmp .ge 190, 3), (166, .iload_n 3, 1), (167, .aload_n 0, 1), (168, .iload 4, 2), (170, .iload_n 2, 1), (171, .invokevirtual 192, 3), (174, .ifCond .eq 181, 3), (177, .iconst 1, 1)]), (199, [(178, .goto 182, 3), (181, .iconst 0, 1), (182, .iadd, 1), (183, .istore_n 3, 1), (184, .iinc 4 1, 3), (187, .goto 157, 3), (190, .aload_n 0, 1), (191, .getfield 1223, 3), (194, .iload_n 3, 1), (195, .aload_n 0, 1), (196, .getfield 1214, 3), (199, .iload_n 2, 1)]), (217, [(200, .iaload, 1), (201, .iastore, 1), (202, .iconst 0, 1), (203, .istore 4, 2), (205, .iload 4, 2), (207, .aload_n 0, 1), (208, .getfield 1214, 3), (211, .iload_n 2, 1), (212, .iaload, 1), (213, .if_icmp .ge 246, 3), (216, .aload_n 0, 1), (217, .getfield 1222, 3)]), (237, [(220, .bipush 24, 2), (222, .iload_n 3, 1), (223, .imul, 1), (224, .iload 4, 2), (226, .iadd, 1), (227, .aload_n 0, 1), (228, .getfield 1213, 3), (231, .bipush 24, 2), (233, .iload_n 2, 1), (234, .imul, 1), (235, .iload 4, 2), (237, .iadd, 1)]), (253, [(238, .iaload, 1), (239, .iastore, 1), (240, .iinc 4 1, 3), (243, .goto 205, 3), (246, .iinc 2 1, 3), (249, .goto 140, 3), (252, .iload_n 1, 1), (253, .ireturn, 1)])])
def m_X12_isFormula : qT := ((12, yX12_isFormula, cX12_isFormula, 2, (some .boolean)), (1, 0, 0, true), [(5, [(0, .iload_n 1, 1), (1, .aload_n 0, 1), (2, .getfield 1202, 3), (5, .invokestatic 167, 3)]), (8, [(8, .ireturn, 1)])])
def m_X12_texts : qT := ((12, yX12_texts, cX12_texts, 2, (some .int)), (1, 0, 0, true), [(5, [(0, .aload_n 0, 1), (1, .iload_n 1, 1), (2, .invokevirtual 194, 3), (5, .ifCond .eq 17, 3)]), (13, [(8, .aload_n 0, 1), (9, .getfield 1224, 3), (12, .iload_n 1, 1), (13, .iaload, 1)]), (19, [(14, .goto 19, 3), (17, .bipush (-2), 2), (19, .ireturn, 1)])])
def m_X12_told : qT := ((12, yX12_told, cX12_told, 1, (some .int)), (1, 0, 0, true), [(6, [(0, .iload_n 0, 1), (1, .ifCond .ne 9, 3), (4, .bipush 26, 2), (6, .goto 12, 3)]), (12, [(9, .iload_n 0, 1), (10, .iconst 1, 1), (11, .isub, 1), (12, .ireturn, 1)])])
def m_X12_text : qT := ((12, yX12_text, cX12_text, 4, (some .int)), (3, 0, 0, true), [(11, [(0, .aload_n 0, 1), (1, .iload_n 1, 1), (2, .invokevirtual 194, 3), (5, .ifCond .ne 11, 3), (8, .bipush (-2), 2), (10, .ireturn, 1), (11, .iload_n 2, 1)]), (24, [(12, .aload_n 0, 1), (13, .getfield 1224, 3), (16, .iload_n 1, 1), (17, .iaload, 1), (18, .invokestatic 167, 3), (21, .ifCond .eq 43, 3), (24, .iload_n 3, 1)]), (35, [(25, .aload_n 0, 1), (26, .getfield 1223, 3), (29, .sipush 200, 3), (32, .iload_n 1, 1), (33, .imul, 1), (34, .iload_n 2, 1), (35, .iadd, 1)]), (46, [(36, .iaload, 1), (37, .invokestatic 167, 3), (40, .ifCond .ne 45, 3), (43, .iconst (-1), 1), (44, .ireturn, 1), (45, .aload_n 0, 1), (46, .getfield 1222, 3)]), (58, [(49, .bipush 24, 2), (51, .sipush 200, 3), (54, .iload_n 1, 1), (55, .imul, 1), (56, .iload_n 2, 1), (57, .iadd, 1), (58, .imul, 1)]), (65, [(59, .iload_n 3, 1), (60, .iadd, 1), (61, .iaload, 1), (62, .invokestatic 196, 3), (65, .ireturn, 1)])])
def m_X12_letterAt : qT := ((12, yX12_letterAt, cX12_letterAt, 3, (some .int)), (2, 0, 0, true), [(6, [(0, .iload_n 2, 1), (1, .aload_n 0, 1), (2, .getfield 1223, 3), (5, .iload_n 1, 1), (6, .iaload, 1)]), (16, [(7, .if_icmp .ge 27, 3), (10, .aload_n 0, 1), (11, .getfield 1222, 3), (14, .bipush 24, 2), (16, .iload_n 1, 1)]), (21, [(17, .imul, 1), (18, .iload_n 2, 1), (19, .iadd, 1), (20, .iaload, 1), (21, .invokestatic 196, 3)]), (29, [(24, .goto 29, 3), (27, .bipush 26, 2), (29, .ireturn, 1)])])
def m_X12_goes : qT := ((12, yX12_goes, cX12_goes, 8, (some .boolean)), (4, 0, 0, true), [(12, [(0, .iconst 0, 1), (1, .istore 5, 2), (3, .iload_n 2, 1), (4, .istore 6, 2), (6, .iload 6, 2), (8, .ifCond .lt 80, 3), (11, .iconst 0, 1), (12, .istore 7, 2)]), (27, [(14, .iload 7, 2), (16, .aload_n 0, 1), (17, .getfield 1208, 3), (20, .iload 6, 2), (22, .iaload, 1), (23, .if_icmp .ge 59, 3), (26, .aload_n 0, 1), (27, .iload 6, 2)]), (42, [(29, .iload_n 3, 1), (30, .iload 7, 2), (32, .invokevirtual 179, 3), (35, .aload_n 0, 1), (36, .iload_n 1, 1), (37, .iload 5, 2), (39, .invokevirtual 198, 3), (42, .ishr, 1)]), (56, [(43, .iconst 1, 1), (44, .iand, 1), (45, .ifCond .ne 50, 3), (48, .iconst 0, 1), (49, .ireturn, 1), (50, .iinc 5 1, 3), (53, .iinc 7 1, 3), (56, .goto 14, 3)]), (74, [(59, .iload 4, 2), (61, .ifCond .eq 74, 3), (64, .aload_n 0, 1), (65, .getfield 1226, 3), (68, .iload 6, 2), (70, .iaload, 1), (71, .goto 75, 3), (74, .iconst (-1), 1)]), (88, [(75, .istore 6, 2), (77, .goto 6, 3), (80, .iload 5, 2), (82, .aload_n 0, 1), (83, .getfield 1223, 3), (86, .iload_n 1, 1), (87, .iaload, 1), (88, .if_icmp .lt 95, 3)]), (96, [(91, .iconst 1, 1), (92, .goto 96, 3), (95, .iconst 0, 1), (96, .ireturn, 1)])])
def m_X12_waysOf : qT := ((12, yX12_waysOf, cX12_waysOf, 7, (some .int)), (4, 0, 0, true), [(8, [(0, .iconst 0, 1), (1, .istore 5, 2), (3, .iconst 0, 1), (4, .istore 6, 2), (6, .iload 6, 2), (8, .aload_n 0, 1)]), (19, [(9, .getfield 1224, 3), (12, .iload_n 3, 1), (13, .iaload, 1), (14, .if_icmp .ge 52, 3), (17, .iload 5, 2), (19, .aload_n 0, 1)]), (28, [(20, .sipush 200, 3), (23, .iload_n 3, 1), (24, .imul, 1), (25, .iload 6, 2), (27, .iadd, 1), (28, .iload_n 1, 1)]), (39, [(29, .iload_n 2, 1), (30, .iload 4, 2), (32, .invokevirtual 199, 3), (35, .ifCond .eq 42, 3), (38, .iconst 1, 1), (39, .goto 43, 3)]), (52, [(42, .iconst 0, 1), (43, .iadd, 1), (44, .istore 5, 2), (46, .iinc 6 1, 3), (49, .goto 6, 3), (52, .iload 5, 2)]), (54, [(54, .ireturn, 1)])])
def m_X12_ways : qT := ((12, yX12_ways, cX12_ways, 4, (some .int)), (3, 0, 0, true), [(6, [(0, .aload_n 0, 1), (1, .iload_n 1, 1), (2, .iload_n 2, 1), (3, .invokevirtual 169, 3), (6, .ifCond .eq 28, 3)]), (17, [(9, .aload_n 0, 1), (10, .iload_n 3, 1), (11, .invokevirtual 194, 3), (14, .ifCond .eq 28, 3), (17, .aload_n 0, 1)]), (22, [(18, .iload_n 1, 1), (19, .iload_n 2, 1), (20, .iload_n 3, 1), (21, .iconst 0, 1), (22, .invokevirtual 200, 3)]), (30, [(25, .goto 30, 3), (28, .bipush (-2), 2), (30, .ireturn, 1)])])
def m_X12_way : qT := ((12, yX12_way, cX12_way, 7, (some .int)), (4, 0, 0, true), [(10, [(0, .aload_n 0, 1), (1, .iload_n 1, 1), (2, .iload_n 2, 1), (3, .invokevirtual 169, 3), (6, .ifCond .eq 17, 3), (9, .aload_n 0, 1), (10, .iload_n 3, 1)]), (24, [(11, .invokevirtual 194, 3), (14, .ifCond .ne 20, 3), (17, .bipush (-2), 2), (19, .ireturn, 1), (20, .iload 4, 2), (22, .istore 5, 2), (24, .iconst 0, 1)]), (35, [(25, .istore 6, 2), (27, .iload 6, 2), (29, .aload_n 0, 1), (30, .getfield 1224, 3), (33, .iload_n 3, 1), (34, .iaload, 1), (35, .if_icmp .ge 81, 3)]), (49, [(38, .iload 4, 2), (40, .ifCond .lt 81, 3), (43, .aload_n 0, 1), (44, .sipush 200, 3), (47, .iload_n 3, 1), (48, .imul, 1), (49, .iload 6, 2)]), (61, [(51, .iadd, 1), (52, .iload_n 1, 1), (53, .iload_n 2, 1), (54, .iconst 0, 1), (55, .invokevirtual 199, 3), (58, .ifCond .ne 64, 3), (61, .goto 75, 3)]), (78, [(64, .iload 5, 2), (66, .ifCond .ne 72, 3), (69, .iload 6, 2), (71, .ireturn, 1), (72, .iinc 5 (-1), 3), (75, .iinc 6 1, 3), (78, .goto 27, 3)]), (82, [(81, .iconst (-1), 1), (82, .ireturn, 1)])])
def m_X12_carriedOf : qT := ((12, yX12_carriedOf, cX12_carriedOf, 7, (some .int)), (4, 0, 0, true), [(11, [(0, .iconst (-1), 1), (1, .istore 5, 2), (3, .sipush 200, 3), (6, .iload 4, 2), (8, .imul, 1), (9, .istore 6, 2), (11, .iload 6, 2)]), (25, [(13, .sipush 200, 3), (16, .iload 4, 2), (18, .imul, 1), (19, .aload_n 0, 1), (20, .getfield 1224, 3), (23, .iload 4, 2), (25, .iaload, 1)]), (35, [(26, .iadd, 1), (27, .if_icmp .ge 79, 3), (30, .aload_n 0, 1), (31, .iload 6, 2), (33, .iload_n 1, 1), (34, .iload_n 2, 1), (35, .iconst 0, 1)]), (51, [(36, .invokevirtual 199, 3), (39, .ifCond .ne 45, 3), (42, .goto 73, 3), (45, .iload 5, 2), (47, .ifCond .lt 64, 3), (50, .aload_n 0, 1), (51, .iload 6, 2)]), (64, [(53, .iload_n 3, 1), (54, .invokevirtual 198, 3), (57, .iload 5, 2), (59, .if_icmp .eq 64, 3), (62, .iconst (-1), 1), (63, .ireturn, 1), (64, .aload_n 0, 1)]), (79, [(65, .iload 6, 2), (67, .iload_n 3, 1), (68, .invokevirtual 198, 3), (71, .istore 5, 2), (73, .iinc 6 1, 3), (76, .goto 11, 3), (79, .iload 5, 2)]), (81, [(81, .ireturn, 1)])])
def m_X12_carried : qT := ((12, yX12_carried, cX12_carried, 5, (some .int)), (4, 0, 0, true), [(4, [(0, .aload_n 0, 1), (1, .iload_n 1, 1), (2, .iload_n 2, 1), (3, .iload_n 3, 1), (4, .invokevirtual 170, 3)]), (16, [(7, .ifCond .eq 31, 3), (10, .aload_n 0, 1), (11, .iload 4, 2), (13, .invokevirtual 194, 3), (16, .ifCond .eq 31, 3)]), (23, [(19, .aload_n 0, 1), (20, .iload_n 1, 1), (21, .iload_n 2, 1), (22, .iload_n 3, 1), (23, .iload 4, 2)]), (33, [(25, .invokevirtual 203, 3), (28, .goto 33, 3), (31, .bipush (-2), 2), (33, .ireturn, 1)])])
def m_X12_fits : qT := ((12, yX12_fits, cX12_fits, 4, (some .int)), (2, 0, 0, true), [(9, [(0, .aload_n 0, 1), (1, .iload_n 1, 1), (2, .iload_n 2, 1), (3, .invokevirtual 169, 3), (6, .ifCond .ne 12, 3), (9, .bipush (-2), 2)]), (16, [(11, .ireturn, 1), (12, .iconst 0, 1), (13, .istore_n 3, 1), (14, .iload_n 3, 1), (15, .aload_n 0, 1), (16, .getfield 1202, 3)]), (26, [(19, .if_icmp .ge 41, 3), (22, .aload_n 0, 1), (23, .iload_n 1, 1), (24, .iload_n 2, 1), (25, .iload_n 3, 1), (26, .iconst 0, 1)]), (38, [(27, .invokevirtual 200, 3), (30, .ifCond .le 35, 3), (33, .iload_n 3, 1), (34, .ireturn, 1), (35, .iinc 3 1, 3), (38, .goto 14, 3)]), (42, [(41, .iconst (-1), 1), (42, .ireturn, 1)])])
def m_X12_edgeAt : qT := ((12, yX12_edgeAt, cX12_edgeAt, 3, (some .int)), (3, 0, 0, true), [(3, [(0, .iconst 2, 1), (1, .iload_n 0, 1), (2, .imul, 1), (3, .iload_n 1, 1)]), (7, [(4, .iadd, 1), (5, .iconst 4, 1), (6, .imul, 1), (7, .iload_n 2, 1)]), (9, [(8, .iadd, 1), (9, .ireturn, 1)])])
def m_X12_parts : qT := ((12, yX12_parts, cX12_parts, 2, none), (1, 0, 0, true), [(8, [(0, .iload_n 1, 1), (1, .ifCond .lt 13, 3), (4, .aload_n 0, 1), (5, .getfield 1226, 3), (8, .iload_n 1, 1)]), (15, [(9, .iaload, 1), (10, .ifCond .ge 14, 3), (13, .return_, 1), (14, .aload_n 0, 1), (15, .getfield 1227, 3)]), (24, [(18, .aload_n 0, 1), (19, .getfield 1226, 3), (22, .iload_n 1, 1), (23, .iaload, 1), (24, .iconst (-1), 1)]), (31, [(25, .iastore, 1), (26, .aload_n 0, 1), (27, .getfield 1226, 3), (30, .iload_n 1, 1), (31, .iconst (-1), 1)]), (33, [(32, .iastore, 1), (33, .return_, 1)])])
def m_X12_edge : qT := ((12, yX12_edge, cX12_edge, 6, (some .int)), (4, 0, 0, true), [(10, [(0, .aload_n 0, 1), (1, .iload_n 1, 1), (2, .iload_n 3, 1), (3, .invokevirtual 169, 3), (6, .ifCond .eq 27, 3), (9, .iload_n 2, 1), (10, .iconst 2, 1)]), (27, [(11, .invokestatic 167, 3), (14, .ifCond .eq 27, 3), (17, .iload 4, 2), (19, .bipush 10, 2), (21, .invokestatic 167, 3), (24, .ifCond .ne 30, 3), (27, .bipush (-2), 2)]), (37, [(29, .ireturn, 1), (30, .aload_n 0, 1), (31, .getfield 1225, 3), (34, .iload_n 1, 1), (35, .iload_n 2, 1), (36, .iload_n 3, 1), (37, .invokestatic 206, 3)]), (49, [(40, .iaload, 1), (41, .istore 5, 2), (43, .aload_n 0, 1), (44, .getfield 1225, 3), (47, .iload_n 1, 1), (48, .iload_n 2, 1), (49, .iload_n 3, 1)]), (61, [(50, .invokestatic 206, 3), (53, .iload 4, 2), (55, .iastore, 1), (56, .aload_n 0, 1), (57, .iload_n 1, 1), (58, .invokevirtual 207, 3), (61, .aload_n 0, 1)]), (73, [(62, .aload_n 0, 1), (63, .getfield 1227, 3), (66, .iload_n 1, 1), (67, .iaload, 1), (68, .invokevirtual 207, 3), (71, .iload 5, 2), (73, .ireturn, 1)])])
def m_X12_tolerance : qT := ((12, yX12_tolerance, cX12_tolerance, 4, (some .int)), (1, 0, 0, true), [(10, [(0, .iload_n 1, 1), (1, .iconst 4, 1), (2, .invokestatic 167, 3), (5, .ifCond .ne 11, 3), (8, .bipush (-2), 2), (10, .ireturn, 1)]), (18, [(11, .aload_n 0, 1), (12, .getfield 1205, 3), (15, .istore_n 2, 1), (16, .aload_n 0, 1), (17, .iload_n 1, 1), (18, .putfield 1205, 3)]), (28, [(21, .iconst 0, 1), (22, .istore_n 3, 1), (23, .iload_n 3, 1), (24, .aload_n 0, 1), (25, .getfield 1200, 3), (28, .if_icmp .ge 42, 3)]), (42, [(31, .aload_n 0, 1), (32, .iload_n 3, 1), (33, .invokevirtual 207, 3), (36, .iinc 3 1, 3), (39, .goto 23, 3), (42, .iload_n 2, 1)]), (43, [(43, .ireturn, 1)])])
def m_X12_roomOf : qT := ((12, yX12_roomOf, cX12_roomOf, 6, (some .int)), (2, 0, 0, true), [(11, [(0, .iload_n 1, 1), (1, .iload_n 2, 1), (2, .if_icmp .eq 20, 3), (5, .aload_n 0, 1), (6, .getfield 1207, 3), (9, .iload_n 1, 1), (10, .iaload, 1), (11, .aload_n 0, 1)]), (23, [(12, .getfield 1207, 3), (15, .iload_n 2, 1), (16, .iaload, 1), (17, .if_icmp .eq 22, 3), (20, .iconst (-1), 1), (21, .ireturn, 1), (22, .iconst 0, 1), (23, .istore_n 3, 1)]), (35, [(24, .iconst 0, 1), (25, .istore 4, 2), (27, .iload 4, 2), (29, .aload_n 0, 1), (30, .getfield 1207, 3), (33, .iload_n 1, 1), (34, .iaload, 1), (35, .if_icmp .ge 90, 3)]), (50, [(38, .aload_n 0, 1), (39, .getfield 1225, 3), (42, .iload_n 1, 1), (43, .iconst 1, 1), (44, .iload 4, 2), (46, .invokestatic 206, 3), (49, .iaload, 1), (50, .aload_n 0, 1)]), (63, [(51, .getfield 1225, 3), (54, .iload_n 2, 1), (55, .iconst 0, 1), (56, .iload 4, 2), (58, .invokestatic 206, 3), (61, .iaload, 1), (62, .isub, 1), (63, .invokestatic 9993, 3)]), (79, [(66, .istore 5, 2), (68, .iload 5, 2), (70, .aload_n 0, 1), (71, .getfield 1205, 3), (74, .if_icmp .le 79, 3), (77, .iconst (-1), 1), (78, .ireturn, 1), (79, .iload_n 3, 1)]), (91, [(80, .iload 5, 2), (82, .iadd, 1), (83, .istore_n 3, 1), (84, .iinc 4 1, 3), (87, .goto 27, 3), (90, .iload_n 3, 1), (91, .ireturn, 1)])])
def m_X12_room : qT := ((12, yX12_room, cX12_room, 3, (some .int)), (2, 0, 0, true), [(5, [(0, .aload_n 0, 1), (1, .iload_n 1, 1), (2, .invokevirtual 168, 3), (5, .ifCond .eq 25, 3)]), (13, [(8, .aload_n 0, 1), (9, .iload_n 2, 1), (10, .invokevirtual 168, 3), (13, .ifCond .eq 25, 3)]), (19, [(16, .aload_n 0, 1), (17, .iload_n 1, 1), (18, .iload_n 2, 1), (19, .invokevirtual 210, 3)]), (27, [(22, .goto 27, 3), (25, .bipush (-2), 2), (27, .ireturn, 1)])])
def m_X12_bestOf : qT := ((12, yX12_bestOf, cX12_bestOf, 7, (some .int)), (2, 0, 0, true), [(14, [(0, .iload_n 2, 1), (1, .iconst 1, 1), (2, .if_icmp .ne 14, 3), (5, .aload_n 0, 1), (6, .getfield 1226, 3), (9, .iload_n 1, 1), (10, .iaload, 1), (11, .goto 20, 3), (14, .aload_n 0, 1)]), (27, [(15, .getfield 1227, 3), (18, .iload_n 1, 1), (19, .iaload, 1), (20, .ifCond .lt 25, 3), (23, .iconst (-1), 1), (24, .ireturn, 1), (25, .iconst (-1), 1), (26, .istore_n 3, 1), (27, .iconst 0, 1)]), (43, [(28, .istore 4, 2), (30, .iconst 0, 1), (31, .istore 5, 2), (33, .iload 5, 2), (35, .aload_n 0, 1), (36, .getfield 1200, 3), (39, .if_icmp .ge 126, 3), (42, .iload_n 2, 1), (43, .iconst 1, 1)]), (61, [(44, .if_icmp .ne 57, 3), (47, .aload_n 0, 1), (48, .getfield 1227, 3), (51, .iload 5, 2), (53, .iaload, 1), (54, .goto 64, 3), (57, .aload_n 0, 1), (58, .getfield 1226, 3), (61, .iload 5, 2)]), (77, [(63, .iaload, 1), (64, .ifCond .lt 70, 3), (67, .goto 120, 3), (70, .iload_n 2, 1), (71, .iconst 1, 1), (72, .if_icmp .ne 85, 3), (75, .aload_n 0, 1), (76, .iload_n 1, 1), (77, .iload 5, 2)]), (96, [(79, .invokevirtual 210, 3), (82, .goto 92, 3), (85, .aload_n 0, 1), (86, .iload 5, 2), (88, .iload_n 1, 1), (89, .invokevirtual 210, 3), (92, .istore 6, 2), (94, .iload 6, 2), (96, .ifCond .lt 120, 3)]), (116, [(99, .iload_n 3, 1), (100, .ifCond .lt 113, 3), (103, .iload 6, 2), (105, .iload 4, 2), (107, .if_icmp .lt 113, 3), (110, .goto 120, 3), (113, .iload 5, 2), (115, .istore_n 3, 1), (116, .iload 6, 2)]), (127, [(118, .istore 4, 2), (120, .iinc 5 1, 3), (123, .goto 33, 3), (126, .iload_n 3, 1), (127, .ireturn, 1)])])
def m_X12_best : qT := ((12, yX12_best, cX12_best, 3, (some .int)), (2, 0, 0, true), [(5, [(0, .aload_n 0, 1), (1, .iload_n 1, 1), (2, .invokevirtual 168, 3), (5, .ifCond .eq 25, 3)]), (13, [(8, .iload_n 2, 1), (9, .iconst 2, 1), (10, .invokestatic 167, 3), (13, .ifCond .eq 25, 3)]), (19, [(16, .aload_n 0, 1), (17, .iload_n 1, 1), (18, .iload_n 2, 1), (19, .invokevirtual 212, 3)]), (27, [(22, .goto 27, 3), (25, .bipush (-2), 2), (27, .ireturn, 1)])])
def m_X12_join : qT := ((12, yX12_join, cX12_join, 4, (some .int)), (2, 0, 0, true), [(13, [(0, .aload_n 0, 1), (1, .iload_n 1, 1), (2, .invokevirtual 168, 3), (5, .ifCond .eq 16, 3), (8, .aload_n 0, 1), (9, .iload_n 2, 1), (10, .invokevirtual 168, 3), (13, .ifCond .ne 19, 3)]), (26, [(16, .bipush (-2), 2), (18, .ireturn, 1), (19, .aload_n 0, 1), (20, .iload_n 1, 1), (21, .iconst 1, 1), (22, .invokevirtual 212, 3), (25, .iload_n 2, 1), (26, .if_icmp .ne 39, 3)]), (41, [(29, .aload_n 0, 1), (30, .iload_n 2, 1), (31, .iconst 0, 1), (32, .invokevirtual 212, 3), (35, .iload_n 1, 1), (36, .if_icmp .eq 42, 3), (39, .bipush (-3), 2), (41, .ireturn, 1)]), (53, [(42, .iload_n 2, 1), (43, .istore_n 3, 1), (44, .iload_n 3, 1), (45, .ifCond .lt 66, 3), (48, .iload_n 3, 1), (49, .iload_n 1, 1), (50, .if_icmp .ne 56, 3), (53, .bipush (-3), 2)]), (66, [(55, .ireturn, 1), (56, .aload_n 0, 1), (57, .getfield 1226, 3), (60, .iload_n 3, 1), (61, .iaload, 1), (62, .istore_n 3, 1), (63, .goto 44, 3), (66, .aload_n 0, 1)]), (78, [(67, .getfield 1226, 3), (70, .iload_n 1, 1), (71, .iload_n 2, 1), (72, .iastore, 1), (73, .aload_n 0, 1), (74, .getfield 1227, 3), (77, .iload_n 2, 1), (78, .iload_n 1, 1)]), (81, [(79, .iastore, 1), (80, .iconst 1, 1), (81, .ireturn, 1)])])
def m_X12_part : qT := ((12, yX12_part, cX12_part, 2, (some .int)), (1, 0, 0, true), [(8, [(0, .aload_n 0, 1), (1, .iload_n 1, 1), (2, .invokevirtual 168, 3), (5, .ifCond .ne 11, 3), (8, .bipush (-2), 2)]), (16, [(10, .ireturn, 1), (11, .aload_n 0, 1), (12, .getfield 1226, 3), (15, .iload_n 1, 1), (16, .iaload, 1)]), (24, [(17, .ifCond .ge 23, 3), (20, .bipush (-3), 2), (22, .ireturn, 1), (23, .aload_n 0, 1), (24, .iload_n 1, 1)]), (29, [(25, .invokevirtual 207, 3), (28, .iconst 1, 1), (29, .ireturn, 1)])])
def m_X12_joined : qT := ((12, yX12_joined, cX12_joined, 3, (some .int)), (2, 0, 0, true), [(8, [(0, .aload_n 0, 1), (1, .iload_n 1, 1), (2, .invokevirtual 168, 3), (5, .ifCond .eq 39, 3), (8, .iload_n 2, 1)]), (17, [(9, .iconst 2, 1), (10, .invokestatic 167, 3), (13, .ifCond .eq 39, 3), (16, .iload_n 2, 1), (17, .iconst 1, 1)]), (26, [(18, .if_icmp .ne 30, 3), (21, .aload_n 0, 1), (22, .getfield 1226, 3), (25, .iload_n 1, 1), (26, .iaload, 1)]), (35, [(27, .goto 41, 3), (30, .aload_n 0, 1), (31, .getfield 1227, 3), (34, .iload_n 1, 1), (35, .iaload, 1)]), (41, [(36, .goto 41, 3), (39, .bipush (-2), 2), (41, .ireturn, 1)])])
def m_X12_whole : qT := ((12, yX12_whole, cX12_whole, 6, (some .int)), (3, 0, 0, true), [(11, [(0, .aload_n 0, 1), (1, .iload_n 1, 1), (2, .iload_n 2, 1), (3, .invokevirtual 169, 3), (6, .ifCond .eq 17, 3), (9, .aload_n 0, 1), (10, .iload_n 3, 1), (11, .invokevirtual 194, 3)]), (26, [(14, .ifCond .ne 20, 3), (17, .bipush (-2), 2), (19, .ireturn, 1), (20, .aload_n 0, 1), (21, .getfield 1227, 3), (24, .iload_n 1, 1), (25, .iaload, 1), (26, .ifCond .lt 32, 3)]), (40, [(29, .bipush (-3), 2), (31, .ireturn, 1), (32, .iconst 0, 1), (33, .istore 4, 2), (35, .iload_n 1, 1), (36, .istore 5, 2), (38, .iload 5, 2), (40, .ifCond .lt 67, 3)]), (55, [(43, .iload 4, 2), (45, .aload_n 0, 1), (46, .getfield 1208, 3), (49, .iload 5, 2), (51, .iaload, 1), (52, .iadd, 1), (53, .istore 4, 2), (55, .aload_n 0, 1)]), (71, [(56, .getfield 1226, 3), (59, .iload 5, 2), (61, .iaload, 1), (62, .istore 5, 2), (64, .goto 38, 3), (67, .iload 4, 2), (69, .bipush 24, 2), (71, .if_icmp .le 78, 3)]), (83, [(74, .iconst 0, 1), (75, .goto 86, 3), (78, .aload_n 0, 1), (79, .iload_n 1, 1), (80, .iload_n 2, 1), (81, .iload_n 3, 1), (82, .iconst 1, 1), (83, .invokevirtual 200, 3)]), (86, [(86, .ireturn, 1)])])
def m_X12_years : qT := ((12, yX12_years, cX12_years, 4, (some .int)), (3, 0, 0, true), [(9, [(0, .aload_n 0, 1), (1, .iload_n 1, 1), (2, .invokevirtual 168, 3), (5, .ifCond .eq 27, 3), (8, .iload_n 2, 1), (9, .sipush (-999), 3)]), (23, [(12, .if_icmp .lt 27, 3), (15, .iload_n 3, 1), (16, .sipush 999, 3), (19, .if_icmp .gt 27, 3), (22, .iload_n 2, 1), (23, .iload_n 3, 1)]), (34, [(24, .if_icmp .le 30, 3), (27, .bipush (-2), 2), (29, .ireturn, 1), (30, .aload_n 0, 1), (31, .getfield 1228, 3), (34, .iload_n 1, 1)]), (42, [(35, .iload_n 2, 1), (36, .iastore, 1), (37, .aload_n 0, 1), (38, .getfield 1229, 3), (41, .iload_n 1, 1), (42, .iload_n 3, 1)]), (45, [(43, .iastore, 1), (44, .iconst 1, 1), (45, .ireturn, 1)])])
def m_X12_bound : qT := ((12, yX12_bound, cX12_bound, 4, (some .int)), (3, 0, 0, true), [(13, [(0, .aload_n 0, 1), (1, .iload_n 1, 1), (2, .invokevirtual 168, 3), (5, .ifCond .eq 35, 3), (8, .aload_n 0, 1), (9, .iload_n 2, 1), (10, .invokevirtual 168, 3), (13, .ifCond .eq 35, 3)]), (29, [(16, .iload_n 1, 1), (17, .iload_n 2, 1), (18, .if_icmp .eq 35, 3), (21, .iload_n 3, 1), (22, .sipush (-200), 3), (25, .if_icmp .lt 35, 3), (28, .iload_n 3, 1), (29, .sipush 200, 3)]), (47, [(32, .if_icmp .le 38, 3), (35, .bipush (-2), 2), (37, .ireturn, 1), (38, .aload_n 0, 1), (39, .getfield 1204, 3), (42, .bipush 20, 2), (44, .if_icmp .ne 50, 3), (47, .bipush (-4), 2)]), (60, [(49, .ireturn, 1), (50, .aload_n 0, 1), (51, .getfield 1232, 3), (54, .aload_n 0, 1), (55, .getfield 1204, 3), (58, .iload_n 1, 1), (59, .iastore, 1), (60, .aload_n 0, 1)]), (74, [(61, .getfield 1233, 3), (64, .aload_n 0, 1), (65, .getfield 1204, 3), (68, .iload_n 2, 1), (69, .iastore, 1), (70, .aload_n 0, 1), (71, .getfield 1234, 3), (74, .aload_n 0, 1)]), (86, [(75, .getfield 1204, 3), (78, .iload_n 3, 1), (79, .iastore, 1), (80, .aload_n 0, 1), (81, .dup, 1), (82, .getfield 1204, 3), (85, .iconst 1, 1), (86, .iadd, 1)]), (94, [(87, .putfield 1204, 3), (90, .aload_n 0, 1), (91, .getfield 1204, 3), (94, .ireturn, 1)])])
def m_X12_loose : qT := ((12, yX12_loose, cX12_loose, 1, (some .int)), (0, 0, 0, true), [(7, [(0, .aload_n 0, 1), (1, .getfield 1204, 3), (4, .ifCond .ne 10, 3), (7, .bipush (-3), 2)]), (12, [(9, .ireturn, 1), (10, .aload_n 0, 1), (11, .dup, 1), (12, .getfield 1204, 3)]), (20, [(15, .iconst 1, 1), (16, .isub, 1), (17, .putfield 1204, 3), (20, .aload_n 0, 1)]), (24, [(21, .getfield 1204, 3), (24, .ireturn, 1)])])
def m_X12_clashes : qT := ((12, yX12_clashes, cX12_clashes, 6, (some .boolean)), (1, 0, 0, true), [(19, [(0, .iconst 0, 1), (1, .istore_n 2, 1), (2, .iload_n 2, 1), (3, .aload_n 0, 1), (4, .getfield 1200, 3), (7, .if_icmp .ge 40, 3), (10, .aload_n 0, 1), (11, .getfield 1230, 3), (14, .iload_n 2, 1), (15, .aload_n 0, 1), (16, .getfield 1228, 3), (19, .iload_n 2, 1)]), (37, [(20, .iaload, 1), (21, .iastore, 1), (22, .aload_n 0, 1), (23, .getfield 1231, 3), (26, .iload_n 2, 1), (27, .aload_n 0, 1), (28, .getfield 1229, 3), (31, .iload_n 2, 1), (32, .iaload, 1), (33, .iastore, 1), (34, .iinc 2 1, 3), (37, .goto 2, 3)]), (55, [(40, .iconst 1, 1), (41, .istore_n 2, 1), (42, .iload_n 2, 1), (43, .ifCond .eq 224, 3), (46, .iconst 0, 1), (47, .istore_n 2, 1), (48, .iconst 0, 1), (49, .istore_n 3, 1), (50, .iload_n 3, 1), (51, .aload_n 0, 1), (52, .getfield 1204, 3), (55, .if_icmp .ge 221, 3)]), (75, [(58, .iload_n 1, 1), (59, .iload_n 3, 1), (60, .ishr, 1), (61, .iconst 1, 1), (62, .iand, 1), (63, .ifCond .ne 69, 3), (66, .goto 215, 3), (69, .aload_n 0, 1), (70, .getfield 1232, 3), (73, .iload_n 3, 1), (74, .iaload, 1), (75, .istore 4, 2)]), (96, [(77, .aload_n 0, 1), (78, .getfield 1233, 3), (81, .iload_n 3, 1), (82, .iaload, 1), (83, .istore 5, 2), (85, .aload_n 0, 1), (86, .getfield 1230, 3), (89, .iload 5, 2), (91, .iaload, 1), (92, .aload_n 0, 1), (93, .getfield 1230, 3), (96, .iload 4, 2)]), (116, [(98, .iaload, 1), (99, .aload_n 0, 1), (100, .getfield 1234, 3), (103, .iload_n 3, 1), (104, .iaload, 1), (105, .iadd, 1), (106, .if_icmp .ge 132, 3), (109, .aload_n 0, 1), (110, .getfield 1230, 3), (113, .iload 5, 2), (115, .aload_n 0, 1), (116, .getfield 1230, 3)]), (133, [(119, .iload 4, 2), (121, .iaload, 1), (122, .aload_n 0, 1), (123, .getfield 1234, 3), (126, .iload_n 3, 1), (127, .iaload, 1), (128, .iadd, 1), (129, .iastore, 1), (130, .iconst 1, 1), (131, .istore_n 2, 1), (132, .aload_n 0, 1), (133, .getfield 1231, 3)]), (153, [(136, .iload 4, 2), (138, .iaload, 1), (139, .aload_n 0, 1), (140, .getfield 1231, 3), (143, .iload 5, 2), (145, .iaload, 1), (146, .aload_n 0, 1), (147, .getfield 1234, 3), (150, .iload_n 3, 1), (151, .iaload, 1), (152, .isub, 1), (153, .if_icmp .le 179, 3)]), (175, [(156, .aload_n 0, 1), (157, .getfield 1231, 3), (160, .iload 4, 2), (162, .aload_n 0, 1), (163, .getfield 1231, 3), (166, .iload 5, 2), (168, .iaload, 1), (169, .aload_n 0, 1), (170, .getfield 1234, 3), (173, .iload_n 3, 1), (174, .iaload, 1), (175, .isub, 1)]), (193, [(176, .iastore, 1), (177, .iconst 1, 1), (178, .istore_n 2, 1), (179, .aload_n 0, 1), (180, .getfield 1230, 3), (183, .iload 5, 2), (185, .iaload, 1), (186, .aload_n 0, 1), (187, .getfield 1231, 3), (190, .iload 5, 2), (192, .iaload, 1), (193, .if_icmp .gt 213, 3)]), (215, [(196, .aload_n 0, 1), (197, .getfield 1230, 3), (200, .iload 4, 2), (202, .iaload, 1), (203, .aload_n 0, 1), (204, .getfield 1231, 3), (207, .iload 4, 2), (209, .iaload, 1), (210, .if_icmp .le 215, 3), (213, .iconst 1, 1), (214, .ireturn, 1), (215, .iinc 3 1, 3)]), (225, [(218, .goto 50, 3), (221, .goto 42, 3), (224, .iconst 0, 1), (225, .ireturn, 1)])])
def m_X12_clashAll : qT := ((12, yX12_clashAll, cX12_clashAll, 1, (some .boolean)), (0, 0, 0, true), [(3, [(0, .aload_n 0, 1), (1, .iconst 1, 1), (2, .aload_n 0, 1), (3, .getfield 1204, 3)]), (9, [(6, .ishl, 1), (7, .iconst 1, 1), (8, .isub, 1), (9, .invokevirtual 221, 3)]), (12, [(12, .ireturn, 1)])])
def m_X12_span : qT := ((12, yX12_span, cX12_span, 3, (some .int)), (2, 0, 0, true), [(9, [(0, .aload_n 0, 1), (1, .iload_n 1, 1), (2, .invokevirtual 168, 3), (5, .ifCond .eq 16, 3), (8, .iload_n 2, 1), (9, .iconst 2, 1)]), (20, [(10, .invokestatic 167, 3), (13, .ifCond .ne 19, 3), (16, .bipush (-2), 2), (18, .ireturn, 1), (19, .aload_n 0, 1), (20, .invokevirtual 222, 3)]), (34, [(23, .ifCond .eq 30, 3), (26, .ldc_w 4294867296, 3), (29, .ireturn, 1), (30, .iload_n 2, 1), (31, .ifCond .ne 43, 3), (34, .aload_n 0, 1)]), (44, [(35, .getfield 1230, 3), (38, .iload_n 1, 1), (39, .iaload, 1), (40, .goto 49, 3), (43, .aload_n 0, 1), (44, .getfield 1231, 3)]), (49, [(47, .iload_n 1, 1), (48, .iaload, 1), (49, .ireturn, 1)])])
def m_X12_clash : qT := ((12, yX12_clash, cX12_clash, 3, (some .int)), (0, 0, 0, true), [(10, [(0, .aload_n 0, 1), (1, .invokevirtual 222, 3), (4, .ifCond .ne 9, 3), (7, .iconst (-1), 1), (8, .ireturn, 1), (9, .iconst 1, 1), (10, .aload_n 0, 1)]), (19, [(11, .getfield 1204, 3), (14, .ishl, 1), (15, .iconst 1, 1), (16, .isub, 1), (17, .istore_n 1, 1), (18, .aload_n 0, 1), (19, .getfield 1204, 3)]), (30, [(22, .iconst 1, 1), (23, .isub, 1), (24, .istore_n 2, 1), (25, .iload_n 2, 1), (26, .ifCond .lt 57, 3), (29, .aload_n 0, 1), (30, .iload_n 1, 1)]), (37, [(31, .iconst 1, 1), (32, .iload_n 2, 1), (33, .ishl, 1), (34, .iconst (-1), 1), (35, .ixor, 1), (36, .iand, 1), (37, .invokevirtual 221, 3)]), (48, [(40, .ifCond .eq 51, 3), (43, .iload_n 1, 1), (44, .iconst 1, 1), (45, .iload_n 2, 1), (46, .ishl, 1), (47, .iconst (-1), 1), (48, .ixor, 1)]), (58, [(49, .iand, 1), (50, .istore_n 1, 1), (51, .iinc 2 (-1), 3), (54, .goto 25, 3), (57, .iload_n 1, 1), (58, .ireturn, 1)])])
def m_X12_isWord : qT := ((12, yX12_isWord, cX12_isWord, 5, (some .boolean)), (1, 0, 0, true), [(5, [(0, .iconst 0, 1), (1, .istore_n 2, 1), (2, .lload_n 0, 1), (3, .lstore_n 3, 1), (4, .lload_n 3, 1), (5, .lconst 0, 1)]), (15, [(6, .lcmp, 1), (7, .ifCond .le 34, 3), (10, .lload_n 3, 1), (11, .ldc2_w 27, 3), (14, .lrem, 1), (15, .lconst 0, 1)]), (23, [(16, .lcmp, 1), (17, .ifCond .ne 22, 3), (20, .iconst 0, 1), (21, .ireturn, 1), (22, .lload_n 3, 1), (23, .ldc2_w 27, 3)]), (35, [(26, .ldiv, 1), (27, .lstore_n 3, 1), (28, .iinc 2 1, 3), (31, .goto 4, 3), (34, .lload_n 0, 1), (35, .lconst 0, 1)]), (46, [(36, .lcmp, 1), (37, .ifCond .le 50, 3), (40, .iload_n 2, 1), (41, .bipush 7, 2), (43, .if_icmp .gt 50, 3), (46, .iconst 1, 1)]), (51, [(47, .goto 51, 3), (50, .iconst 0, 1), (51, .ireturn, 1)])])
def m_X12_person : qT := ((12, yX12_person, cX12_person, 6, (some .int)), (3, 0, 0, true), [(13, [(0, .lload_n 1, 1), (1, .invokestatic 225, 3), (4, .ifCond .eq 29, 3), (7, .lload_n 3, 1), (8, .lconst 0, 1), (9, .lcmp, 1), (10, .ifCond .eq 20, 3), (13, .lload_n 3, 1)]), (31, [(14, .invokestatic 225, 3), (17, .ifCond .eq 29, 3), (20, .aload_n 0, 1), (21, .iload 5, 2), (23, .invokevirtual 168, 3), (26, .ifCond .ne 32, 3), (29, .bipush (-2), 2), (31, .ireturn, 1)]), (45, [(32, .aload_n 0, 1), (33, .getfield 1203, 3), (36, .bipush 12, 2), (38, .if_icmp .ne 44, 3), (41, .bipush (-4), 2), (43, .ireturn, 1), (44, .aload_n 0, 1), (45, .getfield 1235, 3)]), (59, [(48, .aload_n 0, 1), (49, .getfield 1203, 3), (52, .lload_n 1, 1), (53, .lastore, 1), (54, .aload_n 0, 1), (55, .getfield 1236, 3), (58, .aload_n 0, 1), (59, .getfield 1203, 3)]), (74, [(62, .lload_n 3, 1), (63, .lastore, 1), (64, .aload_n 0, 1), (65, .getfield 1237, 3), (68, .aload_n 0, 1), (69, .getfield 1203, 3), (72, .iload 5, 2), (74, .iastore, 1)]), (86, [(75, .aload_n 0, 1), (76, .dup, 1), (77, .getfield 1203, 3), (80, .iconst 1, 1), (81, .iadd, 1), (82, .putfield 1203, 3), (85, .aload_n 0, 1), (86, .getfield 1203, 3)]), (91, [(89, .iconst 1, 1), (90, .isub, 1), (91, .ireturn, 1)])])
def m_X12_mayBeOne : qT := ((12, yX12_mayBeOne, cX12_mayBeOne, 5, (some .boolean)), (2, 0, 0, true), [(12, [(0, .aload_n 0, 1), (1, .getfield 1235, 3), (4, .iload_n 1, 1), (5, .laload, 1), (6, .aload_n 0, 1), (7, .getfield 1235, 3), (10, .iload_n 2, 1), (11, .laload, 1), (12, .lcmp, 1)]), (27, [(13, .ifCond .ne 54, 3), (16, .aload_n 0, 1), (17, .getfield 1236, 3), (20, .iload_n 1, 1), (21, .laload, 1), (22, .aload_n 0, 1), (23, .getfield 1236, 3), (26, .iload_n 2, 1), (27, .laload, 1)]), (40, [(28, .lcmp, 1), (29, .ifCond .eq 56, 3), (32, .aload_n 0, 1), (33, .getfield 1236, 3), (36, .iload_n 1, 1), (37, .laload, 1), (38, .lconst 0, 1), (39, .lcmp, 1), (40, .ifCond .eq 56, 3)]), (55, [(43, .aload_n 0, 1), (44, .getfield 1236, 3), (47, .iload_n 2, 1), (48, .laload, 1), (49, .lconst 0, 1), (50, .lcmp, 1), (51, .ifCond .eq 56, 3), (54, .iconst 0, 1), (55, .ireturn, 1)]), (68, [(56, .aload_n 0, 1), (57, .getfield 1237, 3), (60, .iload_n 1, 1), (61, .iaload, 1), (62, .istore_n 3, 1), (63, .aload_n 0, 1), (64, .getfield 1237, 3), (67, .iload_n 2, 1), (68, .iaload, 1)]), (83, [(69, .istore 4, 2), (71, .aload_n 0, 1), (72, .getfield 1230, 3), (75, .iload_n 3, 1), (76, .iaload, 1), (77, .aload_n 0, 1), (78, .getfield 1231, 3), (81, .iload 4, 2), (83, .iaload, 1)]), (98, [(84, .isub, 1), (85, .bipush 60, 2), (87, .if_icmp .ge 113, 3), (90, .aload_n 0, 1), (91, .getfield 1230, 3), (94, .iload 4, 2), (96, .iaload, 1), (97, .aload_n 0, 1), (98, .getfield 1231, 3)]), (114, [(101, .iload_n 3, 1), (102, .iaload, 1), (103, .isub, 1), (104, .bipush 60, 2), (106, .if_icmp .ge 113, 3), (109, .iconst 1, 1), (110, .goto 114, 3), (113, .iconst 0, 1), (114, .ireturn, 1)])])
def m_X12_isPerson : qT := ((12, yX12_isPerson, cX12_isPerson, 2, (some .boolean)), (1, 0, 0, true), [(5, [(0, .iload_n 1, 1), (1, .aload_n 0, 1), (2, .getfield 1203, 3), (5, .invokestatic 167, 3)]), (8, [(8, .ireturn, 1)])])
def m_X12_one : qT := ((12, yX12_one, cX12_one, 3, (some .int)), (2, 0, 0, true), [(9, [(0, .aload_n 0, 1), (1, .iload_n 1, 1), (2, .invokevirtual 228, 3), (5, .ifCond .eq 21, 3), (8, .aload_n 0, 1), (9, .iload_n 2, 1)]), (21, [(10, .invokevirtual 228, 3), (13, .ifCond .eq 21, 3), (16, .iload_n 1, 1), (17, .iload_n 2, 1), (18, .if_icmp .ne 24, 3), (21, .bipush (-2), 2)]), (32, [(23, .ireturn, 1), (24, .aload_n 0, 1), (25, .invokevirtual 222, 3), (28, .ifCond .ne 44, 3), (31, .aload_n 0, 1), (32, .iload_n 1, 1)]), (44, [(33, .iload_n 2, 1), (34, .invokevirtual 227, 3), (37, .ifCond .eq 44, 3), (40, .iconst 1, 1), (41, .goto 45, 3), (44, .iconst 0, 1)]), (45, [(45, .ireturn, 1)])])
def m_X12_findGroups : qT := ((12, yX12_findGroups, cX12_findGroups, 5, (some .int)), (0, 0, 0, true), [(8, [(0, .aload_n 0, 1), (1, .invokevirtual 222, 3), (4, .istore_n 1, 1), (5, .iconst 0, 1), (6, .istore_n 2, 1), (7, .iconst 0, 1), (8, .istore_n 3, 1)]), (20, [(9, .iload_n 3, 1), (10, .aload_n 0, 1), (11, .getfield 1203, 3), (14, .if_icmp .ge 66, 3), (17, .iconst 0, 1), (18, .istore 4, 2), (20, .iload 4, 2)]), (31, [(22, .iload_n 2, 1), (23, .if_icmp .ge 43, 3), (26, .aload_n 0, 1), (27, .iload_n 3, 1), (28, .iload 4, 2), (30, .iload_n 1, 1), (31, .invokevirtual 231, 3)]), (48, [(34, .ifCond .ne 43, 3), (37, .iinc 4 1, 3), (40, .goto 20, 3), (43, .aload_n 0, 1), (44, .getfield 1238, 3), (47, .iload_n 3, 1), (48, .iload 4, 2)]), (59, [(50, .iastore, 1), (51, .iload_n 2, 1), (52, .iload 4, 2), (54, .iconst 1, 1), (55, .iadd, 1), (56, .invokestatic 9991, 3), (59, .istore_n 2, 1)]), (67, [(60, .iinc 3 1, 3), (63, .goto 9, 3), (66, .iload_n 2, 1), (67, .ireturn, 1)])])
def m_X12_joinsGroup : qT := ((12, yX12_joinsGroup, cX12_joinsGroup, 6, (some .boolean)), (3, 0, 0, true), [(9, [(0, .iload_n 3, 1), (1, .ifCond .ne 8, 3), (4, .iconst 1, 1), (5, .goto 9, 3), (8, .iconst 0, 1), (9, .istore 4, 2)]), (20, [(11, .iconst 0, 1), (12, .istore 5, 2), (14, .iload 5, 2), (16, .iload_n 1, 1), (17, .if_icmp .ge 59, 3), (20, .iload 4, 2)]), (32, [(22, .ifCond .eq 59, 3), (25, .aload_n 0, 1), (26, .getfield 1238, 3), (29, .iload 5, 2), (31, .iaload, 1), (32, .iload_n 2, 1)]), (43, [(33, .if_icmp .ne 46, 3), (36, .aload_n 0, 1), (37, .iload 5, 2), (39, .iload_n 1, 1), (40, .invokevirtual 227, 3), (43, .ifCond .eq 50, 3)]), (56, [(46, .iconst 1, 1), (47, .goto 51, 3), (50, .iconst 0, 1), (51, .istore 4, 2), (53, .iinc 5 1, 3), (56, .goto 14, 3)]), (61, [(59, .iload 4, 2), (61, .ireturn, 1)])])
def m_X12_group : qT := ((12, yX12_group, cX12_group, 3, (some .int)), (1, 0, 0, true), [(5, [(0, .aload_n 0, 1), (1, .iload_n 1, 1), (2, .invokevirtual 228, 3), (5, .ifCond .ne 11, 3)]), (12, [(8, .bipush (-2), 2), (10, .ireturn, 1), (11, .aload_n 0, 1), (12, .invokevirtual 230, 3)]), (20, [(15, .istore_n 2, 1), (16, .aload_n 0, 1), (17, .getfield 1238, 3), (20, .iload_n 1, 1)]), (22, [(21, .iaload, 1), (22, .ireturn, 1)])])
def m_X12_father : qT := ((12, yX12_father, cX12_father, 5, (some .int)), (1, 0, 0, true), [(15, [(0, .aload_n 0, 1), (1, .iload_n 1, 1), (2, .invokevirtual 228, 3), (5, .ifCond .ne 11, 3), (8, .bipush (-2), 2), (10, .ireturn, 1), (11, .aload_n 0, 1), (12, .getfield 1236, 3), (15, .iload_n 1, 1)]), (30, [(16, .laload, 1), (17, .lconst 0, 1), (18, .lcmp, 1), (19, .ifCond .eq 29, 3), (22, .aload_n 0, 1), (23, .invokevirtual 222, 3), (26, .ifCond .eq 31, 3), (29, .iconst (-1), 1), (30, .ireturn, 1)]), (41, [(31, .aload_n 0, 1), (32, .getfield 1237, 3), (35, .iload_n 1, 1), (36, .iaload, 1), (37, .istore_n 2, 1), (38, .iconst 0, 1), (39, .istore_n 3, 1), (40, .iload_n 3, 1), (41, .aload_n 0, 1)]), (57, [(42, .getfield 1203, 3), (45, .if_icmp .ge 123, 3), (48, .aload_n 0, 1), (49, .getfield 1237, 3), (52, .iload_n 3, 1), (53, .iaload, 1), (54, .istore 4, 2), (56, .iload_n 3, 1), (57, .iload_n 1, 1)]), (72, [(58, .if_icmp .eq 117, 3), (61, .aload_n 0, 1), (62, .getfield 1235, 3), (65, .iload_n 3, 1), (66, .laload, 1), (67, .aload_n 0, 1), (68, .getfield 1236, 3), (71, .iload_n 1, 1), (72, .laload, 1)]), (87, [(73, .lcmp, 1), (74, .ifCond .ne 117, 3), (77, .aload_n 0, 1), (78, .getfield 1230, 3), (81, .iload_n 2, 1), (82, .iaload, 1), (83, .aload_n 0, 1), (84, .getfield 1231, 3), (87, .iload 4, 2)]), (102, [(89, .iaload, 1), (90, .isub, 1), (91, .bipush 60, 2), (93, .if_icmp .gt 117, 3), (96, .aload_n 0, 1), (97, .getfield 1231, 3), (100, .iload_n 2, 1), (101, .iaload, 1), (102, .aload_n 0, 1)]), (117, [(103, .getfield 1230, 3), (106, .iload 4, 2), (108, .iaload, 1), (109, .isub, 1), (110, .bipush 15, 2), (112, .if_icmp .lt 117, 3), (115, .iload_n 3, 1), (116, .ireturn, 1), (117, .iinc 3 1, 3)]), (124, [(120, .goto 40, 3), (123, .iconst (-1), 1), (124, .ireturn, 1)])])
def m_X12_prints : qT := ((12, yX12_prints, cX12_prints, 10, (some .int)), (3, 0, 0, true), [(17, [(0, .iconst 0, 1), (1, .istore 4, 2), (3, .iconst 0, 1), (4, .istore 5, 2), (6, .iload 5, 2), (8, .aload_n 0, 1), (9, .getfield 1208, 3), (12, .iload_n 1, 1), (13, .iaload, 1), (14, .if_icmp .ge 226, 3), (17, .aload_n 0, 1)]), (35, [(18, .iload_n 1, 1), (19, .iload_n 2, 1), (20, .iload 5, 2), (22, .invokevirtual 178, 3), (25, .istore 6, 2), (27, .aload_n 0, 1), (28, .iload_n 1, 1), (29, .iload_n 2, 1), (30, .iload 5, 2), (32, .invokevirtual 179, 3), (35, .istore 7, 2)]), (56, [(37, .iconst 0, 1), (38, .istore 8, 2), (40, .iload 6, 2), (42, .iconst 2, 1), (43, .if_icmp .lt 52, 3), (46, .iload 6, 2), (48, .iconst 5, 1), (49, .if_icmp .ne 68, 3), (52, .iload 7, 2), (54, .iload 8, 2), (56, .ishr, 1)]), (77, [(57, .iconst 1, 1), (58, .iand, 1), (59, .ifCond .ne 87, 3), (62, .iinc 8 1, 3), (65, .goto 52, 3), (68, .iload_n 3, 1), (69, .ifCond .ge 76, 3), (72, .iconst (-1), 1), (73, .goto 85, 3), (76, .aload_n 0, 1), (77, .iload_n 1, 1)]), (98, [(78, .iload_n 2, 1), (79, .iload 5, 2), (81, .iload_n 3, 1), (82, .invokevirtual 203, 3), (85, .istore 8, 2), (87, .iload 6, 2), (89, .iconst 1, 1), (90, .if_icmp .le 102, 3), (93, .iload 8, 2), (95, .ifCond .lt 102, 3), (98, .iconst 1, 1)]), (119, [(99, .goto 103, 3), (102, .iconst 0, 1), (103, .istore 9, 2), (105, .iload 9, 2), (107, .ifCond .eq 133, 3), (110, .aload_n 0, 1), (111, .getfield 1239, 3), (114, .iload 4, 2), (116, .iload 6, 2), (118, .iconst 5, 1), (119, .if_icmp .ne 127, 3)]), (144, [(122, .bipush 60, 2), (124, .goto 129, 3), (127, .bipush 91, 2), (129, .iastore, 1), (130, .iinc 4 1, 3), (133, .aload_n 0, 1), (134, .getfield 1239, 3), (137, .iload 4, 2), (139, .iload 8, 2), (141, .ifCond .lt 164, 3), (144, .iload 8, 2)]), (167, [(146, .bipush 26, 2), (148, .if_icmp .ne 156, 3), (151, .bipush 95, 2), (153, .goto 188, 3), (156, .bipush 97, 2), (158, .iload 8, 2), (160, .iadd, 1), (161, .goto 188, 3), (164, .iload 6, 2), (166, .iconst 2, 1), (167, .if_icmp .ne 175, 3)]), (192, [(170, .bipush 63, 2), (172, .goto 188, 3), (175, .iload 6, 2), (177, .iconst 3, 1), (178, .if_icmp .ne 186, 3), (181, .bipush 45, 2), (183, .goto 188, 3), (186, .bipush 35, 2), (188, .iastore, 1), (189, .iinc 4 1, 3), (192, .iload 9, 2)]), (216, [(194, .ifCond .eq 220, 3), (197, .aload_n 0, 1), (198, .getfield 1239, 3), (201, .iload 4, 2), (203, .iload 6, 2), (205, .iconst 5, 1), (206, .if_icmp .ne 214, 3), (209, .bipush 62, 2), (211, .goto 216, 3), (214, .bipush 93, 2), (216, .iastore, 1)]), (228, [(217, .iinc 4 1, 3), (220, .iinc 5 1, 3), (223, .goto 6, 3), (226, .iload 4, 2), (228, .ireturn, 1)])])
def m_X12_print : qT := ((12, yX12_print, cX12_print, 4, (some .int)), (3, 0, 0, true), [(6, [(0, .aload_n 0, 1), (1, .iload_n 1, 1), (2, .iload_n 2, 1), (3, .invokevirtual 169, 3), (6, .ifCond .eq 32, 3)]), (15, [(9, .iload_n 3, 1), (10, .iconst (-1), 1), (11, .if_icmp .eq 22, 3), (14, .aload_n 0, 1), (15, .iload_n 3, 1)]), (24, [(16, .invokevirtual 194, 3), (19, .ifCond .eq 32, 3), (22, .aload_n 0, 1), (23, .iload_n 1, 1), (24, .iload_n 2, 1)]), (34, [(25, .iload_n 3, 1), (26, .invokevirtual 234, 3), (29, .goto 34, 3), (32, .bipush (-2), 2), (34, .ireturn, 1)])])
def m_X12_printed : qT := ((12, yX12_printed, cX12_printed, 6, (some .int)), (4, 0, 0, true), [(9, [(0, .aload_n 0, 1), (1, .iload_n 1, 1), (2, .iload_n 2, 1), (3, .invokevirtual 169, 3), (6, .ifCond .eq 22, 3), (9, .iload_n 3, 1)]), (19, [(10, .iconst (-1), 1), (11, .if_icmp .eq 25, 3), (14, .aload_n 0, 1), (15, .iload_n 3, 1), (16, .invokevirtual 194, 3), (19, .ifCond .ne 25, 3)]), (28, [(22, .bipush (-2), 2), (24, .ireturn, 1), (25, .aload_n 0, 1), (26, .iload_n 1, 1), (27, .iload_n 2, 1), (28, .iload_n 3, 1)]), (41, [(29, .invokevirtual 234, 3), (32, .istore 5, 2), (34, .iload 4, 2), (36, .iload 5, 2), (38, .invokestatic 167, 3), (41, .ifCond .eq 54, 3)]), (54, [(44, .aload_n 0, 1), (45, .getfield 1239, 3), (48, .iload 4, 2), (50, .iaload, 1), (51, .goto 55, 3), (54, .iconst (-1), 1)]), (55, [(55, .ireturn, 1)])])
def m_X12_isSign : qT := ((12, yX12_isSign, cX12_isSign, 1, (some .boolean)), (1, 0, 0, true), [(7, [(0, .iload_n 0, 1), (1, .invokestatic 182, 3), (4, .ifCond .ne 13, 3), (7, .iload_n 0, 1)]), (14, [(8, .bipush 95, 2), (10, .if_icmp .ne 17, 3), (13, .iconst 1, 1), (14, .goto 18, 3)]), (18, [(17, .iconst 0, 1), (18, .ireturn, 1)])])
def m_X12_bitOf : qT := ((12, yX12_bitOf, cX12_bitOf, 1, (some .int)), (1, 0, 0, true), [(4, [(0, .iconst 1, 1), (1, .iload_n 0, 1), (2, .bipush 95, 2), (4, .if_icmp .ne 12, 3)]), (13, [(7, .bipush 26, 2), (9, .goto 16, 3), (12, .iload_n 0, 1), (13, .bipush 97, 2)]), (17, [(15, .isub, 1), (16, .ishl, 1), (17, .ireturn, 1)])])
def m_X12_backs : qT := ((12, yX12_backs, cX12_backs, 6, (some .int)), (1, 0, 0, true), [(17, [(0, .iconst 0, 1), (1, .istore_n 2, 1), (2, .iconst 0, 1), (3, .istore_n 3, 1), (4, .iload_n 3, 1), (5, .iload_n 1, 1), (6, .if_icmp .ge 264, 3), (9, .iload_n 2, 1), (10, .aload_n 0, 1), (11, .getfield 1206, 3), (14, .if_icmp .ne 25, 3), (17, .bipush (-20), 2)]), (37, [(19, .aload_n 0, 1), (20, .getfield 1206, 3), (23, .isub, 1), (24, .ireturn, 1), (25, .aload_n 0, 1), (26, .getfield 1210, 3), (29, .iload_n 2, 1), (30, .iaload, 1), (31, .istore 4, 2), (33, .iload 4, 2), (35, .bipush 60, 2), (37, .if_icmp .eq 47, 3)]), (64, [(40, .iload 4, 2), (42, .bipush 91, 2), (44, .if_icmp .ne 51, 3), (47, .iconst 1, 1), (48, .goto 52, 3), (51, .iconst 0, 1), (52, .istore 5, 2), (54, .iload 4, 2), (56, .invokestatic 237, 3), (59, .ifCond .ne 93, 3), (62, .iload 5, 2), (64, .ifCond .ne 93, 3)]), (91, [(67, .iload 4, 2), (69, .bipush 63, 2), (71, .if_icmp .eq 93, 3), (74, .iload 4, 2), (76, .bipush 45, 2), (78, .if_icmp .eq 93, 3), (81, .iload 4, 2), (83, .bipush 35, 2), (85, .if_icmp .eq 93, 3), (88, .bipush (-20), 2), (90, .iload_n 2, 1), (91, .isub, 1)]), (114, [(92, .ireturn, 1), (93, .aload_n 0, 1), (94, .getfield 1240, 3), (97, .iload_n 3, 1), (98, .iload 4, 2), (100, .invokestatic 237, 3), (103, .ifCond .eq 110, 3), (106, .iconst 0, 1), (107, .goto 133, 3), (110, .iload 4, 2), (112, .bipush 60, 2), (114, .if_icmp .ne 121, 3)]), (138, [(117, .iconst 5, 1), (118, .goto 133, 3), (121, .iload 4, 2), (123, .bipush 35, 2), (125, .if_icmp .ne 132, 3), (128, .iconst 4, 1), (129, .goto 133, 3), (132, .iconst 3, 1), (133, .iastore, 1), (134, .aload_n 0, 1), (135, .getfield 1241, 3), (138, .iload_n 3, 1)]), (166, [(139, .iload 4, 2), (141, .invokestatic 237, 3), (144, .ifCond .eq 155, 3), (147, .iload 4, 2), (149, .invokestatic 238, 3), (152, .goto 157, 3), (155, .ldc 134217727, 2), (157, .iastore, 1), (158, .iinc 2 1, 3), (161, .iload 5, 2), (163, .ifCond .ne 169, 3), (166, .goto 258, 3)]), (191, [(169, .iload_n 2, 1), (170, .aload_n 0, 1), (171, .getfield 1206, 3), (174, .if_icmp .eq 189, 3), (177, .aload_n 0, 1), (178, .getfield 1210, 3), (181, .iload_n 2, 1), (182, .iaload, 1), (183, .invokestatic 237, 3), (186, .ifCond .ne 194, 3), (189, .bipush (-20), 2), (191, .iload_n 2, 1)]), (211, [(192, .isub, 1), (193, .ireturn, 1), (194, .iload 4, 2), (196, .bipush 60, 2), (198, .if_icmp .ne 216, 3), (201, .aload_n 0, 1), (202, .getfield 1241, 3), (205, .iload_n 3, 1), (206, .aload_n 0, 1), (207, .getfield 1210, 3), (210, .iload_n 2, 1), (211, .iaload, 1)]), (233, [(212, .invokestatic 238, 3), (215, .iastore, 1), (216, .iinc 2 1, 3), (219, .iload_n 2, 1), (220, .aload_n 0, 1), (221, .getfield 1206, 3), (224, .if_icmp .eq 250, 3), (227, .aload_n 0, 1), (228, .getfield 1210, 3), (231, .iload_n 2, 1), (232, .iaload, 1), (233, .iload 4, 2)]), (258, [(235, .bipush 60, 2), (237, .if_icmp .ne 245, 3), (240, .bipush 62, 2), (242, .goto 247, 3), (245, .bipush 93, 2), (247, .if_icmp .eq 255, 3), (250, .bipush (-20), 2), (252, .iload_n 2, 1), (253, .isub, 1), (254, .ireturn, 1), (255, .iinc 2 1, 3), (258, .iinc 3 1, 3)]), (280, [(261, .goto 4, 3), (264, .iload_n 2, 1), (265, .aload_n 0, 1), (266, .getfield 1206, 3), (269, .if_icmp .ge 279, 3), (272, .bipush (-20), 2), (274, .iload_n 2, 1), (275, .isub, 1), (276, .goto 280, 3), (279, .iload_n 1, 1), (280, .ireturn, 1)])])
def m_X12_back : qT := ((12, yX12_back, cX12_back, 6, (some .int)), (3, 0, 0, true), [(12, [(0, .iload_n 1, 1), (1, .aload_n 0, 1), (2, .getfield 1201, 3), (5, .invokestatic 167, 3), (8, .ifCond .eq 20, 3), (11, .aload_n 0, 1), (12, .iload_n 2, 1)]), (24, [(13, .iload_n 3, 1), (14, .invokevirtual 169, 3), (17, .ifCond .ne 23, 3), (20, .bipush (-2), 2), (22, .ireturn, 1), (23, .aload_n 0, 1), (24, .aload_n 0, 1)]), (36, [(25, .getfield 1208, 3), (28, .iload_n 2, 1), (29, .iaload, 1), (30, .invokevirtual 239, 3), (33, .istore 4, 2), (35, .aload_n 0, 1), (36, .iconst 0, 1)]), (50, [(37, .putfield 1206, 3), (40, .iconst 0, 1), (41, .istore 5, 2), (43, .iload 5, 2), (45, .iload 4, 2), (47, .if_icmp .ge 79, 3), (50, .aload_n 0, 1)]), (60, [(51, .iload_n 1, 1), (52, .iload_n 2, 1), (53, .iload_n 3, 1), (54, .iload 5, 2), (56, .aload_n 0, 1), (57, .getfield 1240, 3), (60, .iload 5, 2)]), (73, [(62, .iaload, 1), (63, .aload_n 0, 1), (64, .getfield 1241, 3), (67, .iload 5, 2), (69, .iaload, 1), (70, .invokevirtual 174, 3), (73, .iinc 5 1, 3)]), (81, [(76, .goto 43, 3), (79, .iload 4, 2), (81, .ireturn, 1)])])
def m_X12_count : qT := ((12, yX12_count, cX12_count, 4, (some .int)), (1, 0, 0, true), [(57, [(0, .iconst 0, 1), (1, .istore_n 2, 1), (2, .iload_n 1, 1), (3, .tableswitch 127 0 8 #[52, 57, 62, 67, 72, 77, 112, 117, 122], 49), (52, .aload_n 0, 1), (53, .getfield 1200, 3), (56, .ireturn, 1), (57, .aload_n 0, 1)]), (71, [(58, .getfield 1201, 3), (61, .ireturn, 1), (62, .aload_n 0, 1), (63, .getfield 1202, 3), (66, .ireturn, 1), (67, .aload_n 0, 1), (68, .getfield 1203, 3), (71, .ireturn, 1)]), (81, [(72, .aload_n 0, 1), (73, .getfield 1204, 3), (76, .ireturn, 1), (77, .iconst 0, 1), (78, .istore_n 3, 1), (79, .iload_n 3, 1), (80, .aload_n 0, 1), (81, .getfield 1200, 3)]), (97, [(84, .if_icmp .ge 110, 3), (87, .iload_n 2, 1), (88, .aload_n 0, 1), (89, .getfield 1226, 3), (92, .iload_n 3, 1), (93, .iaload, 1), (94, .ifCond .lt 101, 3), (97, .iconst 1, 1)]), (111, [(98, .goto 102, 3), (101, .iconst 0, 1), (102, .iadd, 1), (103, .istore_n 2, 1), (104, .iinc 3 1, 3), (107, .goto 79, 3), (110, .iload_n 2, 1), (111, .ireturn, 1)]), (123, [(112, .aload_n 0, 1), (113, .getfield 1206, 3), (116, .ireturn, 1), (117, .aload_n 0, 1), (118, .invokevirtual 230, 3), (121, .ireturn, 1), (122, .aload_n 0, 1), (123, .getfield 1205, 3)]), (129, [(126, .ireturn, 1), (127, .bipush (-2), 2), (129, .ireturn, 1)])])
def m_X12_tray : qT := ((12, yX12_tray, cX12_tray, 4, (some .int)), (2, 0, 0, true), [(11, [(0, .iload_n 1, 1), (1, .iconst 4, 1), (2, .invokestatic 167, 3), (5, .ifCond .eq 14, 3), (8, .iload_n 2, 1), (9, .bipush 40, 2), (11, .if_icmp .le 17, 3)]), (24, [(14, .bipush (-2), 2), (16, .ireturn, 1), (17, .iload_n 2, 1), (18, .iconst (-1), 1), (19, .if_icmp .ge 25, 3), (22, .bipush (-14), 2), (24, .ireturn, 1)]), (33, [(25, .aload_n 0, 1), (26, .getfield 1242, 3), (29, .iload_n 1, 1), (30, .iload_n 2, 1), (31, .iastore, 1), (32, .iconst 0, 1), (33, .istore_n 3, 1)]), (46, [(34, .iload_n 3, 1), (35, .bipush 40, 2), (37, .if_icmp .ge 58, 3), (40, .aload_n 0, 1), (41, .getfield 1243, 3), (44, .bipush 40, 2), (46, .iload_n 1, 1)]), (55, [(47, .imul, 1), (48, .iload_n 3, 1), (49, .iadd, 1), (50, .iconst 0, 1), (51, .iastore, 1), (52, .iinc 3 1, 3), (55, .goto 34, 3)]), (59, [(58, .iconst 1, 1), (59, .ireturn, 1)])])
def m_X12_cell : qT := ((12, yX12_cell, cX12_cell, 4, (some .int)), (3, 0, 0, true), [(10, [(0, .iload_n 1, 1), (1, .iconst 4, 1), (2, .invokestatic 167, 3), (5, .ifCond .ne 11, 3), (8, .bipush (-2), 2), (10, .ireturn, 1)]), (20, [(11, .aload_n 0, 1), (12, .getfield 1242, 3), (15, .iload_n 1, 1), (16, .iaload, 1), (17, .ifCond .ge 23, 3), (20, .bipush (-11), 2)]), (29, [(22, .ireturn, 1), (23, .iload_n 2, 1), (24, .aload_n 0, 1), (25, .getfield 1242, 3), (28, .iload_n 1, 1), (29, .iaload, 1)]), (40, [(30, .invokestatic 167, 3), (33, .ifCond .ne 39, 3), (36, .bipush (-12), 2), (38, .ireturn, 1), (39, .aload_n 0, 1), (40, .getfield 1243, 3)]), (49, [(43, .bipush 40, 2), (45, .iload_n 1, 1), (46, .imul, 1), (47, .iload_n 2, 1), (48, .iadd, 1), (49, .iload_n 3, 1)]), (56, [(50, .sipush 255, 3), (53, .iand, 1), (54, .iastore, 1), (55, .iconst 1, 1), (56, .ireturn, 1)])])
def m_X12_lay : qT := ((12, yX12_lay, cX12_lay, 11, (some .int)), (5, 0, 0, true), [(20, [(0, .iload_n 1, 1), (1, .aload_n 0, 1), (2, .getfield 1201, 3), (5, .invokestatic 167, 3), (8, .ifCond .eq 29, 3), (11, .aload_n 0, 1), (12, .iload_n 2, 1), (13, .iload_n 3, 1), (14, .invokevirtual 169, 3), (17, .ifCond .eq 29, 3), (20, .iload 4, 2)]), (42, [(22, .iconst 4, 1), (23, .invokestatic 167, 3), (26, .ifCond .ne 32, 3), (29, .bipush (-2), 2), (31, .ireturn, 1), (32, .aload_n 0, 1), (33, .getfield 1242, 3), (36, .iload 4, 2), (38, .iaload, 1), (39, .ifCond .ge 45, 3), (42, .bipush (-11), 2)]), (61, [(44, .ireturn, 1), (45, .iconst 0, 1), (46, .istore 6, 2), (48, .iload 6, 2), (50, .aload_n 0, 1), (51, .getfield 1208, 3), (54, .iload_n 2, 1), (55, .iaload, 1), (56, .if_icmp .ge 184, 3), (59, .iload 5, 2), (61, .i2l, 1)]), (78, [(62, .iload 6, 2), (64, .i2l, 1), (65, .ladd, 1), (66, .lstore 7, 2), (68, .lload 7, 2), (70, .lconst 0, 1), (71, .lcmp, 1), (72, .ifCond .lt 89, 3), (75, .lload 7, 2), (77, .aload_n 0, 1), (78, .getfield 1242, 3)]), (98, [(81, .iload 4, 2), (83, .iaload, 1), (84, .i2l, 1), (85, .lcmp, 1), (86, .ifCond .lt 92, 3), (89, .bipush (-12), 2), (91, .ireturn, 1), (92, .aload_n 0, 1), (93, .getfield 1243, 3), (96, .bipush 40, 2), (98, .iload 4, 2)]), (118, [(100, .imul, 1), (101, .lload 7, 2), (103, .l2i, 1), (104, .iadd, 1), (105, .iaload, 1), (106, .istore 9, 2), (108, .iload 9, 2), (110, .invokestatic 182, 3), (113, .ifCond .ne 123, 3), (116, .iload 9, 2), (118, .bipush 32, 2)]), (136, [(120, .if_icmp .ne 127, 3), (123, .iconst 1, 1), (124, .goto 128, 3), (127, .iconst 0, 1), (128, .istore 10, 2), (130, .aload_n 0, 1), (131, .iload_n 1, 1), (132, .iload_n 2, 1), (133, .iload_n 3, 1), (134, .iload 6, 2), (136, .iload 10, 2)]), (159, [(138, .ifCond .eq 145, 3), (141, .iconst 0, 1), (142, .goto 146, 3), (145, .iconst 3, 1), (146, .iload 10, 2), (148, .ifCond .eq 173, 3), (151, .iconst 1, 1), (152, .iload 9, 2), (154, .bipush 32, 2), (156, .if_icmp .ne 164, 3), (159, .bipush 26, 2)]), (184, [(161, .goto 169, 3), (164, .iload 9, 2), (166, .bipush 97, 2), (168, .isub, 1), (169, .ishl, 1), (170, .goto 175, 3), (173, .ldc 134217727, 2), (175, .invokevirtual 174, 3), (178, .iinc 6 1, 3), (181, .goto 48, 3), (184, .aload_n 0, 1)]), (190, [(185, .getfield 1208, 3), (188, .iload_n 2, 1), (189, .iaload, 1), (190, .ireturn, 1)])])
def m_X12_taken : qT := ((12, yX12_taken, cX12_taken, 7, (some .int)), (5, 0, 0, true), [(13, [(0, .iload_n 1, 1), (1, .aload_n 0, 1), (2, .getfield 1201, 3), (5, .invokestatic 167, 3), (8, .ifCond .eq 32, 3), (11, .aload_n 0, 1), (12, .iload_n 2, 1), (13, .iload_n 3, 1)]), (32, [(14, .iload 4, 2), (16, .invokevirtual 170, 3), (19, .ifCond .eq 32, 3), (22, .iload 5, 2), (24, .bipush 6, 2), (26, .invokestatic 167, 3), (29, .ifCond .ne 35, 3), (32, .bipush (-2), 2)]), (44, [(34, .ireturn, 1), (35, .aload_n 0, 1), (36, .getfield 1211, 3), (39, .iload_n 1, 1), (40, .iload_n 2, 1), (41, .iload_n 3, 1), (42, .iload 4, 2), (44, .invokestatic 171, 3)]), (59, [(47, .iaload, 1), (48, .iconst 1, 1), (49, .isub, 1), (50, .istore 6, 2), (52, .iload 6, 2), (54, .ifCond .ge 60, 3), (57, .bipush (-11), 2), (59, .ireturn, 1)]), (75, [(60, .iload 5, 2), (62, .ifCond .eq 84, 3), (65, .iload 5, 2), (67, .iload 6, 2), (69, .if_icmp .eq 84, 3), (72, .iload 5, 2), (74, .iconst 3, 1), (75, .if_icmp .ne 100, 3)]), (90, [(78, .iload 6, 2), (80, .iconst 4, 1), (81, .if_icmp .ne 100, 3), (84, .aload_n 0, 1), (85, .getfield 1212, 3), (88, .iload_n 1, 1), (89, .iload_n 2, 1), (90, .iload_n 3, 1)]), (102, [(91, .iload 4, 2), (93, .invokestatic 171, 3), (96, .iaload, 1), (97, .goto 102, 3), (100, .bipush (-13), 2), (102, .ireturn, 1)])])
def m_J6_bitCount_0f7a4 : qT := ((13, yJ6_bitCount_0f7a4, cJ6_bitCount_0f7a4, 1, (some .int)), (1, 0, 0, false), [(8, [(0, .iload_n 0, 1), (1, .iload_n 0, 1), (2, .iconst 1, 1), (3, .iushr, 1), (4, .ldc_w 1431655765, 3), (7, .iand, 1), (8, .isub, 1)]), (17, [(9, .istore_n 0, 1), (10, .iload_n 0, 1), (11, .ldc_w 858993459, 3), (14, .iand, 1), (15, .iload_n 0, 1), (16, .iconst 2, 1), (17, .iushr, 1)]), (26, [(18, .ldc_w 858993459, 3), (21, .iand, 1), (22, .iadd, 1), (23, .istore_n 0, 1), (24, .iload_n 0, 1), (25, .iload_n 0, 1), (26, .iconst 4, 1)]), (35, [(27, .iushr, 1), (28, .iadd, 1), (29, .ldc_w 252645135, 3), (32, .iand, 1), (33, .istore_n 0, 1), (34, .iload_n 0, 1), (35, .iload_n 0, 1)]), (43, [(36, .bipush 8, 2), (38, .iushr, 1), (39, .iadd, 1), (40, .istore_n 0, 1), (41, .iload_n 0, 1), (42, .iload_n 0, 1), (43, .bipush 16, 2)]), (52, [(45, .iushr, 1), (46, .iadd, 1), (47, .istore_n 0, 1), (48, .iload_n 0, 1), (49, .bipush 63, 2), (51, .iand, 1), (52, .ireturn, 1)])])
def m_J13_bitCount_95d88 : qT := ((14, yJ13_bitCount_95d88, cJ13_bitCount_95d88, 2, (some .int)), (1, 0, 0, false), [(9, [(0, .lload_n 0, 1), (1, .lload_n 0, 1), (2, .iconst 1, 1), (3, .lushr, 1), (4, .ldc2_w 6148914691236517205, 3), (7, .land, 1), (8, .lsub, 1), (9, .lstore_n 0, 1)]), (21, [(10, .lload_n 0, 1), (11, .ldc2_w 3689348814741910323, 3), (14, .land, 1), (15, .lload_n 0, 1), (16, .iconst 2, 1), (17, .lushr, 1), (18, .ldc2_w 3689348814741910323, 3), (21, .land, 1)]), (29, [(22, .ladd, 1), (23, .lstore_n 0, 1), (24, .lload_n 0, 1), (25, .lload_n 0, 1), (26, .iconst 4, 1), (27, .lushr, 1), (28, .ladd, 1), (29, .ldc2_w 1085102592571150095, 3)]), (40, [(32, .land, 1), (33, .lstore_n 0, 1), (34, .lload_n 0, 1), (35, .lload_n 0, 1), (36, .bipush 8, 2), (38, .lushr, 1), (39, .ladd, 1), (40, .lstore_n 0, 1)]), (49, [(41, .lload_n 0, 1), (42, .lload_n 0, 1), (43, .bipush 16, 2), (45, .lushr, 1), (46, .ladd, 1), (47, .lstore_n 0, 1), (48, .lload_n 0, 1), (49, .lload_n 0, 1)]), (59, [(50, .bipush 32, 2), (52, .lushr, 1), (53, .ladd, 1), (54, .lstore_n 0, 1), (55, .lload_n 0, 1), (56, .l2i, 1), (57, .bipush 127, 2), (59, .iand, 1)]), (60, [(60, .ireturn, 1)])])
def m_J7_rangeCheck_23922 : qT := ((15, yJ7_rangeCheck_23922, cJ7_rangeCheck_23922, 3, none), (3, 0, 0, false), [(12, [(0, .iload_n 1, 1), (1, .iload_n 2, 1), (2, .if_icmp .le 46, 3), (8, .dup, 1), (12, .dup, 1)]), (53, [(21, .iload_n 1, 1), (30, .iload_n 2, 1), (46, .iload_n 1, 1), (47, .ifCond .ge 59, 3), (53, .dup, 1)]), (67, [(54, .iload_n 1, 1), (59, .iload_n 2, 1), (60, .iload_n 0, 1), (61, .if_icmp .le 73, 3), (67, .dup, 1)]), (73, [(68, .iload_n 2, 1), (73, .return_, 1)])])
def m_J7_fill_53178 : qT := ((15, yJ7_fill_53178, cJ7_fill_53178, 4, none), (2, 0, 0, false), [(3, [(0, .iconst 0, 1), (1, .istore_n 2, 1), (2, .aload_n 0, 1), (3, .arraylength, 1)]), (7, [(4, .istore_n 3, 1), (5, .iload_n 2, 1), (6, .iload_n 3, 1), (7, .if_icmp .ge 20, 3)]), (13, [(10, .aload_n 0, 1), (11, .iload_n 2, 1), (12, .iload_n 1, 1), (13, .iastore, 1)]), (20, [(14, .iinc 2 1, 3), (17, .goto 5, 3), (20, .return_, 1)])])
def m_J7_fill_eb02e : qT := ((15, yJ7_fill_eb02e, cJ7_fill_eb02e, 5, none), (4, 0, 0, false), [(4, [(0, .aload_n 0, 1), (1, .arraylength, 1), (2, .iload_n 1, 1), (3, .iload_n 2, 1), (4, .invokestatic 248, 3)]), (13, [(7, .iload_n 1, 1), (8, .istore 4, 2), (10, .iload 4, 2), (12, .iload_n 2, 1), (13, .if_icmp .ge 27, 3)]), (21, [(16, .aload_n 0, 1), (17, .iload 4, 2), (19, .iload_n 3, 1), (20, .bastore, 1), (21, .iinc 4 1, 3)]), (27, [(24, .goto 10, 3), (27, .return_, 1)])])
def bL_0 : Nat × List (Nat × Instr × Nat) := (216, [(0, .new 11, 3), (3, .dup, 1), (4, .invokespecial 121, 3), (7, .astore_n 1, 1), (8, .new 12, 3), (11, .dup, 1), (12, .invokespecial 166, 3), (15, .astore_n 2, 1), (16, .iconst 0, 1), (17, .istore_n 3, 1), (18, .iload_n 3, 1), (19, .aload_n 0, 1), (20, .arraylength, 1), (21, .bipush 7, 2), (23, .isub, 1), (24, .if_icmp .gt 1732, 3), (27, .aload_n 0, 1), (28, .iload_n 3, 1), (29, .iaload, 1), (30, .bipush 63, 2), (32, .iand, 1), (33, .tableswitch 1726 0 37 #[200, 233, 256, 331, 384, 437, 500, 513, 536, 579, 622, 675, 728, 761, 814, 837, 870, 903, 936, 959, 992, 1035, 1078, 1121, 1134, 1167, 1180, 1283, 1316, 1339, 1362, 1405, 1458, 1501, 1524, 1557, 1600, 1663], 167), (200, .aload_n 1, 1), (201, .aload_n 0, 1), (202, .iload_n 3, 1), (203, .iconst 1, 1), (204, .iadd, 1), (205, .iaload, 1), (206, .aload_n 0, 1), (207, .iload_n 3, 1), (208, .iconst 2, 1), (209, .iadd, 1), (210, .iaload, 1), (211, .invokevirtual 122, 3), (214, .aload_n 2, 1), (215, .aload_n 0, 1), (216, .iload_n 3, 1)])
def bL_1 : Nat × List (Nat × Instr × Nat) := (263, [(217, .iconst 1, 1), (218, .iadd, 1), (219, .iaload, 1), (220, .aload_n 0, 1), (221, .iload_n 3, 1), (222, .iconst 2, 1), (223, .iadd, 1), (224, .iaload, 1), (225, .invokevirtual 172, 3), (228, .if_icmp .eq 1726, 3), (231, .iconst 0, 1), (232, .ireturn, 1), (233, .aload_n 1, 1), (234, .aload_n 0, 1), (235, .iload_n 3, 1), (236, .iconst 1, 1), (237, .iadd, 1), (238, .iaload, 1), (239, .invokevirtual 123, 3), (242, .aload_n 2, 1), (243, .aload_n 0, 1), (244, .iload_n 3, 1), (245, .iconst 1, 1), (246, .iadd, 1), (247, .iaload, 1), (248, .invokevirtual 173, 3), (251, .if_icmp .eq 1726, 3), (254, .iconst 0, 1), (255, .ireturn, 1), (256, .aload_n 1, 1), (257, .aload_n 0, 1), (258, .iload_n 3, 1), (259, .iconst 1, 1), (260, .iadd, 1), (261, .iaload, 1), (262, .aload_n 0, 1), (263, .iload_n 3, 1)])
def bL_2 : Nat × List (Nat × Instr × Nat) := (303, [(264, .iconst 2, 1), (265, .iadd, 1), (266, .iaload, 1), (267, .aload_n 0, 1), (268, .iload_n 3, 1), (269, .iconst 3, 1), (270, .iadd, 1), (271, .iaload, 1), (272, .aload_n 0, 1), (273, .iload_n 3, 1), (274, .iconst 4, 1), (275, .iadd, 1), (276, .iaload, 1), (277, .aload_n 0, 1), (278, .iload_n 3, 1), (279, .iconst 5, 1), (280, .iadd, 1), (281, .iaload, 1), (282, .aload_n 0, 1), (283, .iload_n 3, 1), (284, .bipush 6, 2), (286, .iadd, 1), (287, .iaload, 1), (288, .invokevirtual 124, 3), (291, .aload_n 2, 1), (292, .aload_n 0, 1), (293, .iload_n 3, 1), (294, .iconst 1, 1), (295, .iadd, 1), (296, .iaload, 1), (297, .aload_n 0, 1), (298, .iload_n 3, 1), (299, .iconst 2, 1), (300, .iadd, 1), (301, .iaload, 1), (302, .aload_n 0, 1), (303, .iload_n 3, 1)])
def bL_3 : Nat × List (Nat × Instr × Nat) := (345, [(304, .iconst 3, 1), (305, .iadd, 1), (306, .iaload, 1), (307, .aload_n 0, 1), (308, .iload_n 3, 1), (309, .iconst 4, 1), (310, .iadd, 1), (311, .iaload, 1), (312, .aload_n 0, 1), (313, .iload_n 3, 1), (314, .iconst 5, 1), (315, .iadd, 1), (316, .iaload, 1), (317, .aload_n 0, 1), (318, .iload_n 3, 1), (319, .bipush 6, 2), (321, .iadd, 1), (322, .iaload, 1), (323, .invokevirtual 175, 3), (326, .if_icmp .eq 1726, 3), (329, .iconst 0, 1), (330, .ireturn, 1), (331, .aload_n 1, 1), (332, .aload_n 0, 1), (333, .iload_n 3, 1), (334, .iconst 1, 1), (335, .iadd, 1), (336, .iaload, 1), (337, .aload_n 0, 1), (338, .iload_n 3, 1), (339, .iconst 2, 1), (340, .iadd, 1), (341, .iaload, 1), (342, .aload_n 0, 1), (343, .iload_n 3, 1), (344, .iconst 3, 1), (345, .iadd, 1)])
def bL_4 : Nat × List (Nat × Instr × Nat) := (388, [(346, .iaload, 1), (347, .aload_n 0, 1), (348, .iload_n 3, 1), (349, .iconst 4, 1), (350, .iadd, 1), (351, .iaload, 1), (352, .invokevirtual 125, 3), (355, .aload_n 2, 1), (356, .aload_n 0, 1), (357, .iload_n 3, 1), (358, .iconst 1, 1), (359, .iadd, 1), (360, .iaload, 1), (361, .aload_n 0, 1), (362, .iload_n 3, 1), (363, .iconst 2, 1), (364, .iadd, 1), (365, .iaload, 1), (366, .aload_n 0, 1), (367, .iload_n 3, 1), (368, .iconst 3, 1), (369, .iadd, 1), (370, .iaload, 1), (371, .aload_n 0, 1), (372, .iload_n 3, 1), (373, .iconst 4, 1), (374, .iadd, 1), (375, .iaload, 1), (376, .invokevirtual 176, 3), (379, .if_icmp .eq 1726, 3), (382, .iconst 0, 1), (383, .ireturn, 1), (384, .aload_n 1, 1), (385, .aload_n 0, 1), (386, .iload_n 3, 1), (387, .iconst 1, 1), (388, .iadd, 1)])
def bL_5 : Nat × List (Nat × Instr × Nat) := (427, [(389, .iaload, 1), (390, .aload_n 0, 1), (391, .iload_n 3, 1), (392, .iconst 2, 1), (393, .iadd, 1), (394, .iaload, 1), (395, .aload_n 0, 1), (396, .iload_n 3, 1), (397, .iconst 3, 1), (398, .iadd, 1), (399, .iaload, 1), (400, .aload_n 0, 1), (401, .iload_n 3, 1), (402, .iconst 4, 1), (403, .iadd, 1), (404, .iaload, 1), (405, .invokevirtual 126, 3), (408, .aload_n 2, 1), (409, .aload_n 0, 1), (410, .iload_n 3, 1), (411, .iconst 1, 1), (412, .iadd, 1), (413, .iaload, 1), (414, .aload_n 0, 1), (415, .iload_n 3, 1), (416, .iconst 2, 1), (417, .iadd, 1), (418, .iaload, 1), (419, .aload_n 0, 1), (420, .iload_n 3, 1), (421, .iconst 3, 1), (422, .iadd, 1), (423, .iaload, 1), (424, .aload_n 0, 1), (425, .iload_n 3, 1), (426, .iconst 4, 1), (427, .iadd, 1)])
def bL_6 : Nat × List (Nat × Instr × Nat) := (473, [(428, .iaload, 1), (429, .invokevirtual 180, 3), (432, .if_icmp .eq 1726, 3), (435, .iconst 0, 1), (436, .ireturn, 1), (437, .aload_n 1, 1), (438, .aload_n 0, 1), (439, .iload_n 3, 1), (440, .iconst 1, 1), (441, .iadd, 1), (442, .iaload, 1), (443, .aload_n 0, 1), (444, .iload_n 3, 1), (445, .iconst 2, 1), (446, .iadd, 1), (447, .iaload, 1), (448, .i2l, 1), (449, .bipush 32, 2), (451, .lshl, 1), (452, .aload_n 0, 1), (453, .iload_n 3, 1), (454, .iconst 3, 1), (455, .iadd, 1), (456, .iaload, 1), (457, .i2l, 1), (458, .ldc2_w 4294967295, 3), (461, .land, 1), (462, .lor, 1), (463, .invokevirtual 127, 3), (466, .aload_n 2, 1), (467, .aload_n 0, 1), (468, .iload_n 3, 1), (469, .iconst 1, 1), (470, .iadd, 1), (471, .iaload, 1), (472, .aload_n 0, 1), (473, .iload_n 3, 1)])
def bL_7 : Nat × List (Nat × Instr × Nat) := (525, [(474, .iconst 2, 1), (475, .iadd, 1), (476, .iaload, 1), (477, .i2l, 1), (478, .bipush 32, 2), (480, .lshl, 1), (481, .aload_n 0, 1), (482, .iload_n 3, 1), (483, .iconst 3, 1), (484, .iadd, 1), (485, .iaload, 1), (486, .i2l, 1), (487, .ldc2_w 4294967295, 3), (490, .land, 1), (491, .lor, 1), (492, .invokevirtual 181, 3), (495, .if_icmp .eq 1726, 3), (498, .iconst 0, 1), (499, .ireturn, 1), (500, .aload_n 1, 1), (501, .invokevirtual 128, 3), (504, .aload_n 2, 1), (505, .invokevirtual 193, 3), (508, .if_icmp .eq 1726, 3), (511, .iconst 0, 1), (512, .ireturn, 1), (513, .aload_n 1, 1), (514, .aload_n 0, 1), (515, .iload_n 3, 1), (516, .iconst 1, 1), (517, .iadd, 1), (518, .iaload, 1), (519, .invokevirtual 129, 3), (522, .aload_n 2, 1), (523, .aload_n 0, 1), (524, .iload_n 3, 1), (525, .iconst 1, 1)])
def bL_8 : Nat × List (Nat × Instr × Nat) := (568, [(526, .iadd, 1), (527, .iaload, 1), (528, .invokevirtual 195, 3), (531, .if_icmp .eq 1726, 3), (534, .iconst 0, 1), (535, .ireturn, 1), (536, .aload_n 1, 1), (537, .aload_n 0, 1), (538, .iload_n 3, 1), (539, .iconst 1, 1), (540, .iadd, 1), (541, .iaload, 1), (542, .aload_n 0, 1), (543, .iload_n 3, 1), (544, .iconst 2, 1), (545, .iadd, 1), (546, .iaload, 1), (547, .aload_n 0, 1), (548, .iload_n 3, 1), (549, .iconst 3, 1), (550, .iadd, 1), (551, .iaload, 1), (552, .invokevirtual 130, 3), (555, .aload_n 2, 1), (556, .aload_n 0, 1), (557, .iload_n 3, 1), (558, .iconst 1, 1), (559, .iadd, 1), (560, .iaload, 1), (561, .aload_n 0, 1), (562, .iload_n 3, 1), (563, .iconst 2, 1), (564, .iadd, 1), (565, .iaload, 1), (566, .aload_n 0, 1), (567, .iload_n 3, 1), (568, .iconst 3, 1)])
def bL_9 : Nat × List (Nat × Instr × Nat) := (611, [(569, .iadd, 1), (570, .iaload, 1), (571, .invokevirtual 197, 3), (574, .if_icmp .eq 1726, 3), (577, .iconst 0, 1), (578, .ireturn, 1), (579, .aload_n 1, 1), (580, .aload_n 0, 1), (581, .iload_n 3, 1), (582, .iconst 1, 1), (583, .iadd, 1), (584, .iaload, 1), (585, .aload_n 0, 1), (586, .iload_n 3, 1), (587, .iconst 2, 1), (588, .iadd, 1), (589, .iaload, 1), (590, .aload_n 0, 1), (591, .iload_n 3, 1), (592, .iconst 3, 1), (593, .iadd, 1), (594, .iaload, 1), (595, .invokevirtual 131, 3), (598, .aload_n 2, 1), (599, .aload_n 0, 1), (600, .iload_n 3, 1), (601, .iconst 1, 1), (602, .iadd, 1), (603, .iaload, 1), (604, .aload_n 0, 1), (605, .iload_n 3, 1), (606, .iconst 2, 1), (607, .iadd, 1), (608, .iaload, 1), (609, .aload_n 0, 1), (610, .iload_n 3, 1), (611, .iconst 3, 1)])
def bL_10 : Nat × List (Nat × Instr × Nat) := (654, [(612, .iadd, 1), (613, .iaload, 1), (614, .invokevirtual 201, 3), (617, .if_icmp .eq 1726, 3), (620, .iconst 0, 1), (621, .ireturn, 1), (622, .aload_n 1, 1), (623, .aload_n 0, 1), (624, .iload_n 3, 1), (625, .iconst 1, 1), (626, .iadd, 1), (627, .iaload, 1), (628, .aload_n 0, 1), (629, .iload_n 3, 1), (630, .iconst 2, 1), (631, .iadd, 1), (632, .iaload, 1), (633, .aload_n 0, 1), (634, .iload_n 3, 1), (635, .iconst 3, 1), (636, .iadd, 1), (637, .iaload, 1), (638, .aload_n 0, 1), (639, .iload_n 3, 1), (640, .iconst 4, 1), (641, .iadd, 1), (642, .iaload, 1), (643, .invokevirtual 132, 3), (646, .aload_n 2, 1), (647, .aload_n 0, 1), (648, .iload_n 3, 1), (649, .iconst 1, 1), (650, .iadd, 1), (651, .iaload, 1), (652, .aload_n 0, 1), (653, .iload_n 3, 1), (654, .iconst 2, 1)])
def bL_11 : Nat × List (Nat × Instr × Nat) := (695, [(655, .iadd, 1), (656, .iaload, 1), (657, .aload_n 0, 1), (658, .iload_n 3, 1), (659, .iconst 3, 1), (660, .iadd, 1), (661, .iaload, 1), (662, .aload_n 0, 1), (663, .iload_n 3, 1), (664, .iconst 4, 1), (665, .iadd, 1), (666, .iaload, 1), (667, .invokevirtual 202, 3), (670, .if_icmp .eq 1726, 3), (673, .iconst 0, 1), (674, .ireturn, 1), (675, .aload_n 1, 1), (676, .aload_n 0, 1), (677, .iload_n 3, 1), (678, .iconst 1, 1), (679, .iadd, 1), (680, .iaload, 1), (681, .aload_n 0, 1), (682, .iload_n 3, 1), (683, .iconst 2, 1), (684, .iadd, 1), (685, .iaload, 1), (686, .aload_n 0, 1), (687, .iload_n 3, 1), (688, .iconst 3, 1), (689, .iadd, 1), (690, .iaload, 1), (691, .aload_n 0, 1), (692, .iload_n 3, 1), (693, .iconst 4, 1), (694, .iadd, 1), (695, .iaload, 1)])
def bL_12 : Nat × List (Nat × Instr × Nat) := (738, [(696, .invokevirtual 133, 3), (699, .aload_n 2, 1), (700, .aload_n 0, 1), (701, .iload_n 3, 1), (702, .iconst 1, 1), (703, .iadd, 1), (704, .iaload, 1), (705, .aload_n 0, 1), (706, .iload_n 3, 1), (707, .iconst 2, 1), (708, .iadd, 1), (709, .iaload, 1), (710, .aload_n 0, 1), (711, .iload_n 3, 1), (712, .iconst 3, 1), (713, .iadd, 1), (714, .iaload, 1), (715, .aload_n 0, 1), (716, .iload_n 3, 1), (717, .iconst 4, 1), (718, .iadd, 1), (719, .iaload, 1), (720, .invokevirtual 204, 3), (723, .if_icmp .eq 1726, 3), (726, .iconst 0, 1), (727, .ireturn, 1), (728, .aload_n 1, 1), (729, .aload_n 0, 1), (730, .iload_n 3, 1), (731, .iconst 1, 1), (732, .iadd, 1), (733, .iaload, 1), (734, .aload_n 0, 1), (735, .iload_n 3, 1), (736, .iconst 2, 1), (737, .iadd, 1), (738, .iaload, 1)])
def bL_13 : Nat × List (Nat × Instr × Nat) := (781, [(739, .invokevirtual 134, 3), (742, .aload_n 2, 1), (743, .aload_n 0, 1), (744, .iload_n 3, 1), (745, .iconst 1, 1), (746, .iadd, 1), (747, .iaload, 1), (748, .aload_n 0, 1), (749, .iload_n 3, 1), (750, .iconst 2, 1), (751, .iadd, 1), (752, .iaload, 1), (753, .invokevirtual 205, 3), (756, .if_icmp .eq 1726, 3), (759, .iconst 0, 1), (760, .ireturn, 1), (761, .aload_n 1, 1), (762, .aload_n 0, 1), (763, .iload_n 3, 1), (764, .iconst 1, 1), (765, .iadd, 1), (766, .iaload, 1), (767, .aload_n 0, 1), (768, .iload_n 3, 1), (769, .iconst 2, 1), (770, .iadd, 1), (771, .iaload, 1), (772, .aload_n 0, 1), (773, .iload_n 3, 1), (774, .iconst 3, 1), (775, .iadd, 1), (776, .iaload, 1), (777, .aload_n 0, 1), (778, .iload_n 3, 1), (779, .iconst 4, 1), (780, .iadd, 1), (781, .iaload, 1)])
def bL_14 : Nat × List (Nat × Instr × Nat) := (826, [(782, .invokevirtual 138, 3), (785, .aload_n 2, 1), (786, .aload_n 0, 1), (787, .iload_n 3, 1), (788, .iconst 1, 1), (789, .iadd, 1), (790, .iaload, 1), (791, .aload_n 0, 1), (792, .iload_n 3, 1), (793, .iconst 2, 1), (794, .iadd, 1), (795, .iaload, 1), (796, .aload_n 0, 1), (797, .iload_n 3, 1), (798, .iconst 3, 1), (799, .iadd, 1), (800, .iaload, 1), (801, .aload_n 0, 1), (802, .iload_n 3, 1), (803, .iconst 4, 1), (804, .iadd, 1), (805, .iaload, 1), (806, .invokevirtual 208, 3), (809, .if_icmp .eq 1726, 3), (812, .iconst 0, 1), (813, .ireturn, 1), (814, .aload_n 1, 1), (815, .aload_n 0, 1), (816, .iload_n 3, 1), (817, .iconst 1, 1), (818, .iadd, 1), (819, .iaload, 1), (820, .invokevirtual 139, 3), (823, .aload_n 2, 1), (824, .aload_n 0, 1), (825, .iload_n 3, 1), (826, .iconst 1, 1)])
def bL_15 : Nat × List (Nat × Instr × Nat) := (873, [(827, .iadd, 1), (828, .iaload, 1), (829, .invokevirtual 209, 3), (832, .if_icmp .eq 1726, 3), (835, .iconst 0, 1), (836, .ireturn, 1), (837, .aload_n 1, 1), (838, .aload_n 0, 1), (839, .iload_n 3, 1), (840, .iconst 1, 1), (841, .iadd, 1), (842, .iaload, 1), (843, .aload_n 0, 1), (844, .iload_n 3, 1), (845, .iconst 2, 1), (846, .iadd, 1), (847, .iaload, 1), (848, .invokevirtual 140, 3), (851, .aload_n 2, 1), (852, .aload_n 0, 1), (853, .iload_n 3, 1), (854, .iconst 1, 1), (855, .iadd, 1), (856, .iaload, 1), (857, .aload_n 0, 1), (858, .iload_n 3, 1), (859, .iconst 2, 1), (860, .iadd, 1), (861, .iaload, 1), (862, .invokevirtual 211, 3), (865, .if_icmp .eq 1726, 3), (868, .iconst 0, 1), (869, .ireturn, 1), (870, .aload_n 1, 1), (871, .aload_n 0, 1), (872, .iload_n 3, 1), (873, .iconst 1, 1)])
def bL_16 : Nat × List (Nat × Instr × Nat) := (918, [(874, .iadd, 1), (875, .iaload, 1), (876, .aload_n 0, 1), (877, .iload_n 3, 1), (878, .iconst 2, 1), (879, .iadd, 1), (880, .iaload, 1), (881, .invokevirtual 141, 3), (884, .aload_n 2, 1), (885, .aload_n 0, 1), (886, .iload_n 3, 1), (887, .iconst 1, 1), (888, .iadd, 1), (889, .iaload, 1), (890, .aload_n 0, 1), (891, .iload_n 3, 1), (892, .iconst 2, 1), (893, .iadd, 1), (894, .iaload, 1), (895, .invokevirtual 213, 3), (898, .if_icmp .eq 1726, 3), (901, .iconst 0, 1), (902, .ireturn, 1), (903, .aload_n 1, 1), (904, .aload_n 0, 1), (905, .iload_n 3, 1), (906, .iconst 1, 1), (907, .iadd, 1), (908, .iaload, 1), (909, .aload_n 0, 1), (910, .iload_n 3, 1), (911, .iconst 2, 1), (912, .iadd, 1), (913, .iaload, 1), (914, .invokevirtual 142, 3), (917, .aload_n 2, 1), (918, .aload_n 0, 1)])
def bL_17 : Nat × List (Nat × Instr × Nat) := (965, [(919, .iload_n 3, 1), (920, .iconst 1, 1), (921, .iadd, 1), (922, .iaload, 1), (923, .aload_n 0, 1), (924, .iload_n 3, 1), (925, .iconst 2, 1), (926, .iadd, 1), (927, .iaload, 1), (928, .invokevirtual 214, 3), (931, .if_icmp .eq 1726, 3), (934, .iconst 0, 1), (935, .ireturn, 1), (936, .aload_n 1, 1), (937, .aload_n 0, 1), (938, .iload_n 3, 1), (939, .iconst 1, 1), (940, .iadd, 1), (941, .iaload, 1), (942, .invokevirtual 143, 3), (945, .aload_n 2, 1), (946, .aload_n 0, 1), (947, .iload_n 3, 1), (948, .iconst 1, 1), (949, .iadd, 1), (950, .iaload, 1), (951, .invokevirtual 215, 3), (954, .if_icmp .eq 1726, 3), (957, .iconst 0, 1), (958, .ireturn, 1), (959, .aload_n 1, 1), (960, .aload_n 0, 1), (961, .iload_n 3, 1), (962, .iconst 1, 1), (963, .iadd, 1), (964, .iaload, 1), (965, .aload_n 0, 1)])
def bL_18 : Nat × List (Nat × Instr × Nat) := (1008, [(966, .iload_n 3, 1), (967, .iconst 2, 1), (968, .iadd, 1), (969, .iaload, 1), (970, .invokevirtual 144, 3), (973, .aload_n 2, 1), (974, .aload_n 0, 1), (975, .iload_n 3, 1), (976, .iconst 1, 1), (977, .iadd, 1), (978, .iaload, 1), (979, .aload_n 0, 1), (980, .iload_n 3, 1), (981, .iconst 2, 1), (982, .iadd, 1), (983, .iaload, 1), (984, .invokevirtual 216, 3), (987, .if_icmp .eq 1726, 3), (990, .iconst 0, 1), (991, .ireturn, 1), (992, .aload_n 1, 1), (993, .aload_n 0, 1), (994, .iload_n 3, 1), (995, .iconst 1, 1), (996, .iadd, 1), (997, .iaload, 1), (998, .aload_n 0, 1), (999, .iload_n 3, 1), (1000, .iconst 2, 1), (1001, .iadd, 1), (1002, .iaload, 1), (1003, .aload_n 0, 1), (1004, .iload_n 3, 1), (1005, .iconst 3, 1), (1006, .iadd, 1), (1007, .iaload, 1), (1008, .invokevirtual 145, 3)])
def bL_19 : Nat × List (Nat × Instr × Nat) := (1051, [(1011, .aload_n 2, 1), (1012, .aload_n 0, 1), (1013, .iload_n 3, 1), (1014, .iconst 1, 1), (1015, .iadd, 1), (1016, .iaload, 1), (1017, .aload_n 0, 1), (1018, .iload_n 3, 1), (1019, .iconst 2, 1), (1020, .iadd, 1), (1021, .iaload, 1), (1022, .aload_n 0, 1), (1023, .iload_n 3, 1), (1024, .iconst 3, 1), (1025, .iadd, 1), (1026, .iaload, 1), (1027, .invokevirtual 217, 3), (1030, .if_icmp .eq 1726, 3), (1033, .iconst 0, 1), (1034, .ireturn, 1), (1035, .aload_n 1, 1), (1036, .aload_n 0, 1), (1037, .iload_n 3, 1), (1038, .iconst 1, 1), (1039, .iadd, 1), (1040, .iaload, 1), (1041, .aload_n 0, 1), (1042, .iload_n 3, 1), (1043, .iconst 2, 1), (1044, .iadd, 1), (1045, .iaload, 1), (1046, .aload_n 0, 1), (1047, .iload_n 3, 1), (1048, .iconst 3, 1), (1049, .iadd, 1), (1050, .iaload, 1), (1051, .invokevirtual 147, 3)])
def bL_20 : Nat × List (Nat × Instr × Nat) := (1094, [(1054, .aload_n 2, 1), (1055, .aload_n 0, 1), (1056, .iload_n 3, 1), (1057, .iconst 1, 1), (1058, .iadd, 1), (1059, .iaload, 1), (1060, .aload_n 0, 1), (1061, .iload_n 3, 1), (1062, .iconst 2, 1), (1063, .iadd, 1), (1064, .iaload, 1), (1065, .aload_n 0, 1), (1066, .iload_n 3, 1), (1067, .iconst 3, 1), (1068, .iadd, 1), (1069, .iaload, 1), (1070, .invokevirtual 218, 3), (1073, .if_icmp .eq 1726, 3), (1076, .iconst 0, 1), (1077, .ireturn, 1), (1078, .aload_n 1, 1), (1079, .aload_n 0, 1), (1080, .iload_n 3, 1), (1081, .iconst 1, 1), (1082, .iadd, 1), (1083, .iaload, 1), (1084, .aload_n 0, 1), (1085, .iload_n 3, 1), (1086, .iconst 2, 1), (1087, .iadd, 1), (1088, .iaload, 1), (1089, .aload_n 0, 1), (1090, .iload_n 3, 1), (1091, .iconst 3, 1), (1092, .iadd, 1), (1093, .iaload, 1), (1094, .invokevirtual 148, 3)])
def bL_21 : Nat × List (Nat × Instr × Nat) := (1143, [(1097, .aload_n 2, 1), (1098, .aload_n 0, 1), (1099, .iload_n 3, 1), (1100, .iconst 1, 1), (1101, .iadd, 1), (1102, .iaload, 1), (1103, .aload_n 0, 1), (1104, .iload_n 3, 1), (1105, .iconst 2, 1), (1106, .iadd, 1), (1107, .iaload, 1), (1108, .aload_n 0, 1), (1109, .iload_n 3, 1), (1110, .iconst 3, 1), (1111, .iadd, 1), (1112, .iaload, 1), (1113, .invokevirtual 219, 3), (1116, .if_icmp .eq 1726, 3), (1119, .iconst 0, 1), (1120, .ireturn, 1), (1121, .aload_n 1, 1), (1122, .invokevirtual 149, 3), (1125, .aload_n 2, 1), (1126, .invokevirtual 220, 3), (1129, .if_icmp .eq 1726, 3), (1132, .iconst 0, 1), (1133, .ireturn, 1), (1134, .aload_n 1, 1), (1135, .aload_n 0, 1), (1136, .iload_n 3, 1), (1137, .iconst 1, 1), (1138, .iadd, 1), (1139, .iaload, 1), (1140, .aload_n 0, 1), (1141, .iload_n 3, 1), (1142, .iconst 2, 1), (1143, .iadd, 1)])
def bL_22 : Nat × List (Nat × Instr × Nat) := (1193, [(1144, .iaload, 1), (1145, .invokevirtual 150, 3), (1148, .aload_n 2, 1), (1149, .aload_n 0, 1), (1150, .iload_n 3, 1), (1151, .iconst 1, 1), (1152, .iadd, 1), (1153, .iaload, 1), (1154, .aload_n 0, 1), (1155, .iload_n 3, 1), (1156, .iconst 2, 1), (1157, .iadd, 1), (1158, .iaload, 1), (1159, .invokevirtual 223, 3), (1162, .if_icmp .eq 1726, 3), (1165, .iconst 0, 1), (1166, .ireturn, 1), (1167, .aload_n 1, 1), (1168, .invokevirtual 151, 3), (1171, .aload_n 2, 1), (1172, .invokevirtual 224, 3), (1175, .if_icmp .eq 1726, 3), (1178, .iconst 0, 1), (1179, .ireturn, 1), (1180, .aload_n 1, 1), (1181, .aload_n 0, 1), (1182, .iload_n 3, 1), (1183, .iconst 1, 1), (1184, .iadd, 1), (1185, .iaload, 1), (1186, .i2l, 1), (1187, .bipush 32, 2), (1189, .lshl, 1), (1190, .aload_n 0, 1), (1191, .iload_n 3, 1), (1192, .iconst 2, 1), (1193, .iadd, 1)])
def bL_23 : Nat × List (Nat × Instr × Nat) := (1238, [(1194, .iaload, 1), (1195, .i2l, 1), (1196, .ldc2_w 4294967295, 3), (1199, .land, 1), (1200, .lor, 1), (1201, .aload_n 0, 1), (1202, .iload_n 3, 1), (1203, .iconst 3, 1), (1204, .iadd, 1), (1205, .iaload, 1), (1206, .i2l, 1), (1207, .bipush 32, 2), (1209, .lshl, 1), (1210, .aload_n 0, 1), (1211, .iload_n 3, 1), (1212, .iconst 4, 1), (1213, .iadd, 1), (1214, .iaload, 1), (1215, .i2l, 1), (1216, .ldc2_w 4294967295, 3), (1219, .land, 1), (1220, .lor, 1), (1221, .aload_n 0, 1), (1222, .iload_n 3, 1), (1223, .iconst 5, 1), (1224, .iadd, 1), (1225, .iaload, 1), (1226, .invokevirtual 152, 3), (1229, .aload_n 2, 1), (1230, .aload_n 0, 1), (1231, .iload_n 3, 1), (1232, .iconst 1, 1), (1233, .iadd, 1), (1234, .iaload, 1), (1235, .i2l, 1), (1236, .bipush 32, 2), (1238, .lshl, 1)])
def bL_24 : Nat × List (Nat × Instr × Nat) := (1284, [(1239, .aload_n 0, 1), (1240, .iload_n 3, 1), (1241, .iconst 2, 1), (1242, .iadd, 1), (1243, .iaload, 1), (1244, .i2l, 1), (1245, .ldc2_w 4294967295, 3), (1248, .land, 1), (1249, .lor, 1), (1250, .aload_n 0, 1), (1251, .iload_n 3, 1), (1252, .iconst 3, 1), (1253, .iadd, 1), (1254, .iaload, 1), (1255, .i2l, 1), (1256, .bipush 32, 2), (1258, .lshl, 1), (1259, .aload_n 0, 1), (1260, .iload_n 3, 1), (1261, .iconst 4, 1), (1262, .iadd, 1), (1263, .iaload, 1), (1264, .i2l, 1), (1265, .ldc2_w 4294967295, 3), (1268, .land, 1), (1269, .lor, 1), (1270, .aload_n 0, 1), (1271, .iload_n 3, 1), (1272, .iconst 5, 1), (1273, .iadd, 1), (1274, .iaload, 1), (1275, .invokevirtual 226, 3), (1278, .if_icmp .eq 1726, 3), (1281, .iconst 0, 1), (1282, .ireturn, 1), (1283, .aload_n 1, 1), (1284, .aload_n 0, 1)])
def bL_25 : Nat × List (Nat × Instr × Nat) := (1329, [(1285, .iload_n 3, 1), (1286, .iconst 1, 1), (1287, .iadd, 1), (1288, .iaload, 1), (1289, .aload_n 0, 1), (1290, .iload_n 3, 1), (1291, .iconst 2, 1), (1292, .iadd, 1), (1293, .iaload, 1), (1294, .invokevirtual 153, 3), (1297, .aload_n 2, 1), (1298, .aload_n 0, 1), (1299, .iload_n 3, 1), (1300, .iconst 1, 1), (1301, .iadd, 1), (1302, .iaload, 1), (1303, .aload_n 0, 1), (1304, .iload_n 3, 1), (1305, .iconst 2, 1), (1306, .iadd, 1), (1307, .iaload, 1), (1308, .invokevirtual 229, 3), (1311, .if_icmp .eq 1726, 3), (1314, .iconst 0, 1), (1315, .ireturn, 1), (1316, .aload_n 1, 1), (1317, .aload_n 0, 1), (1318, .iload_n 3, 1), (1319, .iconst 1, 1), (1320, .iadd, 1), (1321, .iaload, 1), (1322, .invokevirtual 154, 3), (1325, .aload_n 2, 1), (1326, .aload_n 0, 1), (1327, .iload_n 3, 1), (1328, .iconst 1, 1), (1329, .iadd, 1)])
def bL_26 : Nat × List (Nat × Instr × Nat) := (1376, [(1330, .iaload, 1), (1331, .invokevirtual 232, 3), (1334, .if_icmp .eq 1726, 3), (1337, .iconst 0, 1), (1338, .ireturn, 1), (1339, .aload_n 1, 1), (1340, .aload_n 0, 1), (1341, .iload_n 3, 1), (1342, .iconst 1, 1), (1343, .iadd, 1), (1344, .iaload, 1), (1345, .invokevirtual 155, 3), (1348, .aload_n 2, 1), (1349, .aload_n 0, 1), (1350, .iload_n 3, 1), (1351, .iconst 1, 1), (1352, .iadd, 1), (1353, .iaload, 1), (1354, .invokevirtual 233, 3), (1357, .if_icmp .eq 1726, 3), (1360, .iconst 0, 1), (1361, .ireturn, 1), (1362, .aload_n 1, 1), (1363, .aload_n 0, 1), (1364, .iload_n 3, 1), (1365, .iconst 1, 1), (1366, .iadd, 1), (1367, .iaload, 1), (1368, .aload_n 0, 1), (1369, .iload_n 3, 1), (1370, .iconst 2, 1), (1371, .iadd, 1), (1372, .iaload, 1), (1373, .aload_n 0, 1), (1374, .iload_n 3, 1), (1375, .iconst 3, 1), (1376, .iadd, 1)])
def bL_27 : Nat × List (Nat × Instr × Nat) := (1419, [(1377, .iaload, 1), (1378, .invokevirtual 156, 3), (1381, .aload_n 2, 1), (1382, .aload_n 0, 1), (1383, .iload_n 3, 1), (1384, .iconst 1, 1), (1385, .iadd, 1), (1386, .iaload, 1), (1387, .aload_n 0, 1), (1388, .iload_n 3, 1), (1389, .iconst 2, 1), (1390, .iadd, 1), (1391, .iaload, 1), (1392, .aload_n 0, 1), (1393, .iload_n 3, 1), (1394, .iconst 3, 1), (1395, .iadd, 1), (1396, .iaload, 1), (1397, .invokevirtual 235, 3), (1400, .if_icmp .eq 1726, 3), (1403, .iconst 0, 1), (1404, .ireturn, 1), (1405, .aload_n 1, 1), (1406, .aload_n 0, 1), (1407, .iload_n 3, 1), (1408, .iconst 1, 1), (1409, .iadd, 1), (1410, .iaload, 1), (1411, .aload_n 0, 1), (1412, .iload_n 3, 1), (1413, .iconst 2, 1), (1414, .iadd, 1), (1415, .iaload, 1), (1416, .aload_n 0, 1), (1417, .iload_n 3, 1), (1418, .iconst 3, 1), (1419, .iadd, 1)])
def bL_28 : Nat × List (Nat × Instr × Nat) := (1462, [(1420, .iaload, 1), (1421, .aload_n 0, 1), (1422, .iload_n 3, 1), (1423, .iconst 4, 1), (1424, .iadd, 1), (1425, .iaload, 1), (1426, .invokevirtual 157, 3), (1429, .aload_n 2, 1), (1430, .aload_n 0, 1), (1431, .iload_n 3, 1), (1432, .iconst 1, 1), (1433, .iadd, 1), (1434, .iaload, 1), (1435, .aload_n 0, 1), (1436, .iload_n 3, 1), (1437, .iconst 2, 1), (1438, .iadd, 1), (1439, .iaload, 1), (1440, .aload_n 0, 1), (1441, .iload_n 3, 1), (1442, .iconst 3, 1), (1443, .iadd, 1), (1444, .iaload, 1), (1445, .aload_n 0, 1), (1446, .iload_n 3, 1), (1447, .iconst 4, 1), (1448, .iadd, 1), (1449, .iaload, 1), (1450, .invokevirtual 236, 3), (1453, .if_icmp .eq 1726, 3), (1456, .iconst 0, 1), (1457, .ireturn, 1), (1458, .aload_n 1, 1), (1459, .aload_n 0, 1), (1460, .iload_n 3, 1), (1461, .iconst 1, 1), (1462, .iadd, 1)])
def bL_29 : Nat × List (Nat × Instr × Nat) := (1505, [(1463, .iaload, 1), (1464, .aload_n 0, 1), (1465, .iload_n 3, 1), (1466, .iconst 2, 1), (1467, .iadd, 1), (1468, .iaload, 1), (1469, .aload_n 0, 1), (1470, .iload_n 3, 1), (1471, .iconst 3, 1), (1472, .iadd, 1), (1473, .iaload, 1), (1474, .invokevirtual 158, 3), (1477, .aload_n 2, 1), (1478, .aload_n 0, 1), (1479, .iload_n 3, 1), (1480, .iconst 1, 1), (1481, .iadd, 1), (1482, .iaload, 1), (1483, .aload_n 0, 1), (1484, .iload_n 3, 1), (1485, .iconst 2, 1), (1486, .iadd, 1), (1487, .iaload, 1), (1488, .aload_n 0, 1), (1489, .iload_n 3, 1), (1490, .iconst 3, 1), (1491, .iadd, 1), (1492, .iaload, 1), (1493, .invokevirtual 240, 3), (1496, .if_icmp .eq 1726, 3), (1499, .iconst 0, 1), (1500, .ireturn, 1), (1501, .aload_n 1, 1), (1502, .aload_n 0, 1), (1503, .iload_n 3, 1), (1504, .iconst 1, 1), (1505, .iadd, 1)])
def bL_30 : Nat × List (Nat × Instr × Nat) := (1552, [(1506, .iaload, 1), (1507, .invokevirtual 159, 3), (1510, .aload_n 2, 1), (1511, .aload_n 0, 1), (1512, .iload_n 3, 1), (1513, .iconst 1, 1), (1514, .iadd, 1), (1515, .iaload, 1), (1516, .invokevirtual 241, 3), (1519, .if_icmp .eq 1726, 3), (1522, .iconst 0, 1), (1523, .ireturn, 1), (1524, .aload_n 1, 1), (1525, .aload_n 0, 1), (1526, .iload_n 3, 1), (1527, .iconst 1, 1), (1528, .iadd, 1), (1529, .iaload, 1), (1530, .aload_n 0, 1), (1531, .iload_n 3, 1), (1532, .iconst 2, 1), (1533, .iadd, 1), (1534, .iaload, 1), (1535, .invokevirtual 162, 3), (1538, .aload_n 2, 1), (1539, .aload_n 0, 1), (1540, .iload_n 3, 1), (1541, .iconst 1, 1), (1542, .iadd, 1), (1543, .iaload, 1), (1544, .aload_n 0, 1), (1545, .iload_n 3, 1), (1546, .iconst 2, 1), (1547, .iadd, 1), (1548, .iaload, 1), (1549, .invokevirtual 242, 3), (1552, .if_icmp .eq 1726, 3)])
def bL_31 : Nat × List (Nat × Instr × Nat) := (1595, [(1555, .iconst 0, 1), (1556, .ireturn, 1), (1557, .aload_n 1, 1), (1558, .aload_n 0, 1), (1559, .iload_n 3, 1), (1560, .iconst 1, 1), (1561, .iadd, 1), (1562, .iaload, 1), (1563, .aload_n 0, 1), (1564, .iload_n 3, 1), (1565, .iconst 2, 1), (1566, .iadd, 1), (1567, .iaload, 1), (1568, .aload_n 0, 1), (1569, .iload_n 3, 1), (1570, .iconst 3, 1), (1571, .iadd, 1), (1572, .iaload, 1), (1573, .invokevirtual 163, 3), (1576, .aload_n 2, 1), (1577, .aload_n 0, 1), (1578, .iload_n 3, 1), (1579, .iconst 1, 1), (1580, .iadd, 1), (1581, .iaload, 1), (1582, .aload_n 0, 1), (1583, .iload_n 3, 1), (1584, .iconst 2, 1), (1585, .iadd, 1), (1586, .iaload, 1), (1587, .aload_n 0, 1), (1588, .iload_n 3, 1), (1589, .iconst 3, 1), (1590, .iadd, 1), (1591, .iaload, 1), (1592, .invokevirtual 243, 3), (1595, .if_icmp .eq 1726, 3)])
def bL_32 : Nat × List (Nat × Instr × Nat) := (1636, [(1598, .iconst 0, 1), (1599, .ireturn, 1), (1600, .aload_n 1, 1), (1601, .aload_n 0, 1), (1602, .iload_n 3, 1), (1603, .iconst 1, 1), (1604, .iadd, 1), (1605, .iaload, 1), (1606, .aload_n 0, 1), (1607, .iload_n 3, 1), (1608, .iconst 2, 1), (1609, .iadd, 1), (1610, .iaload, 1), (1611, .aload_n 0, 1), (1612, .iload_n 3, 1), (1613, .iconst 3, 1), (1614, .iadd, 1), (1615, .iaload, 1), (1616, .aload_n 0, 1), (1617, .iload_n 3, 1), (1618, .iconst 4, 1), (1619, .iadd, 1), (1620, .iaload, 1), (1621, .aload_n 0, 1), (1622, .iload_n 3, 1), (1623, .iconst 5, 1), (1624, .iadd, 1), (1625, .iaload, 1), (1626, .invokevirtual 164, 3), (1629, .aload_n 2, 1), (1630, .aload_n 0, 1), (1631, .iload_n 3, 1), (1632, .iconst 1, 1), (1633, .iadd, 1), (1634, .iaload, 1), (1635, .aload_n 0, 1), (1636, .iload_n 3, 1)])
def bL_33 : Nat × List (Nat × Instr × Nat) := (1677, [(1637, .iconst 2, 1), (1638, .iadd, 1), (1639, .iaload, 1), (1640, .aload_n 0, 1), (1641, .iload_n 3, 1), (1642, .iconst 3, 1), (1643, .iadd, 1), (1644, .iaload, 1), (1645, .aload_n 0, 1), (1646, .iload_n 3, 1), (1647, .iconst 4, 1), (1648, .iadd, 1), (1649, .iaload, 1), (1650, .aload_n 0, 1), (1651, .iload_n 3, 1), (1652, .iconst 5, 1), (1653, .iadd, 1), (1654, .iaload, 1), (1655, .invokevirtual 244, 3), (1658, .if_icmp .eq 1726, 3), (1661, .iconst 0, 1), (1662, .ireturn, 1), (1663, .aload_n 1, 1), (1664, .aload_n 0, 1), (1665, .iload_n 3, 1), (1666, .iconst 1, 1), (1667, .iadd, 1), (1668, .iaload, 1), (1669, .aload_n 0, 1), (1670, .iload_n 3, 1), (1671, .iconst 2, 1), (1672, .iadd, 1), (1673, .iaload, 1), (1674, .aload_n 0, 1), (1675, .iload_n 3, 1), (1676, .iconst 3, 1), (1677, .iadd, 1)])
def bL_34 : Nat × List (Nat × Instr × Nat) := (1716, [(1678, .iaload, 1), (1679, .aload_n 0, 1), (1680, .iload_n 3, 1), (1681, .iconst 4, 1), (1682, .iadd, 1), (1683, .iaload, 1), (1684, .aload_n 0, 1), (1685, .iload_n 3, 1), (1686, .iconst 5, 1), (1687, .iadd, 1), (1688, .iaload, 1), (1689, .invokevirtual 165, 3), (1692, .aload_n 2, 1), (1693, .aload_n 0, 1), (1694, .iload_n 3, 1), (1695, .iconst 1, 1), (1696, .iadd, 1), (1697, .iaload, 1), (1698, .aload_n 0, 1), (1699, .iload_n 3, 1), (1700, .iconst 2, 1), (1701, .iadd, 1), (1702, .iaload, 1), (1703, .aload_n 0, 1), (1704, .iload_n 3, 1), (1705, .iconst 3, 1), (1706, .iadd, 1), (1707, .iaload, 1), (1708, .aload_n 0, 1), (1709, .iload_n 3, 1), (1710, .iconst 4, 1), (1711, .iadd, 1), (1712, .iaload, 1), (1713, .aload_n 0, 1), (1714, .iload_n 3, 1), (1715, .iconst 5, 1), (1716, .iadd, 1)])
def bL_35 : Nat × List (Nat × Instr × Nat) := (1733, [(1717, .iaload, 1), (1718, .invokevirtual 245, 3), (1721, .if_icmp .eq 1726, 3), (1724, .iconst 0, 1), (1725, .ireturn, 1), (1726, .iinc 3 7, 3), (1729, .goto 18, 3), (1732, .iconst 1, 1), (1733, .ireturn, 1)])
def m_L_law : qT := ((16, yL_law, cL_law, 4, (some .boolean)), (1, 600000, 7302250, false), [bL_0, bL_1, bL_2, bL_3, bL_4, bL_5, bL_6, bL_7, bL_8, bL_9, bL_10, bL_11, bL_12, bL_13, bL_14, bL_15, bL_16, bL_17, bL_18, bL_19, bL_20, bL_21, bL_22, bL_23, bL_24, bL_25, bL_26, bL_27, bL_28, bL_29, bL_30, bL_31, bL_32, bL_33, bL_34, bL_35])
def qAll : List qT := [m_X0_init, m_X0_size, m_X0_limit, m_X0_put, m_X0_drop, m_X0_settle, m_X0_settleBy, m_X0_tighten, m_X0_earliest, m_X0_latest, m_X0_clashing, m_X1_init, m_X1_allowance, m_X1_mark, m_X1_neighbour, m_X1_setNeighbour, m_X1_tell, m_X1_tellTolerance, m_X1_sum, m_X1_bestOf, m_X1_tie, m_X1_leadsTo, m_X1_untieRight, m_X1_ties, m_X2_init, m_X2_make, m_X2_isSpent, m_X2_made, m_X2_takeWord, m_X2_takeMark, m_X2_open, m_X2_close, m_X2_takeBar, m_X2_takePoint, m_X2_startLevel, m_X2_startRow, m_X2_appendPiece, m_X2_endRow, m_X3_init, m_X3_clear, m_X3_size, m_X3_byteAt, m_X3_parsedAt, m_X3_put, m_X3_write, m_X3_enclose, m_X3_shown, m_X3_letterShown, m_X3_parse, m_X3_bareReading, m_X4_init, m_X4_isWord, m_X4_put, m_X4_size, m_X4_has, m_X4_mayBeOne, m_X4_sort, m_X4_belongs, m_X4_groupOf, m_X4_fatherOf, m_X4_isAhead, m_X5_init, m_X5_told, m_X5_packed, m_X5_kindOf, m_X5_mayOf, m_X5_isUnder, m_X5_putHand, m_X5_hands, m_X5_hasHand, m_X5_index, m_X5_at, m_X5_put, m_X5_leader, m_X5_leading, m_X5_dissenters, m_X6_init, m_X6_put, m_X6_size, m_X6_has, m_X6_hasLine, m_X6_hasPlace, m_X6_linesOf, m_X6_placesOf, m_X7_init, m_X7_clear, m_X7_add, m_X7_isWay, m_X7_letterOn, m_X7_countWays, m_X7_findWay, m_X7_carryNothing, m_X7_carry, m_X7_carriedAt, m_X8_init, m_X8_append, m_X8_clear, m_X8_size, m_X8_byteAt, m_X8_lettersFrom, m_X8_letterOf, m_X9_init, m_X9_clear, m_X9_size, m_X9_head, m_X9_tail, m_X9_letter, m_X9_codeAt, m_X9_lengthOf, m_X9_add, m_X9_addAll, m_X9_addPairs, m_X9_addPair, m_X9_copy, m_X10_init, m_X10_has, m_X10_isMissing, m_X10_sizeOf, m_X10_put, m_X10_set, m_X10_byteAt, m_X11_init, m_X11_stone, m_X11_hand, m_X11_read, m_X11_forget, m_X11_sign, m_X11_feed, m_X11_formula, m_X11_texts, m_X11_text, m_X11_ways, m_X11_way, m_X11_carried, m_X11_fits, m_X11_textsOf, m_X11_layBare, m_X11_layBareMore, m_X11_edge, m_X11_tolerance, m_X11_room, m_X11_best, m_X11_join, m_X11_part, m_X11_joined, m_X11_whole, m_X11_isSide, m_X11_years, m_X11_bound, m_X11_loose, m_X11_span, m_X11_clash, m_X11_person, m_X11_one, m_X11_group, m_X11_father, m_X11_print, m_X11_printed, m_X11_back, m_X11_count, m_X11_isFormulaOrNone, m_X11_setPage, m_X11_tray, m_X11_cell, m_X11_lay, m_X11_taken, m_X12_init, m_X12_isIn, m_X12_isStone, m_X12_isLine, m_X12_isPlace, m_X12_at, m_X12_stone, m_X12_hand, m_X12_reads, m_X12_read, m_X12_forget, m_X12_handOf, m_X12_kindOf, m_X12_mayOf, m_X12_sign, m_X12_feed, m_X12_isLetter, m_X12_token, m_X12_faults, m_X12_isAlike, m_X12_keeps, m_X12_copies, m_X12_all, m_X12_row, m_X12_joins, m_X12_piece, m_X12_isAhead, m_X12_formula, m_X12_isFormula, m_X12_texts, m_X12_told, m_X12_text, m_X12_letterAt, m_X12_goes, m_X12_waysOf, m_X12_ways, m_X12_way, m_X12_carriedOf, m_X12_carried, m_X12_fits, m_X12_edgeAt, m_X12_parts, m_X12_edge, m_X12_tolerance, m_X12_roomOf, m_X12_room, m_X12_bestOf, m_X12_best, m_X12_join, m_X12_part, m_X12_joined, m_X12_whole, m_X12_years, m_X12_bound, m_X12_loose, m_X12_clashes, m_X12_clashAll, m_X12_span, m_X12_clash, m_X12_isWord, m_X12_person, m_X12_mayBeOne, m_X12_isPerson, m_X12_one, m_X12_findGroups, m_X12_joinsGroup, m_X12_group, m_X12_father, m_X12_prints, m_X12_print, m_X12_printed, m_X12_isSign, m_X12_bitOf, m_X12_backs, m_X12_back, m_X12_count, m_X12_tray, m_X12_cell, m_X12_lay, m_X12_taken, m_J6_bitCount_0f7a4, m_J13_bitCount_95d88, m_J7_rangeCheck_23922, m_J7_fill_53178, m_J7_fill_eb02e, m_L_law]
end
section
/-! THE PLAIN MACHINE: cells by number; what holds ahead of a method's way, as a proposition. 0: the script, 1: the table of kinds; from 2 on the cells in the order in which they come. -/
/-- how many cells there are (from 2 on), the sizes of the rows of no fixed size, the whole numbers, the longs, the references -/
abbrev qM : Type := Nat × (Nat → Nat) × (Nat → Nat → Int32) × (Nat → Nat → Int64) × (Nat → Nat → Option Nat)
abbrev qP : Type := Option Value → qM → Prop
abbrev qC : Type := Nat → List Value → qM → qP → Prop
abbrev qX : Type := Nat → List (Nat × Value) → List Value → Nat → Nat → qM → Prop
def qOc (T : qT) : Nat := T.1.1
def qY (T : qT) : MethodName := T.1.2.1
def qB (T : qT) : ByteArray := T.1.2.2.1
def qLo (T : qT) : Nat := T.1.2.2.2.1
def qRt (T : qT) : Option FieldType := T.1.2.2.2.2
def qNa (T : qT) : Nat := T.2.1.1
def qMc (T : qT) : Nat := T.2.1.2.1
def qMs (T : qT) : Nat := T.2.1.2.2.1
def qPh (T : qT) : Bool := T.2.1.2.2.2
def qBl (T : qT) : List (Nat × List (Nat × Instr × Nat)) := T.2.2
def qTab (j : Nat) : qT := qAll.getD j m_X0_init
def qFind : List (Nat × Instr × Nat) → Nat → Option (Instr × Nat)
  | [], _ => none
  | (p, x) :: r, pc => bif Nat.beq p pc then some x else qFind r pc
def qFindB : List (Nat × List (Nat × Instr × Nat)) → Nat → Option (Instr × Nat)
  | [], _ => none
  | (e, b) :: r, pc => bif Nat.ble pc e then qFind b pc else qFindB r pc
/-- the kind of a cell: 0 .. 12 an object of that class, 13 bytes, 14 ints, 15 longs, 16 booleans, 17 references, 18 ints that nobody writes -/
def qK (k : Nat) : Nat := bif Nat.ble qBase k then (bif Nat.beq ((k - qBase) % 2) 0 then 9 else 15) else qKl.getD k 99
def qSz (k : Nat) : Option Nat := qSl.getD k none
def qLen (N : Nat → Nat) (k : Nat) : Nat := match qSz k with
  | some n => n
  | none => N k
def qNf (ci : Nat) : Nat := (qTfl.getD ci []).length
def qTf (ci f : Nat) : Nat := (qTfl.getD ci []).getD f 0
/-- the reference fields that are set once and for all -/
def qG (k f : Nat) : Option Nat := bif Nat.beq (qK k) 9 then (bif Nat.beq f 0 then some (k + 1) else none) else (qGl.getD (qK k) []).getD f none
def qStat (M : qM) : Prop := qBase ≤ M.1 + 2 ∧ ∀ k : Nat, k < M.1 + 2 → ∀ f c : Nat, qG k f = some c → M.2.2.2.2 k f = some c
def q2 {α : Type} (f : Nat → Nat → α) (a j : Nat) (v : α) : Nat → Nat → α := fun b i => if b = a then (if i = j then v else f b i) else f b i
def qRow {α : Type} (f : Nat → Nat → α) (a : Nat) (g : Nat → α) : Nat → Nat → α := fun b => if b = a then g else f b
def qUp (f : Nat → Nat) (a v : Nat) : Nat → Nat := fun b => if b = a then v else f b
def qIs (a ci : Nat) (k : Prop) : Prop := match Nat.beq (qK a) ci with
  | true => k
  | false => False
/-- the cell is there: told by its number alone where all stand -/
def qIn (ph : Bool) (a : Nat) (M : qM) (k : Prop) : Prop := match (ph && Nat.blt a qBase) with
  | true => k
  | false => a < M.1 + 2 ∧ k
def qIf (b : Bool) (k : Prop) : Prop := match b with
  | true => k
  | false => False
/-! locals -/
def qLk : List (Nat × Value) → Nat → Option Value
  | [], _ => none
  | (i, v) :: r, k => bif Nat.beq i k then some v else qLk r k
def qC2 : Value → Bool
  | .long _ => true
  | .double _ => true
  | _ => false
def qRm1 (k : Nat) : List (Nat × Value) → List (Nat × Value)
  | [] => []
  | (i, v) :: r => bif (Nat.beq i k || (Nat.beq (i + 1) k && qC2 v)) then qRm1 k r else (i, v) :: qRm1 k r
def qRm2 (k : Nat) : List (Nat × Value) → List (Nat × Value)
  | [] => []
  | (i, v) :: r => bif (Nat.beq i k || (Nat.beq i (k + 1) || (Nat.beq (i + 1) k && qC2 v))) then qRm2 k r else (i, v) :: qRm2 k r
def qLdI (ls : List (Nat × Value)) (k : Nat) (f : Int32 → Prop) : Prop := match qLk ls k with
  | some (.int x) => f x
  | _ => False
def qLdL (ls : List (Nat × Value)) (k : Nat) (f : Int64 → Prop) : Prop := match qLk ls k with
  | some (.long x) => f x
  | _ => False
def qLdA (ls : List (Nat × Value)) (k : Nat) (f : Value → Prop) : Prop := match qLk ls k with
  | some (.ref a) => f (.ref a)
  | some .null => f .null
  | _ => False
/-! what lies on the stack -/
def qI1 (st : List Value) (f : Int32 → List Value → Prop) : Prop := match st with
  | .int x :: r => f x r
  | _ => False
def qI2 (st : List Value) (f : Int32 → Int32 → List Value → Prop) : Prop := match st with
  | .int y :: .int x :: r => f x y r
  | _ => False
def qL1 (st : List Value) (f : Int64 → List Value → Prop) : Prop := match st with
  | .long x :: r => f x r
  | _ => False
def qL2 (st : List Value) (f : Int64 → Int64 → List Value → Prop) : Prop := match st with
  | .long y :: .long x :: r => f x y r
  | _ => False
def qLI (st : List Value) (f : Int64 → Int32 → List Value → Prop) : Prop := match st with
  | .int y :: .long x :: r => f x y r
  | _ => False
def qA1 (st : List Value) (f : Nat → List Value → Prop) : Prop := match st with
  | .ref a :: r => f a r
  | _ => False
def qAn (st : List Value) (g : List Value → Prop) (f : Nat → List Value → Prop) : Prop := match st with
  | .ref a :: r => f a r
  | .null :: r => g r
  | _ => False
def qAI (st : List Value) (f : Nat → Int32 → List Value → Prop) : Prop := match st with
  | .int i :: .ref a :: r => f a i r
  | _ => False
def qAII (st : List Value) (f : Nat → Int32 → Int32 → List Value → Prop) : Prop := match st with
  | .int x :: .int i :: .ref a :: r => f a i x r
  | _ => False
def qAIL (st : List Value) (f : Nat → Int32 → Int64 → List Value → Prop) : Prop := match st with
  | .long x :: .int i :: .ref a :: r => f a i x r
  | _ => False
def qAIA (st : List Value) (f : Nat → Int32 → Option Nat → List Value → Prop) : Prop := match st with
  | .ref v :: .int i :: .ref a :: r => f a i (some v) r
  | .null :: .int i :: .ref a :: r => f a i none r
  | _ => False
def qIA (st : List Value) (f : Nat → Int32 → List Value → Prop) : Prop := match st with
  | .int x :: .ref a :: r => f a x r
  | _ => False
def qVA (st : List Value) (f : Nat → Option Nat → List Value → Prop) : Prop := match st with
  | .ref v :: .ref a :: r => f a (some v) r
  | .null :: .ref a :: r => f a none r
  | _ => False
def qCp (st : List Value) (f : Nat → Int32 → Nat → Int32 → Int32 → List Value → Prop) : Prop := match st with
  | .int n :: .int dp :: .ref d :: .int sp :: .ref s :: r => f s sp d dp n r
  | _ => False
def qCat : List Value → Nat
  | [] => 0
  | v :: r => qCat r + (bif qC2 v then 2 else 1)
def qTake : Nat → List Value → List Value → (List Value → List Value → Prop) → Prop
  | 0, acc, st, k => k acc st
  | n + 1, acc, v :: st, k => qTake n (v :: acc) st k
  | _ + 1, _, [], _ => False
def qTabs (x : Int32) (X : Nat → Prop) : Int → List Int → Prop
  | _, [] => True
  | lo, t :: r => (x.toInt = lo → X t.toNat) ∧ qTabs x X (lo + 1) r
def qLks (x : Int32) (X : Nat → Prop) (d : Int) : List (Int × Int) → Prop
  | [] => X d.toNat
  | (k, t) :: r => (x.toInt = k → X t.toNat) ∧ (¬ x.toInt = k → qLks x X d r)
def qPhCall (T T' : qT) (M : qM) (k : Prop) : Prop := match (!(qPh T) && qPh T') with
  | true => qStat M ∧ k
  | false => k
def qPhBack (T T' : qT) (M : qM) (k : Prop) : Prop := match (qPh T && !(qPh T')) with
  | true => qStat M ∧ k
  | false => k
def qMath (j : Nat) (st : List Value) (k : Int32 → List Value → Prop) : Prop := match Nat.beq j 9993 with
  | true => qI1 st fun x r => qIf (Nat.ble (qCat r) 8) (k (if 0 ≤ x then x else 0 - x) r)
  | false => match Nat.beq j 9992 with
    | true => qI2 st fun x y r => qIf (Nat.ble (qCat r) 8) (k (if y < x then y else x) r)
    | false => match Nat.beq j 9991 with
      | true => qI2 st fun x y r => qIf (Nat.ble (qCat r) 8) (k (if x < y then y else x) r)
      | false => False
def qRefs (m : Nat) : List Value → Prop
  | [] => True
  | .ref r :: l => r < m ∧ qRefs m l
  | .int _ :: l => qRefs m l
  | .long _ :: l => qRefs m l
  | .float _ :: l => qRefs m l
  | .double _ :: l => qRefs m l
  | .null :: l => qRefs m l
  | .retAddr _ :: l => qRefs m l
def qRfOk (m : Nat) : Option Nat → Prop
  | some b => b < m
  | none => True
def qMake (T' : qT) (m : Nat) (ls : List (Nat × Value)) (st : List Value) (k : Prop) : Prop := match Nat.beq (qMc T') 0 with
  | true => k
  | false => (qRefs m st ∧ qRefs m (ls.map Prod.snd)) ∧ k
/-- a call of a method of ours: its words, its room, its own way, and on behind it -/
def qCall (T : qT) (cs : qC) (j : Nat) (as : List Value) (ls : List (Nat × Value)) (rest : List Value) (M : qM) (uc us : Nat) (X : List Value → Nat → Nat → qM → Prop) : Prop :=
  qIf (Nat.ble (qCat rest) 8) (qMake (qTab j) (M.1 + 2) ls rest (qPhCall T (qTab j) M ((uc + qMc (qTab j) ≤ qMc T ∧ us + qMs (qTab j) ≤ qMs T) ∧
    cs j as M (fun r M' => qPhBack T (qTab j) M' (X (r.toList ++ rest) (uc + qMc (qTab j)) (us + qMs (qTab j)) M')))))
end
section
/-- one instruction -/
def qStep (T : qT) (cs : qC) (Q : qP) (X : qX) (pc : Nat) (ls : List (Nat × Value)) (st : List Value) (uc us : Nat) (M : qM) : Prop :=
  match qFindB (qBl T) pc with
  | none => False
  | some (ins, len) =>
  match ins with
  | .iconst n => X (pc + len) ls (.int (Int32.ofInt n) :: st) uc us M
  | .bipush n => X (pc + len) ls (.int (Int32.ofInt n) :: st) uc us M
  | .sipush n => X (pc + len) ls (.int (Int32.ofInt n) :: st) uc us M
  | .lconst n => X (pc + len) ls (.long (Int64.ofNat n.val) :: st) uc us M
  | .ldc n => X (pc + len) ls (.int (Int32.ofNat n) :: st) uc us M
  | .ldc_w n => X (pc + len) ls (.int (Int32.ofNat n) :: st) uc us M
  | .ldc2_w n => X (pc + len) ls (.long (Int64.ofNat n) :: st) uc us M
  | .aconst_null => X (pc + len) ls (.null :: st) uc us M
  | .iload k => qLdI ls k fun x => X (pc + len) ls (.int x :: st) uc us M
  | .iload_n k => qLdI ls k.val fun x => X (pc + len) ls (.int x :: st) uc us M
  | .lload k => qLdL ls k fun x => X (pc + len) ls (.long x :: st) uc us M
  | .lload_n k => qLdL ls k.val fun x => X (pc + len) ls (.long x :: st) uc us M
  | .aload k => qLdA ls k fun v => X (pc + len) ls (v :: st) uc us M
  | .aload_n k => qLdA ls k.val fun v => X (pc + len) ls (v :: st) uc us M
  | .istore k => qI1 st fun x r => X (pc + len) ((k, .int x) :: qRm1 k ls) r uc us M
  | .istore_n k => qI1 st fun x r => X (pc + len) ((k.val, .int x) :: qRm1 k.val ls) r uc us M
  | .lstore k => qL1 st fun x r => X (pc + len) ((k, .long x) :: qRm2 k ls) r uc us M
  | .lstore_n k => qL1 st fun x r => X (pc + len) ((k.val, .long x) :: qRm2 k.val ls) r uc us M
  | .astore k => qAn st (fun r => X (pc + len) ((k, .null) :: qRm1 k ls) r uc us M) fun a r => X (pc + len) ((k, .ref a) :: qRm1 k ls) r uc us M
  | .astore_n k => qAn st (fun r => X (pc + len) ((k.val, .null) :: qRm1 k.val ls) r uc us M) fun a r => X (pc + len) ((k.val, .ref a) :: qRm1 k.val ls) r uc us M
  | .iinc k n => qLdI ls k fun x => X (pc + len) ((k, .int (x + Int32.ofInt n)) :: qRm1 k ls) st uc us M
  | .dup => match st with
    | v :: r => qIf (!(qC2 v)) (X (pc + len) ls (v :: v :: r) uc us M)
    | [] => False
  | .pop => match st with
    | v :: r => qIf (!(qC2 v)) (X (pc + len) ls r uc us M)
    | [] => False
  | .iadd => qI2 st fun x y r => X (pc + len) ls (.int (x + y) :: r) uc us M
  | .isub => qI2 st fun x y r => X (pc + len) ls (.int (x - y) :: r) uc us M
  | .imul => qI2 st fun x y r => X (pc + len) ls (.int (x * y) :: r) uc us M
  | .iand => qI2 st fun x y r => X (pc + len) ls (.int (x &&& y) :: r) uc us M
  | .ior => qI2 st fun x y r => X (pc + len) ls (.int (x ||| y) :: r) uc us M
  | .ixor => qI2 st fun x y r => X (pc + len) ls (.int (x ^^^ y) :: r) uc us M
  | .ishl => qI2 st fun x y r => X (pc + len) ls (.int (x <<< (y &&& 31)) :: r) uc us M
  | .ishr => qI2 st fun x y r => X (pc + len) ls (.int (x >>> (y &&& 31)) :: r) uc us M
  | .iushr => qI2 st fun x y r => X (pc + len) ls (.int (x.toUInt32 >>> (y.toUInt32 &&& Int32.toUInt32 31)).toInt32 :: r) uc us M
  | .idiv => qI2 st fun x y r => ¬ y = 0 ∧ X (pc + len) ls (.int (x / y) :: r) uc us M
  | .ineg => qI1 st fun x r => X (pc + len) ls (.int (-x) :: r) uc us M
  | .ladd => qL2 st fun x y r => X (pc + len) ls (.long (x + y) :: r) uc us M
  | .lsub => qL2 st fun x y r => X (pc + len) ls (.long (x - y) :: r) uc us M
  | .land => qL2 st fun x y r => X (pc + len) ls (.long (x &&& y) :: r) uc us M
  | .lor => qL2 st fun x y r => X (pc + len) ls (.long (x ||| y) :: r) uc us M
  | .ldiv => qL2 st fun x y r => ¬ y = 0 ∧ X (pc + len) ls (.long (x / y) :: r) uc us M
  | .lrem => qL2 st fun x y r => ¬ y = 0 ∧ X (pc + len) ls (.long (x - x / y * y) :: r) uc us M
  | .lneg => qL1 st fun x r => X (pc + len) ls (.long (-x) :: r) uc us M
  | .lshl => qLI st fun x y r => X (pc + len) ls (.long (x <<< (y.toInt64 &&& 63)) :: r) uc us M
  | .lshr => qLI st fun x y r => X (pc + len) ls (.long (x >>> (y.toInt64 &&& 63)) :: r) uc us M
  | .lushr => qLI st fun x y r => X (pc + len) ls (.long (x.toUInt64 >>> (y.toInt64.toUInt64 &&& Int64.toUInt64 63)).toInt64 :: r) uc us M
  | .lcmp => qL2 st fun x y r => X (pc + len) ls (.int (lg_cmp x y) :: r) uc us M
  | .i2l => qI1 st fun x r => X (pc + len) ls (.long x.toInt64 :: r) uc us M
  | .l2i => qL1 st fun x r => X (pc + len) ls (.int x.toInt32 :: r) uc us M
  | .i2b => qI1 st fun x r => X (pc + len) ls (.int x.toInt8.toInt32 :: r) uc us M
  | .goto t => X t.toNat ls st uc us M
  | .ifCond .eq t => qI1 st fun x r => (x = 0 → X t.toNat ls r uc us M) ∧ (¬ x = 0 → X (pc + len) ls r uc us M)
  | .ifCond .ne t => qI1 st fun x r => (¬ x = 0 → X t.toNat ls r uc us M) ∧ (x = 0 → X (pc + len) ls r uc us M)
  | .ifCond .lt t => qI1 st fun x r => (x < 0 → X t.toNat ls r uc us M) ∧ (¬ x < 0 → X (pc + len) ls r uc us M)
  | .ifCond .ge t => qI1 st fun x r => (0 ≤ x → X t.toNat ls r uc us M) ∧ (¬ 0 ≤ x → X (pc + len) ls r uc us M)
  | .ifCond .gt t => qI1 st fun x r => (0 < x → X t.toNat ls r uc us M) ∧ (¬ 0 < x → X (pc + len) ls r uc us M)
  | .ifCond .le t => qI1 st fun x r => (x ≤ 0 → X t.toNat ls r uc us M) ∧ (¬ x ≤ 0 → X (pc + len) ls r uc us M)
  | .if_icmp .eq t => qI2 st fun x y r => (x = y → X t.toNat ls r uc us M) ∧ (¬ x = y → X (pc + len) ls r uc us M)
  | .if_icmp .ne t => qI2 st fun x y r => (¬ x = y → X t.toNat ls r uc us M) ∧ (x = y → X (pc + len) ls r uc us M)
  | .if_icmp .lt t => qI2 st fun x y r => (x < y → X t.toNat ls r uc us M) ∧ (¬ x < y → X (pc + len) ls r uc us M)
  | .if_icmp .ge t => qI2 st fun x y r => (y ≤ x → X t.toNat ls r uc us M) ∧ (¬ y ≤ x → X (pc + len) ls r uc us M)
  | .if_icmp .gt t => qI2 st fun x y r => (y < x → X t.toNat ls r uc us M) ∧ (¬ y < x → X (pc + len) ls r uc us M)
  | .if_icmp .le t => qI2 st fun x y r => (x ≤ y → X t.toNat ls r uc us M) ∧ (¬ x ≤ y → X (pc + len) ls r uc us M)
  | .ifnull t => qAn st (fun r => X t.toNat ls r uc us M) fun _ r => X (pc + len) ls r uc us M
  | .ifnonnull t => qAn st (fun r => X (pc + len) ls r uc us M) fun _ r => X t.toNat ls r uc us M
  | .tableswitch d lo hi ts => qI1 st fun x r => (x.toInt < lo ∨ hi < x.toInt → X d.toNat ls r uc us M) ∧ qTabs x (fun t => X t ls r uc us M) lo ts.toList
  | .lookupswitch d ps => qI1 st fun x r => qLks x (fun t => X t ls r uc us M) d ps.toList
  | .getstatic _ => X (pc + len) ls (.ref 1 :: st) uc us M
  | .getfield c => qA1 st fun a r => qIs a (c / 100) (qIn (qPh T) a M (match qTf (c / 100) (c % 100) with
      | 2 => (match (bif qPh T then qG a (c % 100) else none) with
        | some b => X (pc + len) ls (.ref b :: r) uc us M
        | none => ∃ v : Option Nat, M.2.2.2.2 a (c % 100) = v ∧ X (pc + len) ls (va_rf v :: r) uc us M)
      | _ => X (pc + len) ls (.int (M.2.2.1 a (c % 100)) :: r) uc us M))
  | .putfield c => match qTf (c / 100) (c % 100) with
    | 2 => qVA st fun a v r => qIs a (c / 100) (qIn (qPh T) a M (qIf (!(qPh T) || !((qG a (c % 100)).isSome)) (qRfOk (M.1 + 2) v ∧ X (pc + len) ls r uc us (M.1, M.2.1, M.2.2.1, M.2.2.2.1, q2 M.2.2.2.2 a (c % 100) v))))
    | 1 => qIA st fun a x r => qIs a (c / 100) (qIn (qPh T) a M ((x = 0 ∨ x = 1) ∧ X (pc + len) ls r uc us (M.1, M.2.1, q2 M.2.2.1 a (c % 100) x, M.2.2.2.1, M.2.2.2.2)))
    | _ => qIA st fun a x r => qIs a (c / 100) (qIn (qPh T) a M (X (pc + len) ls r uc us (M.1, M.2.1, q2 M.2.2.1 a (c % 100) x, M.2.2.2.1, M.2.2.2.2)))
  | .arraylength => qA1 st fun a r => match Nat.blt a 2 with
    | true => X (pc + len) ls (.int (Int32.ofNat (qLen M.2.1 a)) :: r) uc us M
    | false => qIf (Nat.ble 13 (qK a)) (qIn (qPh T) a M (X (pc + len) ls (.int (Int32.ofNat (qLen M.2.1 a)) :: r) uc us M))
  | .iaload => qAI st fun a i r => match Nat.blt a 2 with
    | true => vp_in i (qLen M.2.1 a) ∧ X (pc + len) ls (.int (M.2.2.1 a i.toNatClampNeg) :: r) uc us M
    | false => qIs a 14 (qIn (qPh T) a M (vp_in i (qLen M.2.1 a) ∧ X (pc + len) ls (.int (M.2.2.1 a i.toNatClampNeg) :: r) uc us M))
  | .baload => qAI st fun a i r => match Nat.beq (qK a) 16 with
    | true => qIn (qPh T) a M (vp_in i (qLen M.2.1 a) ∧ X (pc + len) ls (.int (M.2.2.1 a i.toNatClampNeg) :: r) uc us M)
    | false => qIs a 13 (qIn (qPh T) a M (vp_in i (qLen M.2.1 a) ∧ X (pc + len) ls (.int (M.2.2.1 a i.toNatClampNeg) :: r) uc us M))
  | .laload => qAI st fun a i r => qIs a 15 (qIn (qPh T) a M (vp_in i (qLen M.2.1 a) ∧ X (pc + len) ls (.long (M.2.2.2.1 a i.toNatClampNeg) :: r) uc us M))
  | .aaload => qAI st fun a i r => qIs a 17 (qIn (qPh T) a M (vp_in i (qLen M.2.1 a) ∧ ∃ v : Option Nat, M.2.2.2.2 a i.toNatClampNeg = v ∧ X (pc + len) ls (va_rf v :: r) uc us M))
  | .iastore => qAII st fun a i x r => qIs a 14 (qIn (qPh T) a M (vp_in i (qLen M.2.1 a) ∧ X (pc + len) ls r uc us (M.1, M.2.1, q2 M.2.2.1 a i.toNatClampNeg x, M.2.2.2.1, M.2.2.2.2)))
  | .bastore => qAII st fun a i x r => match Nat.beq (qK a) 16 with
    | true => qIn (qPh T) a M (vp_in i (qLen M.2.1 a) ∧ X (pc + len) ls r uc us (M.1, M.2.1, q2 M.2.2.1 a i.toNatClampNeg (vp_nar .boolean x), M.2.2.2.1, M.2.2.2.2))
    | false => qIs a 13 (qIn (qPh T) a M (vp_in i (qLen M.2.1 a) ∧ X (pc + len) ls r uc us (M.1, M.2.1, q2 M.2.2.1 a i.toNatClampNeg (vp_nar .byte x), M.2.2.2.1, M.2.2.2.2)))
  | .lastore => qAIL st fun a i x r => qIs a 15 (qIn (qPh T) a M (vp_in i (qLen M.2.1 a) ∧ X (pc + len) ls r uc us (M.1, M.2.1, M.2.2.1, q2 M.2.2.2.1 a i.toNatClampNeg x, M.2.2.2.2)))
  | .aastore => qAIA st fun a i v r => qIs a 17 (qIn (qPh T) a M (vp_in i (qLen M.2.1 a) ∧ (∀ b, v = some b → qK b = 9 ∧ 2 ≤ b ∧ b < M.1 + 2) ∧ X (pc + len) ls r uc us (M.1, M.2.1, M.2.2.1, M.2.2.2.1, q2 M.2.2.2.2 a i.toNatClampNeg v)))
  | .new c => qIf (!(qPh T)) (qIs (M.1 + 2) c ((uc + 1 ≤ qMc T ∧ us + qNf c ≤ qMs T ∧ qRefs (M.1 + 2) st ∧ qRefs (M.1 + 2) (ls.map Prod.snd)) ∧ X (pc + len) ls (.ref (M.1 + 2) :: st) (uc + 1) (us + qNf c) (M.1 + 1, M.2.1, qRow M.2.2.1 (M.1 + 2) (fun _ => 0), M.2.2.2.1, qRow M.2.2.2.2 (M.1 + 2) (fun _ => none))))
  | .newarray ty => qIf (!(qPh T)) (qI1 st fun n r => qIs (M.1 + 2) (match ty with | .int => 14 | .byte => 13 | .long => 15 | .boolean => 16 | _ => 77)
      ((¬ n < 0 ∧ n.toNatClampNeg ≤ 100000 ∧ qLen (qUp M.2.1 (M.1 + 2) n.toNatClampNeg) (M.1 + 2) = n.toNatClampNeg ∧ uc + 1 ≤ qMc T ∧ us + n.toNatClampNeg ≤ qMs T ∧ qRefs (M.1 + 2) r ∧ qRefs (M.1 + 2) (ls.map Prod.snd)) ∧
        X (pc + len) ls (.ref (M.1 + 2) :: r) (uc + 1) (us + n.toNatClampNeg) (M.1 + 1, qUp M.2.1 (M.1 + 2) n.toNatClampNeg, qRow M.2.2.1 (M.1 + 2) (fun _ => 0), qRow M.2.2.2.1 (M.1 + 2) (fun _ => 0), M.2.2.2.2)))
  | .anewarray _ => qIf (!(qPh T)) (qI1 st fun n r => qIs (M.1 + 2) 17
      ((¬ n < 0 ∧ n.toNatClampNeg ≤ 100000 ∧ qLen (qUp M.2.1 (M.1 + 2) n.toNatClampNeg) (M.1 + 2) = n.toNatClampNeg ∧ uc + 1 ≤ qMc T ∧ us + n.toNatClampNeg ≤ qMs T ∧ qRefs (M.1 + 2) r ∧ qRefs (M.1 + 2) (ls.map Prod.snd)) ∧
        X (pc + len) ls (.ref (M.1 + 2) :: r) (uc + 1) (us + n.toNatClampNeg) (M.1 + 1, qUp M.2.1 (M.1 + 2) n.toNatClampNeg, M.2.2.1, M.2.2.2.1, qRow M.2.2.2.2 (M.1 + 2) (fun _ => none))))
  | .invokevirtual j => qTake (qNa (qTab j)) [] st fun as st' => qA1 st' fun b rest => qIs b (qOc (qTab j)) (qIn (qPh T) b M (qCall T cs j (.ref b :: as) ls rest M uc us fun st'' uc' us' M' => X (pc + len) ls st'' uc' us' M'))
  | .invokestatic j => match Nat.beq j 9998 with
    | true => qCp st fun s sp d dp n r => qIs s 15 (qIs d 15 (qIn (qPh T) s M (qIn (qPh T) d M (qIf (Nat.ble (qCat r) 4) ((¬ sp < 0 ∧ ¬ dp < 0 ∧ ¬ n < 0 ∧ sp.toNatClampNeg + n.toNatClampNeg ≤ qLen M.2.1 s ∧ dp.toNatClampNeg + n.toNatClampNeg ≤ qLen M.2.1 d) ∧
        X (pc + len) ls r uc us (M.1, M.2.1, M.2.2.1, qRow M.2.2.2.1 d (va_cpy (M.2.2.2.1 s) (M.2.2.2.1 d) sp.toNatClampNeg dp.toNatClampNeg n.toNatClampNeg), M.2.2.2.2))))))
    | false => match Nat.ble 9990 j with
      | true => qMath j st fun v r => X (pc + len) ls (.int v :: r) uc us M
      | false => qTake (qNa (qTab j)) [] st fun as rest => qCall T cs j as ls rest M uc us fun st'' uc' us' M' => X (pc + len) ls st'' uc' us' M'
  | .invokespecial j => match Nat.beq j 9999 with
    | true => qA1 st fun _ r => qIf (Nat.ble (qCat r) 8) (X (pc + len) ls r uc us M)
    | false => qTake (qNa (qTab j)) [] st fun as st' => qA1 st' fun b rest => qCall T cs j (.ref b :: as) ls rest M uc us fun st'' uc' us' M' => X (pc + len) ls st'' uc' us' M'
  | .ireturn => match st with
    | [.int v] => match qRt T with
      | some .int => Q (some (.int v)) M
      | some .boolean => (v = 0 ∨ v = 1) ∧ Q (some (.int v)) M
      | _ => False
    | _ => False
  | .lreturn => match st with
    | [.long v] => Q (some (.long v)) M
    | _ => False
  | .areturn => match st with
    | [.ref v] => Q (some (.ref v)) M
    | [.null] => Q (some .null) M
    | _ => False
  | .return_ => match st with
    | [] => Q none M
    | _ => False
  | _ => False
def qRun (T : qT) (cs : qC) (Q : qP) (X : qX) (cuts : List Nat) : Nat → qX
  | 0 => X
  | n + 1 => qStep T cs Q (fun pc ls st uc us M => match cuts.elem pc with
    | true => X pc ls st uc us M
    | false => qRun T cs Q X cuts n pc ls st uc us M)
/-- a place in a method from which its way comes to its end with Q -/
def qJ (T : qT) (cs : qC) (Q : qP) : qX := fun pc ls st uc us M => ∀ X : qX, (∀ (cuts : List Nat) (n : Nat) (pc : Nat) (ls : List (Nat × Value)) (st : List Value) (uc us : Nat) (M : qM), qRun T cs Q X cuts (n + 1) pc ls st uc us M → X pc ls st uc us M) → X pc ls st uc us M
def qWP : Nat → qC
  | 0 => fun _ _ _ _ => False
  | d + 1 => fun j as M Q => j < qAll.length ∧ Nat.ble (qCat as) (qLo (qTab j)) = true ∧ qJ (qTab j) (qWP d) Q 0 (lv_args 0 as) [] 0 0 M
end
section
/-! the tables hold the words of every link and method -/
def qTbl : List Cond := lw_tbl.filter goodWord
theorem q_in {ws : List Cond} (ps : List Nat) (hp : ws = ps.filterMap (fun i => lw_tbl[i]?)) (h : ws.all goodWord = true) : ∀ w ∈ ws, w ∈ qTbl := by
  intro w hw
  have h1 := List.all_eq_true.mp h w hw
  rw [hp] at hw
  obtain ⟨i, -, hi⟩ := List.mem_filterMap.mp hw
  exact List.mem_filter.mpr ⟨List.mem_of_getElem? hi, h1⟩
theorem q_in1 {α : Type} {l : List α} {f : α → Cond} (ps : List Nat) (hp : l.map f = ps.filterMap (fun i => lw_tbl[i]?)) (h : (l.map f).all goodWord = true) : ∀ e ∈ l, f e ∈ qTbl := fun e he => q_in ps hp h _ (List.mem_map_of_mem he)
theorem q_in0 {α : Type} {l : List α} {f : α → Cond} (ps : List Nat) (hp : l.map f = ps.filterMap (fun i => lw_tbl[i]?)) : ∀ e ∈ l, f e ∈ lw_tbl := by
  intro e he
  have hw : f e ∈ l.map f := List.mem_map_of_mem he
  rw [hp] at hw
  obtain ⟨i, -, hi⟩ := List.mem_filterMap.mp hw
  exact List.mem_of_getElem? hi
def qCls (ci : Nat) : vw_C := vwCl.getD ci (RX0, TX0, 8)
def qLnY (j : Nat) : MethodName := bif Nat.beq j 9999 then objectInit else bif Nat.beq j 9998 then arraycopyName else bif Nat.beq j 9991 then Lib.Math.max.name else bif Nat.beq j 9992 then Lib.Math.min.name else bif Nat.beq j 9993 then Lib.Math.abs.name else qY (qTab j)
set_option maxRecDepth 100000 in
theorem q_fl : ∀ e ∈ qFL, Cond.fieldLink (qCn e.1) e.2.2 ((qCls (e.2.1 / 100)).2.1 (e.2.1 % 100)).1 ((qCls (e.2.1 / 100)).2.1 (e.2.1 % 100)).2.1 ((qCls (e.2.1 / 100)).2.1 (e.2.1 % 100)).2.2.1 ∈ qTbl := q_in1 (f := fun (e : Nat × Nat × Nat) => Cond.fieldLink (qCn e.1) e.2.2 ((qCls (e.2.1 / 100)).2.1 (e.2.1 % 100)).1 ((qCls (e.2.1 / 100)).2.1 (e.2.1 % 100)).2.1 ((qCls (e.2.1 / 100)).2.1 (e.2.1 % 100)).2.2.1) [241, 242, 243, 244, 245, 246, 247, 248, 221, 222, 223, 224, 164, 165, 166, 167, 168, 169, 170, 171, 172, 173, 297, 298, 299, 272, 273, 274, 275, 276, 277, 112, 113, 114, 95, 96, 97, 202, 203, 204, 128, 129, 155, 156, 314, 315, 321, 322, 323, 324, 325, 326, 327, 328, 329, 330, 331, 332, 1039, 1040, 1041, 1042, 1043, 1044, 1045, 1046, 1047, 1048, 1049, 1050, 1051, 1052, 1053, 1054, 1055, 1056, 1057, 1058, 1059, 1060, 1061, 1062, 1063, 1064, 1065, 1066, 1067, 1068, 1069, 1070, 1071, 1072, 1073, 1074, 1075, 1076, 1077, 1078, 1079, 1080, 1081, 1082] (by decide +kernel) (by decide +kernel)
set_option maxRecDepth 100000 in
theorem q_cl : ∀ e ∈ qCL, Cond.classLink (qCn e.1) e.2.2 (qCls e.2.1).1 ∈ qTbl := q_in1 (f := fun (e : Nat × Nat × Nat) => Cond.classLink (qCn e.1) e.2.2 (qCls e.2.1).1) [142, 585, 234, 212, 136, 291, 266, 106, 89, 196, 122, 195, 307, 81, 1031] (by decide +kernel) (by decide +kernel)
set_option maxRecDepth 100000 in
theorem q_ld : ∀ e ∈ qLD, Cond.constant (qCn e.1) e.2.2 (Int32.ofNat e.2.1) ∈ qTbl := q_in1 (f := fun (e : Nat × Nat × Nat) => Cond.constant (qCn e.1) e.2.2 (Int32.ofNat e.2.1)) [400, 809, 1038, 1037, 1199, 1398, 406, 405, 404] (by decide +kernel) (by decide +kernel)
set_option maxRecDepth 100000 in
theorem q_ll : ∀ e ∈ qLL, Cond.constantLong (qCn e.1) e.2.2 (Int64.ofNat e.2.1) ∈ qTbl := q_in1 (f := fun (e : Nat × Nat × Nat) => Cond.constantLong (qCn e.1) e.2.2 (Int64.ofNat e.2.1)) [833, 516, 608, 568, 1410, 566, 565, 564, 1486] (by decide +kernel) (by decide +kernel)
set_option maxRecDepth 100000 in
theorem q_ml : ∀ e ∈ qML, Cond.methodLink (qCn e.1) e.2.2 (qLnY e.2.1) ∈ qTbl := q_in1 (f := fun (e : Nat × Nat × Nat) => Cond.methodLink (qCn e.1) e.2.2 (qLnY e.2.1)) [801, 805, 240, 239, 688, 697, 701, 741, 750, 751, 692, 737, 696, 722, 218, 726, 217, 507, 517, 521, 525, 538, 542, 464, 472, 546, 529, 491, 511, 495, 512, 145, 468, 513, 476, 533, 550, 581, 506, 141, 911, 915, 908, 944, 940, 943, 905, 906, 948, 939, 947, 907, 296, 861, 851, 852, 850, 866, 862, 880, 867, 271, 397, 411, 435, 431, 447, 401, 111, 390, 386, 94, 639, 644, 664, 638, 643, 668, 201, 499, 503, 127, 586, 480, 484, 567, 558, 537, 587, 554, 561, 152, 149, 488, 148, 990, 1005, 313, 991, 312, 236, 966, 773, 781, 789, 797, 810, 814, 822, 214, 975, 764, 684, 709, 718, 733, 746, 759, 970, 138, 460, 573, 577, 897, 919, 927, 949, 901, 935, 268, 830, 834, 962, 842, 846, 857, 868, 876, 394, 436, 439, 1026, 370, 958, 378, 419, 407, 442, 427, 443, 362, 957, 717, 613, 382, 626, 618, 630, 634, 652, 896, 660, 669, 452, 569, 974, 1021, 596, 604, 309, 983, 1001, 986, 1009, 1017, 592, 614, 622, 681, 888, 892, 86, 1176, 1195, 1191, 1187, 1204, 1200, 1219, 1215, 1223, 1239, 1235, 1254, 1262, 1258, 1270, 1242, 1246, 1266, 1250, 1274, 1283, 1291, 1306, 1302, 1298, 1318, 1330, 1333, 1345, 1354, 1394, 1390, 1407, 1419, 1415, 1427, 1431, 1444, 1460, 1463, 1456, 1435, 1278, 1349, 1036, 994, 83, 358, 366, 374, 415, 423, 448, 456, 588, 600, 609, 648, 656, 673, 677, 705, 713, 729, 742, 755, 760, 765, 769, 777, 785, 793, 818, 826, 838, 853, 872, 884, 923, 931, 953, 979, 997, 1013, 1022, 1033, 1172, 1179, 1183, 1207, 1211, 1227, 1231, 1279, 1287, 1294, 1310, 1314, 1322, 1326, 1337, 1341, 1350, 1358, 1362, 1366, 1370, 1374, 1378, 1382, 1386, 1399, 1403, 1411, 1423, 1436, 1440, 1448, 1452, 1466, 1470, 1474, 1478, 1482] (by decide +kernel) (by decide +kernel)
set_option maxRecDepth 100000 in
theorem q_mn : ∀ e ∈ qMN, Cond.methodLinkNest (qCn e.1) e.2.2 (qLnY e.2.1) "InscribedStones" ∈ lw_tbl := q_in0 (f := fun (e : Nat × Nat × Nat) => Cond.methodLinkNest (qCn e.1) e.2.2 (qLnY e.2.1) "InscribedStones") [293, 108, 91, 198, 124] (by decide +kernel)
def qStL : List Nat := [46, 47, 49, 51, 62, 63, 64, 65, 66, 100, 107, 108, 115, 146, 167, 171, 182, 196, 206, 225, 237, 238, 246, 247, 248, 249, 250]
def qSpL : List Nat := [0, 11, 24, 38, 50, 61, 76, 84, 94, 101, 114, 121, 166]
def qViL : List Nat := [1, 2, 3, 4, 5, 6, 7, 8, 9, 10, 12, 13, 14, 15, 16, 17, 18, 19, 20, 21, 22, 23, 25, 26, 27, 28, 29, 30, 31, 32, 33, 34, 35, 36, 37, 39, 40, 41, 42, 43, 44, 45, 48, 52, 53, 54, 55, 56, 57, 58, 59, 60, 67, 68, 69, 70, 71, 72, 73, 74, 75, 77, 78, 79, 80, 81, 82, 83, 85, 86, 87, 88, 89, 90, 91, 92, 93, 95, 96, 97, 98, 99, 102, 103, 104, 105, 106, 109, 110, 111, 112, 113, 116, 117, 118, 119, 120, 122, 123, 124, 125, 126, 127, 128, 129, 130, 131, 132, 133, 134, 135, 136, 137, 138, 139, 140, 141, 142, 143, 144, 145, 147, 148, 149, 150, 151, 152, 153, 154, 155, 156, 157, 158, 159, 160, 161, 162, 163, 164, 165, 168, 169, 170, 172, 173, 174, 175, 176, 177, 178, 179, 180, 181, 183, 184, 185, 186, 187, 188, 189, 190, 191, 192, 193, 194, 195, 197, 198, 199, 200, 201, 202, 203, 204, 205, 207, 208, 209, 210, 211, 212, 213, 214, 215, 216, 217, 218, 219, 220, 221, 222, 223, 224, 226, 227, 228, 229, 230, 231, 232, 233, 234, 235, 236, 239, 240, 241, 242, 243, 244, 245]
set_option maxRecDepth 100000 in
theorem q_st : ∀ e ∈ qStL, Cond.static (qY (qTab e)) ∈ qTbl := q_in1 (f := fun (e : Nat) => Cond.static (qY (qTab e))) [909, 945, 941, 831, 395, 398, 437, 440, 1027, 504, 514, 559, 984, 682, 1177, 1205, 1240, 1292, 1331, 1408, 1461, 1464, 402, 562, 995, 219, 992] (by decide +kernel) (by decide +kernel)
set_option maxRecDepth 100000 in
theorem q_sp : ∀ e ∈ qSpL, Cond.instanceMethod (qY (qTab e)) ∈ qTbl := q_in1 (f := fun (e : Nat) => Cond.instanceMethod (qY (qTab e))) [237, 215, 139, 294, 269, 109, 92, 199, 125, 146, 310, 84, 1034] (by decide +kernel) (by decide +kernel)
set_option maxRecDepth 100000 in
theorem q_vi : ∀ e ∈ qViL, Cond.instanceMethod (qY (qTab e)) ∈ qTbl := q_in1 (f := fun (e : Nat) => Cond.instanceMethod (qY (qTab e))) [967, 774, 782, 790, 798, 803, 807, 811, 815, 823, 976, 690, 698, 703, 685, 710, 719, 734, 747, 753, 693, 971, 461, 574, 578, 509, 519, 523, 527, 540, 544, 466, 474, 548, 531, 898, 920, 928, 950, 913, 902, 917, 936, 835, 963, 843, 847, 858, 864, 869, 877, 882, 371, 959, 379, 413, 420, 408, 432, 428, 444, 363, 738, 391, 387, 383, 723, 627, 619, 631, 641, 646, 635, 653, 665, 661, 670, 453, 570, 492, 500, 496, 469, 597, 481, 485, 605, 477, 534, 551, 556, 582, 1002, 1007, 987, 1010, 1018, 359, 367, 375, 416, 424, 449, 457, 589, 601, 610, 649, 657, 674, 594, 616, 624, 678, 706, 714, 730, 743, 756, 761, 766, 770, 778, 786, 794, 819, 827, 839, 854, 873, 885, 924, 932, 954, 890, 894, 980, 998, 1014, 1023, 1197, 1193, 1189, 1173, 1180, 1202, 1184, 1208, 1221, 1217, 1225, 1212, 1228, 1237, 1256, 1264, 1260, 1272, 1244, 1248, 1268, 1252, 1276, 1232, 1285, 1280, 1288, 1308, 1304, 1300, 1295, 1311, 1320, 1315, 1323, 1335, 1327, 1338, 1347, 1342, 1356, 1351, 1359, 1363, 1367, 1371, 1375, 1379, 1383, 1396, 1392, 1387, 1400, 1404, 1421, 1417, 1412, 1429, 1433, 1424, 1437, 1446, 1441, 1449, 1458, 1453, 1467, 1471, 1475, 1479, 1483] (by decide +kernel) (by decide +kernel)
set_option maxRecDepth 100000 in
theorem q_vs : ∀ e ∈ qViL, Cond.selects (qY (qTab e)).cls (qY (qTab e)) (qY (qTab e)) ∈ qTbl := q_in1 (f := fun (e : Nat) => Cond.selects (qY (qTab e)).cls (qY (qTab e)) (qY (qTab e))) [968, 775, 783, 791, 799, 20, 21, 812, 816, 824, 977, 17, 699, 18, 686, 711, 720, 735, 748, 19, 694, 972, 462, 575, 579, 3, 4, 5, 6, 8, 9, 1, 2, 10, 7, 899, 921, 929, 951, 26, 903, 27, 937, 836, 964, 844, 848, 859, 22, 870, 878, 23, 372, 960, 380, 0, 421, 409, 433, 429, 445, 364, 739, 392, 388, 384, 724, 628, 620, 632, 15, 16, 636, 654, 666, 662, 671, 454, 571, 493, 501, 497, 470, 598, 482, 486, 606, 478, 535, 552, 11, 583, 1003, 28, 988, 1011, 1019, 360, 368, 376, 417, 425, 450, 458, 590, 602, 611, 650, 658, 675, 12, 13, 14, 679, 707, 715, 731, 744, 757, 762, 767, 771, 779, 787, 795, 820, 828, 840, 855, 874, 886, 925, 933, 955, 24, 25, 981, 999, 1015, 1024, 31, 30, 29, 1174, 1181, 32, 1185, 1209, 34, 33, 35, 1213, 1229, 36, 40, 42, 41, 44, 37, 38, 43, 39, 45, 1233, 46, 1281, 1289, 49, 48, 47, 1296, 1312, 50, 1316, 1324, 51, 1328, 1339, 52, 1343, 53, 1352, 1360, 1364, 1368, 1372, 1376, 1380, 1384, 55, 54, 1388, 1401, 1405, 57, 56, 1413, 58, 59, 1425, 1438, 60, 1442, 1450, 61, 1454, 1468, 1472, 1476, 1480, 1484] (by decide +kernel) (by decide +kernel)
def qCoL : List Nat := [0, 1, 2, 3, 4, 5, 6, 7, 8, 9, 10, 11, 12, 13, 14, 15, 16, 17, 18, 19, 20, 21, 22, 23, 24, 25, 26, 27, 28, 29, 30, 31, 32, 33, 34, 35, 36, 37, 38, 39, 40, 41, 42, 43, 44, 45, 46, 47, 48, 49, 50, 51, 52, 53, 54, 55, 56, 57, 58, 59, 60, 61, 62, 63, 64, 65, 66, 67, 68, 69, 70, 71, 72, 73, 74, 75, 76, 77, 78, 79, 80, 81, 82, 83, 84, 85, 86, 87, 88, 89, 90, 91, 92, 93, 94, 95, 96, 97, 98, 99, 100, 101, 102, 103, 104, 105, 106, 107, 108, 109, 110, 111, 112, 113, 114, 115, 116, 117, 118, 119, 120, 121, 122, 123, 124, 125, 126, 127, 128, 129, 130, 131, 132, 133, 134, 135, 136, 137, 138, 139, 140, 141, 142, 143, 144, 145, 146, 147, 148, 149, 150, 151, 152, 153, 154, 155, 156, 157, 158, 159, 160, 161, 162, 163, 164, 165, 166, 167, 168, 169, 170, 171, 172, 173, 174, 175, 176, 177, 178, 179, 180, 181, 182, 183, 184, 185, 186, 187, 188, 189, 190, 191, 192, 193, 194, 195, 196, 197, 198, 199, 200, 201, 202, 203, 204, 205, 206, 207, 208, 209, 210, 211, 212, 213, 214, 215, 216, 217, 218, 219, 220, 221, 222, 223, 224, 225, 226, 227, 228, 229, 230, 231, 232, 233, 234, 235, 236, 237, 238, 239, 240, 241, 242, 243, 244, 245, 246, 247, 248, 249, 250]
set_option maxRecDepth 100000 in
theorem q_co : ∀ e ∈ qCoL, Cond.code (qY (qTab e)) (qB (qTab e)) (qLo (qTab e)) (qRt (qTab e)) ∈ qTbl := q_in1 (f := fun (e : Nat) => Cond.code (qY (qTab e)) (qB (qTab e)) (qLo (qTab e)) (qRt (qTab e))) [238, 969, 776, 784, 792, 800, 804, 808, 813, 817, 825, 216, 978, 691, 700, 704, 687, 712, 721, 736, 749, 754, 695, 973, 140, 463, 576, 580, 510, 520, 524, 528, 541, 545, 467, 475, 549, 532, 295, 900, 922, 930, 952, 914, 904, 918, 910, 946, 938, 942, 270, 832, 837, 965, 845, 849, 860, 865, 871, 879, 883, 110, 396, 399, 438, 441, 1028, 373, 961, 381, 414, 422, 410, 434, 430, 446, 93, 365, 740, 393, 389, 385, 725, 629, 200, 621, 633, 642, 647, 637, 655, 667, 663, 672, 126, 455, 572, 494, 502, 498, 505, 147, 471, 599, 483, 487, 607, 515, 560, 479, 536, 553, 557, 584, 311, 985, 1004, 1008, 989, 1012, 1020, 85, 361, 369, 377, 418, 426, 451, 459, 591, 603, 612, 651, 659, 676, 595, 617, 625, 680, 708, 716, 732, 745, 758, 763, 768, 683, 772, 780, 788, 796, 821, 829, 841, 856, 875, 887, 926, 934, 956, 891, 895, 982, 1000, 1016, 1025, 1035, 1178, 1198, 1194, 1190, 1206, 1175, 1182, 1203, 1186, 1210, 1222, 1218, 1226, 1214, 1230, 1241, 1238, 1257, 1265, 1261, 1273, 1245, 1249, 1269, 1253, 1277, 1234, 1286, 1282, 1293, 1290, 1309, 1305, 1301, 1297, 1313, 1321, 1317, 1325, 1332, 1336, 1329, 1340, 1348, 1344, 1357, 1353, 1361, 1365, 1369, 1373, 1377, 1381, 1385, 1397, 1393, 1389, 1402, 1409, 1406, 1422, 1418, 1414, 1430, 1434, 1426, 1439, 1447, 1443, 1451, 1462, 1465, 1459, 1455, 1469, 1473, 1477, 1481, 1485, 403, 563, 996, 220, 993] (rfl) (by decide +kernel)
set_option maxRecDepth 100000 in
theorem q_mi : ∀ e ∈ qCoL, Cond.initialized (qY (qTab e)).cls ∈ qTbl := q_in1 (f := fun (e : Nat) => Cond.initialized (qY (qTab e)).cls) [73, 73, 73, 73, 73, 73, 73, 73, 73, 73, 73, 71, 71, 71, 71, 71, 71, 71, 71, 71, 71, 71, 71, 71, 67, 67, 67, 67, 67, 67, 67, 67, 67, 67, 67, 67, 67, 67, 75, 75, 75, 75, 75, 75, 75, 75, 75, 75, 75, 75, 74, 74, 74, 74, 74, 74, 74, 74, 74, 74, 74, 65, 65, 65, 65, 65, 65, 65, 65, 65, 65, 65, 65, 65, 65, 65, 64, 64, 64, 64, 64, 64, 64, 64, 70, 70, 70, 70, 70, 70, 70, 70, 70, 70, 66, 66, 66, 66, 66, 66, 66, 68, 68, 68, 68, 68, 68, 68, 68, 68, 68, 68, 68, 68, 76, 76, 76, 76, 76, 76, 76, 63, 63, 63, 63, 63, 63, 63, 63, 63, 63, 63, 63, 63, 63, 63, 63, 63, 63, 63, 63, 63, 63, 63, 63, 63, 63, 63, 63, 63, 63, 63, 63, 63, 63, 63, 63, 63, 63, 63, 63, 63, 63, 63, 63, 63, 77, 77, 77, 77, 77, 77, 77, 77, 77, 77, 77, 77, 77, 77, 77, 77, 77, 77, 77, 77, 77, 77, 77, 77, 77, 77, 77, 77, 77, 77, 77, 77, 77, 77, 77, 77, 77, 77, 77, 77, 77, 77, 77, 77, 77, 77, 77, 77, 77, 77, 77, 77, 77, 77, 77, 77, 77, 77, 77, 77, 77, 77, 77, 77, 77, 77, 77, 77, 77, 77, 77, 77, 77, 77, 77, 77, 77, 77, 77, 77, 78, 80, 72, 72, 72] (by decide +kernel) (by decide +kernel)
def qC13 : List Nat := [0, 1, 2, 3, 4, 5, 6, 7, 8, 9, 10, 11, 12]
set_option maxRecDepth 100000 in
theorem q_ci : ∀ e ∈ qC13, Cond.initialized (qCls e).1 ∈ qTbl := q_in1 (f := fun (e : Nat) => Cond.initialized (qCls e).1) [73, 71, 67, 75, 74, 65, 64, 70, 66, 68, 76, 63, 77] (by decide +kernel) (by decide +kernel)
set_option maxRecDepth 100000 in
theorem q_cn : ∀ e ∈ qC13, Cond.instantiable (qCls e).1 (qCls e).2.2 ∈ qTbl := q_in1 (f := fun (e : Nat) => Cond.instantiable (qCls e).1 (qCls e).2.2) [235, 213, 137, 292, 267, 107, 90, 197, 123, 144, 308, 82, 1032] (by decide +kernel) (by decide +kernel)
set_option maxRecDepth 100000 in
theorem q_lay0 : ∀ w ∈ u_ws RX0 TX0 8, w ∈ qTbl := q_in [249, 251, 253, 255, 257, 259, 261, 263] (by decide +kernel) (by decide +kernel)
set_option maxRecDepth 100000 in
theorem q_lay1 : ∀ w ∈ u_ws RX1 TX1 4, w ∈ qTbl := q_in [225, 227, 229, 231] (by decide +kernel) (by decide +kernel)
set_option maxRecDepth 100000 in
theorem q_lay2 : ∀ w ∈ u_ws RX2 TX2 10, w ∈ qTbl := q_in [174, 176, 178, 180, 182, 184, 186, 188, 190, 192] (by decide +kernel) (by decide +kernel)
set_option maxRecDepth 100000 in
theorem q_lay3 : ∀ w ∈ u_ws RX3 TX3 3, w ∈ qTbl := q_in [300, 302, 304] (by decide +kernel) (by decide +kernel)
set_option maxRecDepth 100000 in
theorem q_lay4 : ∀ w ∈ u_ws RX4 TX4 6, w ∈ qTbl := q_in [278, 280, 282, 284, 286, 288] (by decide +kernel) (by decide +kernel)
set_option maxRecDepth 100000 in
theorem q_lay5 : ∀ w ∈ u_ws RX5 TX5 3, w ∈ qTbl := q_in [115, 117, 119] (by decide +kernel) (by decide +kernel)
set_option maxRecDepth 100000 in
theorem q_lay6 : ∀ w ∈ u_ws RX6 TX6 3, w ∈ qTbl := q_in [98, 100, 102] (by decide +kernel) (by decide +kernel)
set_option maxRecDepth 100000 in
theorem q_lay7 : ∀ w ∈ u_ws RX7 TX7 3, w ∈ qTbl := q_in [205, 207, 209] (by decide +kernel) (by decide +kernel)
set_option maxRecDepth 100000 in
theorem q_lay8 : ∀ w ∈ u_ws RX8 TX8 2, w ∈ qTbl := q_in [130, 132] (by decide +kernel) (by decide +kernel)
set_option maxRecDepth 100000 in
theorem q_lay9 : ∀ w ∈ u_ws RX9 TX9 2, w ∈ qTbl := q_in [157, 159] (by decide +kernel) (by decide +kernel)
set_option maxRecDepth 100000 in
theorem q_lay10 : ∀ w ∈ u_ws RX10 TX10 2, w ∈ qTbl := q_in [316, 318] (by decide +kernel) (by decide +kernel)
set_option maxRecDepth 100000 in
theorem q_lay11 : ∀ w ∈ u_ws RX11 TX11 12, w ∈ qTbl := q_in [333, 335, 337, 339, 341, 343, 345, 347, 349, 351, 353, 355] (by decide +kernel) (by decide +kernel)
set_option maxRecDepth 100000 in
theorem q_lay12 : ∀ w ∈ u_ws RX12 TX12 44, w ∈ qTbl := q_in [1083, 1085, 1087, 1089, 1091, 1093, 1095, 1097, 1099, 1101, 1103, 1105, 1107, 1109, 1111, 1113, 1115, 1117, 1119, 1121, 1123, 1125, 1127, 1129, 1131, 1133, 1135, 1137, 1139, 1141, 1143, 1145, 1147, 1149, 1151, 1153, 1155, 1157, 1159, 1161, 1163, 1165, 1167, 1169] (by decide +kernel) (by decide +kernel)
def qOne : List Cond := [.arrayClass .byte, .arrayClass .int, .arrayClass .long, .arrayClass .boolean, .instanceMethod objectInit, .code objectInit ⟨#[0xb1]⟩ 1 none, .native arraycopyName, .static arraycopyName, .initialized "java/lang/System", .initialized "InscribedStones", .initialized "java/lang/Math", .static Lib.Math.max.name, .code Lib.Math.max.name Lib.Math.max.code 2 (some .int), .static Lib.Math.min.name, .code Lib.Math.min.name Lib.Math.min.code 2 (some .int), .static Lib.Math.abs.name, .code Lib.Math.abs.name Lib.Math.abs.code 1 (some .int)]
set_option maxRecDepth 100000 in
theorem q_one : ∀ w ∈ qOne, w ∈ qTbl := q_in [135, 105, 163, 162, 87, 88, 490, 489, 79, 63, 69, 153, 154, 150, 151, 727, 728] (by decide +kernel) (by decide +kernel)
def qTwo : List Cond := [.arrayOver (.object RX9), .fieldLinkNest RX5 29 "InscribedStones" "KIND_ABOVE" "[I" "InscribedStones", .laysStatic "InscribedStones" "KIND_ABOVE" "[I"]
set_option maxRecDepth 100000 in
theorem q_two : ∀ w ∈ qTwo, w ∈ lw_tbl := fun w hw => q_in0 (f := fun (c : Cond) => c) [143, 1029, 1030] (by decide +kernel) w hw
def qLaw : Nat := 251
end
section
/-! each row of the tables is what the bytes decode to -/
def qIx : List (Nat × Nat × Nat) → Nat → Nat → Option Nat
  | [], _, _ => none
  | (a, b, x) :: r, o, c => bif (Nat.beq a o && Nat.beq b c) then some x else qIx r o c
theorem qIx_mem : ∀ (l : List (Nat × Nat × Nat)) (o c x : Nat), qIx l o c = some x → (o, c, x) ∈ l := by
  intro l
  induction l with
  | nil => intro o c x h; cases h
  | cons e r ih =>
    intro o c x h
    obtain ⟨a, b, y⟩ := e
    unfold qIx at h
    cases hb : (Nat.beq a o && Nat.beq b c) with
    | true =>
      rw [hb] at h
      simp only [Bool.and_eq_true] at hb
      have h1 := Nat.eq_of_beq_eq_true hb.1
      have h2 := Nat.eq_of_beq_eq_true hb.2
      subst h1; subst h2
      cases h
      exact List.mem_cons_self
    | false =>
      rw [hb] at h
      exact List.mem_cons_of_mem _ (ih o c x h)
def qRaw (oc pc : Nat) (ins : Instr) : Option Instr := match ins with
  | .getfield c => (qIx qFL oc c).map .getfield
  | .putfield c => (qIx qFL oc c).map .putfield
  | .new c => (qIx qCL oc c).map .new
  | .anewarray c => bif Nat.beq c 9 then (qIx qCL oc c).map .anewarray else none
  | .ldc v => (qIx qLD oc v).map .ldc
  | .ldc_w v => (qIx qLD oc v).map .ldc_w
  | .ldc2_w v => (qIx qLL oc v).map .ldc2_w
  | .invokevirtual j => bif qViL.elem j then (qIx qML oc j).map .invokevirtual else none
  | .invokestatic j => bif (Nat.ble 9990 j || qStL.elem j) then (qIx qML oc j).map .invokestatic else none
  | .invokespecial j => bif (Nat.beq j 9999 || qSpL.elem j) then ((match qIx qMN oc j with
    | some x => some x
    | none => qIx qML oc j).map .invokespecial) else none
  | .getstatic _ => bif Nat.beq oc 5 then some (.getstatic 29) else none
  | .goto t => some (.goto (t - pc))
  | .ifCond c t => some (.ifCond c (t - pc))
  | .if_icmp c t => some (.if_icmp c (t - pc))
  | .ifnull t => some (.ifnull (t - pc))
  | .ifnonnull t => some (.ifnonnull (t - pc))
  | .tableswitch d lo hi ts => some (.tableswitch (d - pc) lo hi (ts.map (fun t => t - pc)))
  | .lookupswitch d ps => some (.lookupswitch (d - pc) (ps.map (fun q => (q.1, q.2 - pc))))
  | i => some i
def qIl (ins : Instr) (len : Nat) : Nat := match ins with
  | .iload _ | .lload _ | .aload _ | .istore _ | .lstore _ | .astore _ | .bipush _ | .ldc _ | .newarray _ => 2
  | .sipush _ | .ldc_w _ | .ldc2_w _ | .iinc _ _ | .goto _ | .ifCond _ _ | .if_icmp _ _ | .ifnull _ | .ifnonnull _ | .getstatic _ | .getfield _ | .putfield _ | .new _ | .anewarray _ | .invokevirtual _ | .invokestatic _ | .invokespecial _ => 3
  | .tableswitch _ _ _ _ => len
  | .lookupswitch _ _ => len
  | _ => 1
/-- what else must be so for the row to serve -/
def qEx (T : qT) (ins : Instr) : Bool := match ins with
  | .getfield c => Nat.blt (c / 100) 13 && Nat.blt (c % 100) (qNf (c / 100))
  | .putfield c => Nat.blt (c / 100) 13 && (Nat.blt (c % 100) (qNf (c / 100)) && (!((qCls (c / 100)).2.1 (c % 100)).2.2.2 || (decide ((qY T).name = "<init>") && (Nat.beq (qOc T) (c / 100) && !(qPh T)))))
  | .new c => Nat.blt c 13
  | .bipush n => decide ((Int8.ofInt n).toInt32 = Int32.ofInt n)
  | .sipush n => decide ((Int16.ofInt n).toInt32 = Int32.ofInt n)
  | .istore k => Nat.blt k (qLo T)
  | .istore_n k => Nat.blt k.val (qLo T)
  | .astore k => Nat.blt k (qLo T)
  | .astore_n k => Nat.blt k.val (qLo T)
  | .lstore k => Nat.blt (k + 1) (qLo T)
  | .lstore_n k => Nat.blt (k.val + 1) (qLo T)
  | .iinc k _ => Nat.blt k (qLo T)
  | .goto t => decide (0 ≤ t)
  | .ifCond _ t => decide (0 ≤ t)
  | .if_icmp _ t => decide (0 ≤ t)
  | .ifnull t => decide (0 ≤ t)
  | .ifnonnull t => decide (0 ≤ t)
  | .tableswitch d lo hi ts => decide (0 ≤ d) && (ts.toList.all (fun t => decide (0 ≤ t)) && decide (hi = lo + ts.toList.length - 1))
  | .lookupswitch d ps => decide (0 ≤ d) && (ps.toList.all (fun q => decide (0 ≤ q.2)) && (ps.toList.zip (ps.toList.drop 1)).all (fun (a, next) => a.1 < next.1))
  | .lreturn => decide (qRt T = some .long)
  | .areturn => match qRt T with
    | some (.object _) => true
    | _ => false
  | .return_ => (qRt T).isNone
  | _ => true
def qChk (T : qT) (q : Nat × Instr × Nat) : Bool := match qRaw (qOc T) q.1 q.2.1 with
  | some raw => decide (decode (qB T) q.1 = .ok (raw, q.2.2)) && (Nat.beq q.2.2 (qIl q.2.1 q.2.2) && qEx T q.2.1)
  | none => false
def qOKm (T : qT) : Bool := (qBl T).all (fun b => b.2.all (qChk T)) && (decide ((qY T).cls = qCn (qOc T)) && (plainName (qY T).cls && (decide ((parseMethodDescriptor (qY T).desc).map (fun d => d.parameters.length) = some (qNa T)) && (decide ((qY T).cls ≠ "java/lang/invoke/MethodHandle") && (decide ((qY T).cls ≠ "java/lang/invoke/VarHandle") && (Nat.ble (qLo T) 21))))))
set_option maxRecDepth 100000 in
theorem ok_X0_init : qOKm m_X0_init = true := by decide +kernel
set_option maxRecDepth 100000 in
theorem ok_X0_size : qOKm m_X0_size = true := by decide +kernel
set_option maxRecDepth 100000 in
theorem ok_X0_limit : qOKm m_X0_limit = true := by decide +kernel
set_option maxRecDepth 100000 in
theorem ok_X0_put : qOKm m_X0_put = true := by decide +kernel
set_option maxRecDepth 100000 in
theorem ok_X0_drop : qOKm m_X0_drop = true := by decide +kernel
set_option maxRecDepth 100000 in
theorem ok_X0_settle : qOKm m_X0_settle = true := by decide +kernel
set_option maxRecDepth 100000 in
theorem ok_X0_settleBy : qOKm m_X0_settleBy = true := by decide +kernel
set_option maxRecDepth 100000 in
theorem ok_X0_tighten : qOKm m_X0_tighten = true := by decide +kernel
set_option maxRecDepth 100000 in
theorem ok_X0_earliest : qOKm m_X0_earliest = true := by decide +kernel
set_option maxRecDepth 100000 in
theorem ok_X0_latest : qOKm m_X0_latest = true := by decide +kernel
set_option maxRecDepth 100000 in
theorem ok_X0_clashing : qOKm m_X0_clashing = true := by decide +kernel
set_option maxRecDepth 100000 in
theorem ok_X1_init : qOKm m_X1_init = true := by decide +kernel
set_option maxRecDepth 100000 in
theorem ok_X1_allowance : qOKm m_X1_allowance = true := by decide +kernel
set_option maxRecDepth 100000 in
theorem ok_X1_mark : qOKm m_X1_mark = true := by decide +kernel
set_option maxRecDepth 100000 in
theorem ok_X1_neighbour : qOKm m_X1_neighbour = true := by decide +kernel
set_option maxRecDepth 100000 in
theorem ok_X1_setNeighbour : qOKm m_X1_setNeighbour = true := by decide +kernel
set_option maxRecDepth 100000 in
theorem ok_X1_tell : qOKm m_X1_tell = true := by decide +kernel
set_option maxRecDepth 100000 in
theorem ok_X1_tellTolerance : qOKm m_X1_tellTolerance = true := by decide +kernel
set_option maxRecDepth 100000 in
theorem ok_X1_sum : qOKm m_X1_sum = true := by decide +kernel
set_option maxRecDepth 100000 in
theorem ok_X1_bestOf : qOKm m_X1_bestOf = true := by decide +kernel
set_option maxRecDepth 100000 in
theorem ok_X1_tie : qOKm m_X1_tie = true := by decide +kernel
set_option maxRecDepth 100000 in
theorem ok_X1_leadsTo : qOKm m_X1_leadsTo = true := by decide +kernel
set_option maxRecDepth 100000 in
theorem ok_X1_untieRight : qOKm m_X1_untieRight = true := by decide +kernel
set_option maxRecDepth 100000 in
theorem ok_X1_ties : qOKm m_X1_ties = true := by decide +kernel
set_option maxRecDepth 100000 in
theorem ok_X2_init : qOKm m_X2_init = true := by decide +kernel
set_option maxRecDepth 100000 in
theorem ok_X2_make : qOKm m_X2_make = true := by decide +kernel
set_option maxRecDepth 100000 in
theorem ok_X2_isSpent : qOKm m_X2_isSpent = true := by decide +kernel
set_option maxRecDepth 100000 in
theorem ok_X2_made : qOKm m_X2_made = true := by decide +kernel
set_option maxRecDepth 100000 in
theorem ok_X2_takeWord : qOKm m_X2_takeWord = true := by decide +kernel
set_option maxRecDepth 100000 in
theorem ok_X2_takeMark : qOKm m_X2_takeMark = true := by decide +kernel
set_option maxRecDepth 100000 in
theorem ok_X2_open : qOKm m_X2_open = true := by decide +kernel
set_option maxRecDepth 100000 in
theorem ok_X2_close : qOKm m_X2_close = true := by decide +kernel
set_option maxRecDepth 100000 in
theorem ok_X2_takeBar : qOKm m_X2_takeBar = true := by decide +kernel
set_option maxRecDepth 100000 in
theorem ok_X2_takePoint : qOKm m_X2_takePoint = true := by decide +kernel
set_option maxRecDepth 100000 in
theorem ok_X2_startLevel : qOKm m_X2_startLevel = true := by decide +kernel
set_option maxRecDepth 100000 in
theorem ok_X2_startRow : qOKm m_X2_startRow = true := by decide +kernel
set_option maxRecDepth 100000 in
theorem ok_X2_appendPiece : qOKm m_X2_appendPiece = true := by decide +kernel
set_option maxRecDepth 100000 in
theorem ok_X2_endRow : qOKm m_X2_endRow = true := by decide +kernel
set_option maxRecDepth 100000 in
theorem ok_X3_init : qOKm m_X3_init = true := by decide +kernel
set_option maxRecDepth 100000 in
theorem ok_X3_clear : qOKm m_X3_clear = true := by decide +kernel
set_option maxRecDepth 100000 in
theorem ok_X3_size : qOKm m_X3_size = true := by decide +kernel
set_option maxRecDepth 100000 in
theorem ok_X3_byteAt : qOKm m_X3_byteAt = true := by decide +kernel
set_option maxRecDepth 100000 in
theorem ok_X3_parsedAt : qOKm m_X3_parsedAt = true := by decide +kernel
set_option maxRecDepth 100000 in
theorem ok_X3_put : qOKm m_X3_put = true := by decide +kernel
set_option maxRecDepth 100000 in
theorem ok_X3_write : qOKm m_X3_write = true := by decide +kernel
set_option maxRecDepth 100000 in
theorem ok_X3_enclose : qOKm m_X3_enclose = true := by decide +kernel
set_option maxRecDepth 100000 in
theorem ok_X3_shown : qOKm m_X3_shown = true := by decide +kernel
set_option maxRecDepth 100000 in
theorem ok_X3_letterShown : qOKm m_X3_letterShown = true := by decide +kernel
set_option maxRecDepth 100000 in
theorem ok_X3_parse : qOKm m_X3_parse = true := by decide +kernel
set_option maxRecDepth 100000 in
theorem ok_X3_bareReading : qOKm m_X3_bareReading = true := by decide +kernel
set_option maxRecDepth 100000 in
theorem ok_X4_init : qOKm m_X4_init = true := by decide +kernel
set_option maxRecDepth 100000 in
theorem ok_X4_isWord : qOKm m_X4_isWord = true := by decide +kernel
set_option maxRecDepth 100000 in
theorem ok_X4_put : qOKm m_X4_put = true := by decide +kernel
set_option maxRecDepth 100000 in
theorem ok_X4_size : qOKm m_X4_size = true := by decide +kernel
set_option maxRecDepth 100000 in
theorem ok_X4_has : qOKm m_X4_has = true := by decide +kernel
set_option maxRecDepth 100000 in
theorem ok_X4_mayBeOne : qOKm m_X4_mayBeOne = true := by decide +kernel
set_option maxRecDepth 100000 in
theorem ok_X4_sort : qOKm m_X4_sort = true := by decide +kernel
set_option maxRecDepth 100000 in
theorem ok_X4_belongs : qOKm m_X4_belongs = true := by decide +kernel
set_option maxRecDepth 100000 in
theorem ok_X4_groupOf : qOKm m_X4_groupOf = true := by decide +kernel
set_option maxRecDepth 100000 in
theorem ok_X4_fatherOf : qOKm m_X4_fatherOf = true := by decide +kernel
set_option maxRecDepth 100000 in
theorem ok_X4_isAhead : qOKm m_X4_isAhead = true := by decide +kernel
set_option maxRecDepth 100000 in
theorem ok_X5_init : qOKm m_X5_init = true := by decide +kernel
set_option maxRecDepth 100000 in
theorem ok_X5_told : qOKm m_X5_told = true := by decide +kernel
set_option maxRecDepth 100000 in
theorem ok_X5_packed : qOKm m_X5_packed = true := by decide +kernel
set_option maxRecDepth 100000 in
theorem ok_X5_kindOf : qOKm m_X5_kindOf = true := by decide +kernel
set_option maxRecDepth 100000 in
theorem ok_X5_mayOf : qOKm m_X5_mayOf = true := by decide +kernel
set_option maxRecDepth 100000 in
theorem ok_X5_isUnder : qOKm m_X5_isUnder = true := by decide +kernel
set_option maxRecDepth 100000 in
theorem ok_X5_putHand : qOKm m_X5_putHand = true := by decide +kernel
set_option maxRecDepth 100000 in
theorem ok_X5_hands : qOKm m_X5_hands = true := by decide +kernel
set_option maxRecDepth 100000 in
theorem ok_X5_hasHand : qOKm m_X5_hasHand = true := by decide +kernel
set_option maxRecDepth 100000 in
theorem ok_X5_index : qOKm m_X5_index = true := by decide +kernel
set_option maxRecDepth 100000 in
theorem ok_X5_at : qOKm m_X5_at = true := by decide +kernel
set_option maxRecDepth 100000 in
theorem ok_X5_put : qOKm m_X5_put = true := by decide +kernel
set_option maxRecDepth 100000 in
theorem ok_X5_leader : qOKm m_X5_leader = true := by decide +kernel
set_option maxRecDepth 100000 in
theorem ok_X5_leading : qOKm m_X5_leading = true := by decide +kernel
set_option maxRecDepth 100000 in
theorem ok_X5_dissenters : qOKm m_X5_dissenters = true := by decide +kernel
set_option maxRecDepth 100000 in
theorem ok_X6_init : qOKm m_X6_init = true := by decide +kernel
set_option maxRecDepth 100000 in
theorem ok_X6_put : qOKm m_X6_put = true := by decide +kernel
set_option maxRecDepth 100000 in
theorem ok_X6_size : qOKm m_X6_size = true := by decide +kernel
set_option maxRecDepth 100000 in
theorem ok_X6_has : qOKm m_X6_has = true := by decide +kernel
set_option maxRecDepth 100000 in
theorem ok_X6_hasLine : qOKm m_X6_hasLine = true := by decide +kernel
set_option maxRecDepth 100000 in
theorem ok_X6_hasPlace : qOKm m_X6_hasPlace = true := by decide +kernel
set_option maxRecDepth 100000 in
theorem ok_X6_linesOf : qOKm m_X6_linesOf = true := by decide +kernel
set_option maxRecDepth 100000 in
theorem ok_X6_placesOf : qOKm m_X6_placesOf = true := by decide +kernel
set_option maxRecDepth 100000 in
theorem ok_X7_init : qOKm m_X7_init = true := by decide +kernel
set_option maxRecDepth 100000 in
theorem ok_X7_clear : qOKm m_X7_clear = true := by decide +kernel
set_option maxRecDepth 100000 in
theorem ok_X7_add : qOKm m_X7_add = true := by decide +kernel
set_option maxRecDepth 100000 in
theorem ok_X7_isWay : qOKm m_X7_isWay = true := by decide +kernel
set_option maxRecDepth 100000 in
theorem ok_X7_letterOn : qOKm m_X7_letterOn = true := by decide +kernel
set_option maxRecDepth 100000 in
theorem ok_X7_countWays : qOKm m_X7_countWays = true := by decide +kernel
set_option maxRecDepth 100000 in
theorem ok_X7_findWay : qOKm m_X7_findWay = true := by decide +kernel
set_option maxRecDepth 100000 in
theorem ok_X7_carryNothing : qOKm m_X7_carryNothing = true := by decide +kernel
set_option maxRecDepth 100000 in
theorem ok_X7_carry : qOKm m_X7_carry = true := by decide +kernel
set_option maxRecDepth 100000 in
theorem ok_X7_carriedAt : qOKm m_X7_carriedAt = true := by decide +kernel
set_option maxRecDepth 100000 in
theorem ok_X8_init : qOKm m_X8_init = true := by decide +kernel
set_option maxRecDepth 100000 in
theorem ok_X8_append : qOKm m_X8_append = true := by decide +kernel
set_option maxRecDepth 100000 in
theorem ok_X8_clear : qOKm m_X8_clear = true := by decide +kernel
set_option maxRecDepth 100000 in
theorem ok_X8_size : qOKm m_X8_size = true := by decide +kernel
set_option maxRecDepth 100000 in
theorem ok_X8_byteAt : qOKm m_X8_byteAt = true := by decide +kernel
set_option maxRecDepth 100000 in
theorem ok_X8_lettersFrom : qOKm m_X8_lettersFrom = true := by decide +kernel
set_option maxRecDepth 100000 in
theorem ok_X8_letterOf : qOKm m_X8_letterOf = true := by decide +kernel
set_option maxRecDepth 100000 in
theorem ok_X9_init : qOKm m_X9_init = true := by decide +kernel
set_option maxRecDepth 100000 in
theorem ok_X9_clear : qOKm m_X9_clear = true := by decide +kernel
set_option maxRecDepth 100000 in
theorem ok_X9_size : qOKm m_X9_size = true := by decide +kernel
set_option maxRecDepth 100000 in
theorem ok_X9_head : qOKm m_X9_head = true := by decide +kernel
set_option maxRecDepth 100000 in
theorem ok_X9_tail : qOKm m_X9_tail = true := by decide +kernel
set_option maxRecDepth 100000 in
theorem ok_X9_letter : qOKm m_X9_letter = true := by decide +kernel
set_option maxRecDepth 100000 in
theorem ok_X9_codeAt : qOKm m_X9_codeAt = true := by decide +kernel
set_option maxRecDepth 100000 in
theorem ok_X9_lengthOf : qOKm m_X9_lengthOf = true := by decide +kernel
set_option maxRecDepth 100000 in
theorem ok_X9_add : qOKm m_X9_add = true := by decide +kernel
set_option maxRecDepth 100000 in
theorem ok_X9_addAll : qOKm m_X9_addAll = true := by decide +kernel
set_option maxRecDepth 100000 in
theorem ok_X9_addPairs : qOKm m_X9_addPairs = true := by decide +kernel
set_option maxRecDepth 100000 in
theorem ok_X9_addPair : qOKm m_X9_addPair = true := by decide +kernel
set_option maxRecDepth 100000 in
theorem ok_X9_copy : qOKm m_X9_copy = true := by decide +kernel
set_option maxRecDepth 100000 in
theorem ok_X10_init : qOKm m_X10_init = true := by decide +kernel
set_option maxRecDepth 100000 in
theorem ok_X10_has : qOKm m_X10_has = true := by decide +kernel
set_option maxRecDepth 100000 in
theorem ok_X10_isMissing : qOKm m_X10_isMissing = true := by decide +kernel
set_option maxRecDepth 100000 in
theorem ok_X10_sizeOf : qOKm m_X10_sizeOf = true := by decide +kernel
set_option maxRecDepth 100000 in
theorem ok_X10_put : qOKm m_X10_put = true := by decide +kernel
set_option maxRecDepth 100000 in
theorem ok_X10_set : qOKm m_X10_set = true := by decide +kernel
set_option maxRecDepth 100000 in
theorem ok_X10_byteAt : qOKm m_X10_byteAt = true := by decide +kernel
set_option maxRecDepth 100000 in
theorem ok_X11_init : qOKm m_X11_init = true := by decide +kernel
set_option maxRecDepth 100000 in
theorem ok_X11_stone : qOKm m_X11_stone = true := by decide +kernel
set_option maxRecDepth 100000 in
theorem ok_X11_hand : qOKm m_X11_hand = true := by decide +kernel
set_option maxRecDepth 100000 in
theorem ok_X11_read : qOKm m_X11_read = true := by decide +kernel
set_option maxRecDepth 100000 in
theorem ok_X11_forget : qOKm m_X11_forget = true := by decide +kernel
set_option maxRecDepth 100000 in
theorem ok_X11_sign : qOKm m_X11_sign = true := by decide +kernel
set_option maxRecDepth 100000 in
theorem ok_X11_feed : qOKm m_X11_feed = true := by decide +kernel
set_option maxRecDepth 100000 in
theorem ok_X11_formula : qOKm m_X11_formula = true := by decide +kernel
set_option maxRecDepth 100000 in
theorem ok_X11_texts : qOKm m_X11_texts = true := by decide +kernel
set_option maxRecDepth 100000 in
theorem ok_X11_text : qOKm m_X11_text = true := by decide +kernel
set_option maxRecDepth 100000 in
theorem ok_X11_ways : qOKm m_X11_ways = true := by decide +kernel
set_option maxRecDepth 100000 in
theorem ok_X11_way : qOKm m_X11_way = true := by decide +kernel
set_option maxRecDepth 100000 in
theorem ok_X11_carried : qOKm m_X11_carried = true := by decide +kernel
set_option maxRecDepth 100000 in
theorem ok_X11_fits : qOKm m_X11_fits = true := by decide +kernel
set_option maxRecDepth 100000 in
theorem ok_X11_textsOf : qOKm m_X11_textsOf = true := by decide +kernel
set_option maxRecDepth 100000 in
theorem ok_X11_layBare : qOKm m_X11_layBare = true := by decide +kernel
set_option maxRecDepth 100000 in
theorem ok_X11_layBareMore : qOKm m_X11_layBareMore = true := by decide +kernel
set_option maxRecDepth 100000 in
theorem ok_X11_edge : qOKm m_X11_edge = true := by decide +kernel
set_option maxRecDepth 100000 in
theorem ok_X11_tolerance : qOKm m_X11_tolerance = true := by decide +kernel
set_option maxRecDepth 100000 in
theorem ok_X11_room : qOKm m_X11_room = true := by decide +kernel
set_option maxRecDepth 100000 in
theorem ok_X11_best : qOKm m_X11_best = true := by decide +kernel
set_option maxRecDepth 100000 in
theorem ok_X11_join : qOKm m_X11_join = true := by decide +kernel
set_option maxRecDepth 100000 in
theorem ok_X11_part : qOKm m_X11_part = true := by decide +kernel
set_option maxRecDepth 100000 in
theorem ok_X11_joined : qOKm m_X11_joined = true := by decide +kernel
set_option maxRecDepth 100000 in
theorem ok_X11_whole : qOKm m_X11_whole = true := by decide +kernel
set_option maxRecDepth 100000 in
theorem ok_X11_isSide : qOKm m_X11_isSide = true := by decide +kernel
set_option maxRecDepth 100000 in
theorem ok_X11_years : qOKm m_X11_years = true := by decide +kernel
set_option maxRecDepth 100000 in
theorem ok_X11_bound : qOKm m_X11_bound = true := by decide +kernel
set_option maxRecDepth 100000 in
theorem ok_X11_loose : qOKm m_X11_loose = true := by decide +kernel
set_option maxRecDepth 100000 in
theorem ok_X11_span : qOKm m_X11_span = true := by decide +kernel
set_option maxRecDepth 100000 in
theorem ok_X11_clash : qOKm m_X11_clash = true := by decide +kernel
set_option maxRecDepth 100000 in
theorem ok_X11_person : qOKm m_X11_person = true := by decide +kernel
set_option maxRecDepth 100000 in
theorem ok_X11_one : qOKm m_X11_one = true := by decide +kernel
set_option maxRecDepth 100000 in
theorem ok_X11_group : qOKm m_X11_group = true := by decide +kernel
set_option maxRecDepth 100000 in
theorem ok_X11_father : qOKm m_X11_father = true := by decide +kernel
set_option maxRecDepth 100000 in
theorem ok_X11_print : qOKm m_X11_print = true := by decide +kernel
set_option maxRecDepth 100000 in
theorem ok_X11_printed : qOKm m_X11_printed = true := by decide +kernel
set_option maxRecDepth 100000 in
theorem ok_X11_back : qOKm m_X11_back = true := by decide +kernel
set_option maxRecDepth 100000 in
theorem ok_X11_count : qOKm m_X11_count = true := by decide +kernel
set_option maxRecDepth 100000 in
theorem ok_X11_isFormulaOrNone : qOKm m_X11_isFormulaOrNone = true := by decide +kernel
set_option maxRecDepth 100000 in
theorem ok_X11_setPage : qOKm m_X11_setPage = true := by decide +kernel
set_option maxRecDepth 100000 in
theorem ok_X11_tray : qOKm m_X11_tray = true := by decide +kernel
set_option maxRecDepth 100000 in
theorem ok_X11_cell : qOKm m_X11_cell = true := by decide +kernel
set_option maxRecDepth 100000 in
theorem ok_X11_lay : qOKm m_X11_lay = true := by decide +kernel
set_option maxRecDepth 100000 in
theorem ok_X11_taken : qOKm m_X11_taken = true := by decide +kernel
set_option maxRecDepth 100000 in
theorem ok_X12_init : qOKm m_X12_init = true := by decide +kernel
set_option maxRecDepth 100000 in
theorem ok_X12_isIn : qOKm m_X12_isIn = true := by decide +kernel
set_option maxRecDepth 100000 in
theorem ok_X12_isStone : qOKm m_X12_isStone = true := by decide +kernel
set_option maxRecDepth 100000 in
theorem ok_X12_isLine : qOKm m_X12_isLine = true := by decide +kernel
set_option maxRecDepth 100000 in
theorem ok_X12_isPlace : qOKm m_X12_isPlace = true := by decide +kernel
set_option maxRecDepth 100000 in
theorem ok_X12_at : qOKm m_X12_at = true := by decide +kernel
set_option maxRecDepth 100000 in
theorem ok_X12_stone : qOKm m_X12_stone = true := by decide +kernel
set_option maxRecDepth 100000 in
theorem ok_X12_hand : qOKm m_X12_hand = true := by decide +kernel
set_option maxRecDepth 100000 in
theorem ok_X12_reads : qOKm m_X12_reads = true := by decide +kernel
set_option maxRecDepth 100000 in
theorem ok_X12_read : qOKm m_X12_read = true := by decide +kernel
set_option maxRecDepth 100000 in
theorem ok_X12_forget : qOKm m_X12_forget = true := by decide +kernel
set_option maxRecDepth 100000 in
theorem ok_X12_handOf : qOKm m_X12_handOf = true := by decide +kernel
set_option maxRecDepth 100000 in
theorem ok_X12_kindOf : qOKm m_X12_kindOf = true := by decide +kernel
set_option maxRecDepth 100000 in
theorem ok_X12_mayOf : qOKm m_X12_mayOf = true := by decide +kernel
set_option maxRecDepth 100000 in
theorem ok_X12_sign : qOKm m_X12_sign = true := by decide +kernel
set_option maxRecDepth 100000 in
theorem ok_X12_feed : qOKm m_X12_feed = true := by decide +kernel
set_option maxRecDepth 100000 in
theorem ok_X12_isLetter : qOKm m_X12_isLetter = true := by decide +kernel
set_option maxRecDepth 100000 in
theorem ok_X12_token : qOKm m_X12_token = true := by decide +kernel
set_option maxRecDepth 100000 in
theorem ok_X12_faults : qOKm m_X12_faults = true := by decide +kernel
set_option maxRecDepth 100000 in
theorem ok_X12_isAlike : qOKm m_X12_isAlike = true := by decide +kernel
set_option maxRecDepth 100000 in
theorem ok_X12_keeps : qOKm m_X12_keeps = true := by decide +kernel
set_option maxRecDepth 100000 in
theorem ok_X12_copies : qOKm m_X12_copies = true := by decide +kernel
set_option maxRecDepth 100000 in
theorem ok_X12_all : qOKm m_X12_all = true := by decide +kernel
set_option maxRecDepth 100000 in
theorem ok_X12_row : qOKm m_X12_row = true := by decide +kernel
set_option maxRecDepth 100000 in
theorem ok_X12_joins : qOKm m_X12_joins = true := by decide +kernel
set_option maxRecDepth 100000 in
theorem ok_X12_piece : qOKm m_X12_piece = true := by decide +kernel
set_option maxRecDepth 100000 in
theorem ok_X12_isAhead : qOKm m_X12_isAhead = true := by decide +kernel
set_option maxRecDepth 100000 in
theorem ok_X12_formula : qOKm m_X12_formula = true := by decide +kernel
set_option maxRecDepth 100000 in
theorem ok_X12_isFormula : qOKm m_X12_isFormula = true := by decide +kernel
set_option maxRecDepth 100000 in
theorem ok_X12_texts : qOKm m_X12_texts = true := by decide +kernel
set_option maxRecDepth 100000 in
theorem ok_X12_told : qOKm m_X12_told = true := by decide +kernel
set_option maxRecDepth 100000 in
theorem ok_X12_text : qOKm m_X12_text = true := by decide +kernel
set_option maxRecDepth 100000 in
theorem ok_X12_letterAt : qOKm m_X12_letterAt = true := by decide +kernel
set_option maxRecDepth 100000 in
theorem ok_X12_goes : qOKm m_X12_goes = true := by decide +kernel
set_option maxRecDepth 100000 in
theorem ok_X12_waysOf : qOKm m_X12_waysOf = true := by decide +kernel
set_option maxRecDepth 100000 in
theorem ok_X12_ways : qOKm m_X12_ways = true := by decide +kernel
set_option maxRecDepth 100000 in
theorem ok_X12_way : qOKm m_X12_way = true := by decide +kernel
set_option maxRecDepth 100000 in
theorem ok_X12_carriedOf : qOKm m_X12_carriedOf = true := by decide +kernel
set_option maxRecDepth 100000 in
theorem ok_X12_carried : qOKm m_X12_carried = true := by decide +kernel
set_option maxRecDepth 100000 in
theorem ok_X12_fits : qOKm m_X12_fits = true := by decide +kernel
set_option maxRecDepth 100000 in
theorem ok_X12_edgeAt : qOKm m_X12_edgeAt = true := by decide +kernel
set_option maxRecDepth 100000 in
theorem ok_X12_parts : qOKm m_X12_parts = true := by decide +kernel
set_option maxRecDepth 100000 in
theorem ok_X12_edge : qOKm m_X12_edge = true := by decide +kernel
set_option maxRecDepth 100000 in
theorem ok_X12_tolerance : qOKm m_X12_tolerance = true := by decide +kernel
set_option maxRecDepth 100000 in
theorem ok_X12_roomOf : qOKm m_X12_roomOf = true := by decide +kernel
set_option maxRecDepth 100000 in
theorem ok_X12_room : qOKm m_X12_room = true := by decide +kernel
set_option maxRecDepth 100000 in
theorem ok_X12_bestOf : qOKm m_X12_bestOf = true := by decide +kernel
set_option maxRecDepth 100000 in
theorem ok_X12_best : qOKm m_X12_best = true := by decide +kernel
set_option maxRecDepth 100000 in
theorem ok_X12_join : qOKm m_X12_join = true := by decide +kernel
set_option maxRecDepth 100000 in
theorem ok_X12_part : qOKm m_X12_part = true := by decide +kernel
set_option maxRecDepth 100000 in
theorem ok_X12_joined : qOKm m_X12_joined = true := by decide +kernel
set_option maxRecDepth 100000 in
theorem ok_X12_whole : qOKm m_X12_whole = true := by decide +kernel
set_option maxRecDepth 100000 in
theorem ok_X12_years : qOKm m_X12_years = true := by decide +kernel
set_option maxRecDepth 100000 in
theorem ok_X12_bound : qOKm m_X12_bound = true := by decide +kernel
set_option maxRecDepth 100000 in
theorem ok_X12_loose : qOKm m_X12_loose = true := by decide +kernel
set_option maxRecDepth 100000 in
theorem ok_X12_clashes : qOKm m_X12_clashes = true := by decide +kernel
set_option maxRecDepth 100000 in
theorem ok_X12_clashAll : qOKm m_X12_clashAll = true := by decide +kernel
set_option maxRecDepth 100000 in
theorem ok_X12_span : qOKm m_X12_span = true := by decide +kernel
set_option maxRecDepth 100000 in
theorem ok_X12_clash : qOKm m_X12_clash = true := by decide +kernel
set_option maxRecDepth 100000 in
theorem ok_X12_isWord : qOKm m_X12_isWord = true := by decide +kernel
set_option maxRecDepth 100000 in
theorem ok_X12_person : qOKm m_X12_person = true := by decide +kernel
set_option maxRecDepth 100000 in
theorem ok_X12_mayBeOne : qOKm m_X12_mayBeOne = true := by decide +kernel
set_option maxRecDepth 100000 in
theorem ok_X12_isPerson : qOKm m_X12_isPerson = true := by decide +kernel
set_option maxRecDepth 100000 in
theorem ok_X12_one : qOKm m_X12_one = true := by decide +kernel
set_option maxRecDepth 100000 in
theorem ok_X12_findGroups : qOKm m_X12_findGroups = true := by decide +kernel
set_option maxRecDepth 100000 in
theorem ok_X12_joinsGroup : qOKm m_X12_joinsGroup = true := by decide +kernel
set_option maxRecDepth 100000 in
theorem ok_X12_group : qOKm m_X12_group = true := by decide +kernel
set_option maxRecDepth 100000 in
theorem ok_X12_father : qOKm m_X12_father = true := by decide +kernel
set_option maxRecDepth 100000 in
theorem ok_X12_prints : qOKm m_X12_prints = true := by decide +kernel
set_option maxRecDepth 100000 in
theorem ok_X12_print : qOKm m_X12_print = true := by decide +kernel
set_option maxRecDepth 100000 in
theorem ok_X12_printed : qOKm m_X12_printed = true := by decide +kernel
set_option maxRecDepth 100000 in
theorem ok_X12_isSign : qOKm m_X12_isSign = true := by decide +kernel
set_option maxRecDepth 100000 in
theorem ok_X12_bitOf : qOKm m_X12_bitOf = true := by decide +kernel
set_option maxRecDepth 100000 in
theorem ok_X12_backs : qOKm m_X12_backs = true := by decide +kernel
set_option maxRecDepth 100000 in
theorem ok_X12_back : qOKm m_X12_back = true := by decide +kernel
set_option maxRecDepth 100000 in
theorem ok_X12_count : qOKm m_X12_count = true := by decide +kernel
set_option maxRecDepth 100000 in
theorem ok_X12_tray : qOKm m_X12_tray = true := by decide +kernel
set_option maxRecDepth 100000 in
theorem ok_X12_cell : qOKm m_X12_cell = true := by decide +kernel
set_option maxRecDepth 100000 in
theorem ok_X12_lay : qOKm m_X12_lay = true := by decide +kernel
set_option maxRecDepth 100000 in
theorem ok_X12_taken : qOKm m_X12_taken = true := by decide +kernel
set_option maxRecDepth 100000 in
theorem ok_J6_bitCount_0f7a4 : qOKm m_J6_bitCount_0f7a4 = true := by decide +kernel
set_option maxRecDepth 100000 in
theorem ok_J13_bitCount_95d88 : qOKm m_J13_bitCount_95d88 = true := by decide +kernel
set_option maxRecDepth 100000 in
theorem ok_J7_rangeCheck_23922 : qOKm m_J7_rangeCheck_23922 = true := by decide +kernel
set_option maxRecDepth 100000 in
theorem ok_J7_fill_53178 : qOKm m_J7_fill_53178 = true := by decide +kernel
set_option maxRecDepth 100000 in
theorem ok_J7_fill_eb02e : qOKm m_J7_fill_eb02e = true := by decide +kernel
set_option maxRecDepth 100000 in
theorem okb_0 : bL_0.2.all (qChk m_L_law) = true := by decide +kernel
set_option maxRecDepth 100000 in
theorem okb_1 : bL_1.2.all (qChk m_L_law) = true := by decide +kernel
set_option maxRecDepth 100000 in
theorem okb_2 : bL_2.2.all (qChk m_L_law) = true := by decide +kernel
set_option maxRecDepth 100000 in
theorem okb_3 : bL_3.2.all (qChk m_L_law) = true := by decide +kernel
set_option maxRecDepth 100000 in
theorem okb_4 : bL_4.2.all (qChk m_L_law) = true := by decide +kernel
set_option maxRecDepth 100000 in
theorem okb_5 : bL_5.2.all (qChk m_L_law) = true := by decide +kernel
set_option maxRecDepth 100000 in
theorem okb_6 : bL_6.2.all (qChk m_L_law) = true := by decide +kernel
set_option maxRecDepth 100000 in
theorem okb_7 : bL_7.2.all (qChk m_L_law) = true := by decide +kernel
set_option maxRecDepth 100000 in
theorem okb_8 : bL_8.2.all (qChk m_L_law) = true := by decide +kernel
set_option maxRecDepth 100000 in
theorem okb_9 : bL_9.2.all (qChk m_L_law) = true := by decide +kernel
set_option maxRecDepth 100000 in
theorem okb_10 : bL_10.2.all (qChk m_L_law) = true := by decide +kernel
set_option maxRecDepth 100000 in
theorem okb_11 : bL_11.2.all (qChk m_L_law) = true := by decide +kernel
set_option maxRecDepth 100000 in
theorem okb_12 : bL_12.2.all (qChk m_L_law) = true := by decide +kernel
set_option maxRecDepth 100000 in
theorem okb_13 : bL_13.2.all (qChk m_L_law) = true := by decide +kernel
set_option maxRecDepth 100000 in
theorem okb_14 : bL_14.2.all (qChk m_L_law) = true := by decide +kernel
set_option maxRecDepth 100000 in
theorem okb_15 : bL_15.2.all (qChk m_L_law) = true := by decide +kernel
set_option maxRecDepth 100000 in
theorem okb_16 : bL_16.2.all (qChk m_L_law) = true := by decide +kernel
set_option maxRecDepth 100000 in
theorem okb_17 : bL_17.2.all (qChk m_L_law) = true := by decide +kernel
set_option maxRecDepth 100000 in
theorem okb_18 : bL_18.2.all (qChk m_L_law) = true := by decide +kernel
set_option maxRecDepth 100000 in
theorem okb_19 : bL_19.2.all (qChk m_L_law) = true := by decide +kernel
set_option maxRecDepth 100000 in
theorem okb_20 : bL_20.2.all (qChk m_L_law) = true := by decide +kernel
set_option maxRecDepth 100000 in
theorem okb_21 : bL_21.2.all (qChk m_L_law) = true := by decide +kernel
set_option maxRecDepth 100000 in
theorem okb_22 : bL_22.2.all (qChk m_L_law) = true := by decide +kernel
set_option maxRecDepth 100000 in
theorem okb_23 : bL_23.2.all (qChk m_L_law) = true := by decide +kernel
set_option maxRecDepth 100000 in
theorem okb_24 : bL_24.2.all (qChk m_L_law) = true := by decide +kernel
set_option maxRecDepth 100000 in
theorem okb_25 : bL_25.2.all (qChk m_L_law) = true := by decide +kernel
set_option maxRecDepth 100000 in
theorem okb_26 : bL_26.2.all (qChk m_L_law) = true := by decide +kernel
set_option maxRecDepth 100000 in
theorem okb_27 : bL_27.2.all (qChk m_L_law) = true := by decide +kernel
set_option maxRecDepth 100000 in
theorem okb_28 : bL_28.2.all (qChk m_L_law) = true := by decide +kernel
set_option maxRecDepth 100000 in
theorem okb_29 : bL_29.2.all (qChk m_L_law) = true := by decide +kernel
set_option maxRecDepth 100000 in
theorem okb_30 : bL_30.2.all (qChk m_L_law) = true := by decide +kernel
set_option maxRecDepth 100000 in
theorem okb_31 : bL_31.2.all (qChk m_L_law) = true := by decide +kernel
set_option maxRecDepth 100000 in
theorem okb_32 : bL_32.2.all (qChk m_L_law) = true := by decide +kernel
set_option maxRecDepth 100000 in
theorem okb_33 : bL_33.2.all (qChk m_L_law) = true := by decide +kernel
set_option maxRecDepth 100000 in
theorem okb_34 : bL_34.2.all (qChk m_L_law) = true := by decide +kernel
set_option maxRecDepth 100000 in
theorem okb_35 : bL_35.2.all (qChk m_L_law) = true := by decide +kernel
set_option maxRecDepth 100000 in
theorem ok_L_law : qOKm m_L_law = true := by
  unfold qOKm
  rw [show qBl m_L_law = [bL_0, bL_1, bL_2, bL_3, bL_4, bL_5, bL_6, bL_7, bL_8, bL_9, bL_10, bL_11, bL_12, bL_13, bL_14, bL_15, bL_16, bL_17, bL_18, bL_19, bL_20, bL_21, bL_22, bL_23, bL_24, bL_25, bL_26, bL_27, bL_28, bL_29, bL_30, bL_31, bL_32, bL_33, bL_34, bL_35] from rfl]
  simp only [List.all_cons, List.all_nil, okb_0, okb_1, okb_2, okb_3, okb_4, okb_5, okb_6, okb_7, okb_8, okb_9, okb_10, okb_11, okb_12, okb_13, okb_14, okb_15, okb_16, okb_17, okb_18, okb_19, okb_20, okb_21, okb_22, okb_23, okb_24, okb_25, okb_26, okb_27, okb_28, okb_29, okb_30, okb_31, okb_32, okb_33, okb_34, okb_35, Bool.true_and]
  decide +kernel
set_option maxRecDepth 100000 in
theorem qAll_ok : ∀ T ∈ qAll, qOKm T = true := by
  unfold qAll
  exact (List.forall_mem_cons.mpr ⟨ok_X0_init, (List.forall_mem_cons.mpr ⟨ok_X0_size, (List.forall_mem_cons.mpr ⟨ok_X0_limit, (List.forall_mem_cons.mpr ⟨ok_X0_put, (List.forall_mem_cons.mpr ⟨ok_X0_drop, (List.forall_mem_cons.mpr ⟨ok_X0_settle, (List.forall_mem_cons.mpr ⟨ok_X0_settleBy, (List.forall_mem_cons.mpr ⟨ok_X0_tighten, (List.forall_mem_cons.mpr ⟨ok_X0_earliest, (List.forall_mem_cons.mpr ⟨ok_X0_latest, (List.forall_mem_cons.mpr ⟨ok_X0_clashing, (List.forall_mem_cons.mpr ⟨ok_X1_init, (List.forall_mem_cons.mpr ⟨ok_X1_allowance, (List.forall_mem_cons.mpr ⟨ok_X1_mark, (List.forall_mem_cons.mpr ⟨ok_X1_neighbour, (List.forall_mem_cons.mpr ⟨ok_X1_setNeighbour, (List.forall_mem_cons.mpr ⟨ok_X1_tell, (List.forall_mem_cons.mpr ⟨ok_X1_tellTolerance, (List.forall_mem_cons.mpr ⟨ok_X1_sum, (List.forall_mem_cons.mpr ⟨ok_X1_bestOf, (List.forall_mem_cons.mpr ⟨ok_X1_tie, (List.forall_mem_cons.mpr ⟨ok_X1_leadsTo, (List.forall_mem_cons.mpr ⟨ok_X1_untieRight, (List.forall_mem_cons.mpr ⟨ok_X1_ties, (List.forall_mem_cons.mpr ⟨ok_X2_init, (List.forall_mem_cons.mpr ⟨ok_X2_make, (List.forall_mem_cons.mpr ⟨ok_X2_isSpent, (List.forall_mem_cons.mpr ⟨ok_X2_made, (List.forall_mem_cons.mpr ⟨ok_X2_takeWord, (List.forall_mem_cons.mpr ⟨ok_X2_takeMark, (List.forall_mem_cons.mpr ⟨ok_X2_open, (List.forall_mem_cons.mpr ⟨ok_X2_close, (List.forall_mem_cons.mpr ⟨ok_X2_takeBar, (List.forall_mem_cons.mpr ⟨ok_X2_takePoint, (List.forall_mem_cons.mpr ⟨ok_X2_startLevel, (List.forall_mem_cons.mpr ⟨ok_X2_startRow, (List.forall_mem_cons.mpr ⟨ok_X2_appendPiece, (List.forall_mem_cons.mpr ⟨ok_X2_endRow, (List.forall_mem_cons.mpr ⟨ok_X3_init, (List.forall_mem_cons.mpr ⟨ok_X3_clear, (List.forall_mem_cons.mpr ⟨ok_X3_size, (List.forall_mem_cons.mpr ⟨ok_X3_byteAt, (List.forall_mem_cons.mpr ⟨ok_X3_parsedAt, (List.forall_mem_cons.mpr ⟨ok_X3_put, (List.forall_mem_cons.mpr ⟨ok_X3_write, (List.forall_mem_cons.mpr ⟨ok_X3_enclose, (List.forall_mem_cons.mpr ⟨ok_X3_shown, (List.forall_mem_cons.mpr ⟨ok_X3_letterShown, (List.forall_mem_cons.mpr ⟨ok_X3_parse, (List.forall_mem_cons.mpr ⟨ok_X3_bareReading, (List.forall_mem_cons.mpr ⟨ok_X4_init, (List.forall_mem_cons.mpr ⟨ok_X4_isWord, (List.forall_mem_cons.mpr ⟨ok_X4_put, (List.forall_mem_cons.mpr ⟨ok_X4_size, (List.forall_mem_cons.mpr ⟨ok_X4_has, (List.forall_mem_cons.mpr ⟨ok_X4_mayBeOne, (List.forall_mem_cons.mpr ⟨ok_X4_sort, (List.forall_mem_cons.mpr ⟨ok_X4_belongs, (List.forall_mem_cons.mpr ⟨ok_X4_groupOf, (List.forall_mem_cons.mpr ⟨ok_X4_fatherOf, (List.forall_mem_cons.mpr ⟨ok_X4_isAhead, (List.forall_mem_cons.mpr ⟨ok_X5_init, (List.forall_mem_cons.mpr ⟨ok_X5_told, (List.forall_mem_cons.mpr ⟨ok_X5_packed, (List.forall_mem_cons.mpr ⟨ok_X5_kindOf, (List.forall_mem_cons.mpr ⟨ok_X5_mayOf, (List.forall_mem_cons.mpr ⟨ok_X5_isUnder, (List.forall_mem_cons.mpr ⟨ok_X5_putHand, (List.forall_mem_cons.mpr ⟨ok_X5_hands, (List.forall_mem_cons.mpr ⟨ok_X5_hasHand, (List.forall_mem_cons.mpr ⟨ok_X5_index, (List.forall_mem_cons.mpr ⟨ok_X5_at, (List.forall_mem_cons.mpr ⟨ok_X5_put, (List.forall_mem_cons.mpr ⟨ok_X5_leader, (List.forall_mem_cons.mpr ⟨ok_X5_leading, (List.forall_mem_cons.mpr ⟨ok_X5_dissenters, (List.forall_mem_cons.mpr ⟨ok_X6_init, (List.forall_mem_cons.mpr ⟨ok_X6_put, (List.forall_mem_cons.mpr ⟨ok_X6_size, (List.forall_mem_cons.mpr ⟨ok_X6_has, (List.forall_mem_cons.mpr ⟨ok_X6_hasLine, (List.forall_mem_cons.mpr ⟨ok_X6_hasPlace, (List.forall_mem_cons.mpr ⟨ok_X6_linesOf, (List.forall_mem_cons.mpr ⟨ok_X6_placesOf, (List.forall_mem_cons.mpr ⟨ok_X7_init, (List.forall_mem_cons.mpr ⟨ok_X7_clear, (List.forall_mem_cons.mpr ⟨ok_X7_add, (List.forall_mem_cons.mpr ⟨ok_X7_isWay, (List.forall_mem_cons.mpr ⟨ok_X7_letterOn, (List.forall_mem_cons.mpr ⟨ok_X7_countWays, (List.forall_mem_cons.mpr ⟨ok_X7_findWay, (List.forall_mem_cons.mpr ⟨ok_X7_carryNothing, (List.forall_mem_cons.mpr ⟨ok_X7_carry, (List.forall_mem_cons.mpr ⟨ok_X7_carriedAt, (List.forall_mem_cons.mpr ⟨ok_X8_init, (List.forall_mem_cons.mpr ⟨ok_X8_append, (List.forall_mem_cons.mpr ⟨ok_X8_clear, (List.forall_mem_cons.mpr ⟨ok_X8_size, (List.forall_mem_cons.mpr ⟨ok_X8_byteAt, (List.forall_mem_cons.mpr ⟨ok_X8_lettersFrom, (List.forall_mem_cons.mpr ⟨ok_X8_letterOf, (List.forall_mem_cons.mpr ⟨ok_X9_init, (List.forall_mem_cons.mpr ⟨ok_X9_clear, (List.forall_mem_cons.mpr ⟨ok_X9_size, (List.forall_mem_cons.mpr ⟨ok_X9_head, (List.forall_mem_cons.mpr ⟨ok_X9_tail, (List.forall_mem_cons.mpr ⟨ok_X9_letter, (List.forall_mem_cons.mpr ⟨ok_X9_codeAt, (List.forall_mem_cons.mpr ⟨ok_X9_lengthOf, (List.forall_mem_cons.mpr ⟨ok_X9_add, (List.forall_mem_cons.mpr ⟨ok_X9_addAll, (List.forall_mem_cons.mpr ⟨ok_X9_addPairs, (List.forall_mem_cons.mpr ⟨ok_X9_addPair, (List.forall_mem_cons.mpr ⟨ok_X9_copy, (List.forall_mem_cons.mpr ⟨ok_X10_init, (List.forall_mem_cons.mpr ⟨ok_X10_has, (List.forall_mem_cons.mpr ⟨ok_X10_isMissing, (List.forall_mem_cons.mpr ⟨ok_X10_sizeOf, (List.forall_mem_cons.mpr ⟨ok_X10_put, (List.forall_mem_cons.mpr ⟨ok_X10_set, (List.forall_mem_cons.mpr ⟨ok_X10_byteAt, (List.forall_mem_cons.mpr ⟨ok_X11_init, (List.forall_mem_cons.mpr ⟨ok_X11_stone, (List.forall_mem_cons.mpr ⟨ok_X11_hand, (List.forall_mem_cons.mpr ⟨ok_X11_read, (List.forall_mem_cons.mpr ⟨ok_X11_forget, (List.forall_mem_cons.mpr ⟨ok_X11_sign, (List.forall_mem_cons.mpr ⟨ok_X11_feed, (List.forall_mem_cons.mpr ⟨ok_X11_formula, (List.forall_mem_cons.mpr ⟨ok_X11_texts, (List.forall_mem_cons.mpr ⟨ok_X11_text, (List.forall_mem_cons.mpr ⟨ok_X11_ways, (List.forall_mem_cons.mpr ⟨ok_X11_way, (List.forall_mem_cons.mpr ⟨ok_X11_carried, (List.forall_mem_cons.mpr ⟨ok_X11_fits, (List.forall_mem_cons.mpr ⟨ok_X11_textsOf, (List.forall_mem_cons.mpr ⟨ok_X11_layBare, (List.forall_mem_cons.mpr ⟨ok_X11_layBareMore, (List.forall_mem_cons.mpr ⟨ok_X11_edge, (List.forall_mem_cons.mpr ⟨ok_X11_tolerance, (List.forall_mem_cons.mpr ⟨ok_X11_room, (List.forall_mem_cons.mpr ⟨ok_X11_best, (List.forall_mem_cons.mpr ⟨ok_X11_join, (List.forall_mem_cons.mpr ⟨ok_X11_part, (List.forall_mem_cons.mpr ⟨ok_X11_joined, (List.forall_mem_cons.mpr ⟨ok_X11_whole, (List.forall_mem_cons.mpr ⟨ok_X11_isSide, (List.forall_mem_cons.mpr ⟨ok_X11_years, (List.forall_mem_cons.mpr ⟨ok_X11_bound, (List.forall_mem_cons.mpr ⟨ok_X11_loose, (List.forall_mem_cons.mpr ⟨ok_X11_span, (List.forall_mem_cons.mpr ⟨ok_X11_clash, (List.forall_mem_cons.mpr ⟨ok_X11_person, (List.forall_mem_cons.mpr ⟨ok_X11_one, (List.forall_mem_cons.mpr ⟨ok_X11_group, (List.forall_mem_cons.mpr ⟨ok_X11_father, (List.forall_mem_cons.mpr ⟨ok_X11_print, (List.forall_mem_cons.mpr ⟨ok_X11_printed, (List.forall_mem_cons.mpr ⟨ok_X11_back, (List.forall_mem_cons.mpr ⟨ok_X11_count, (List.forall_mem_cons.mpr ⟨ok_X11_isFormulaOrNone, (List.forall_mem_cons.mpr ⟨ok_X11_setPage, (List.forall_mem_cons.mpr ⟨ok_X11_tray, (List.forall_mem_cons.mpr ⟨ok_X11_cell, (List.forall_mem_cons.mpr ⟨ok_X11_lay, (List.forall_mem_cons.mpr ⟨ok_X11_taken, (List.forall_mem_cons.mpr ⟨ok_X12_init, (List.forall_mem_cons.mpr ⟨ok_X12_isIn, (List.forall_mem_cons.mpr ⟨ok_X12_isStone, (List.forall_mem_cons.mpr ⟨ok_X12_isLine, (List.forall_mem_cons.mpr ⟨ok_X12_isPlace, (List.forall_mem_cons.mpr ⟨ok_X12_at, (List.forall_mem_cons.mpr ⟨ok_X12_stone, (List.forall_mem_cons.mpr ⟨ok_X12_hand, (List.forall_mem_cons.mpr ⟨ok_X12_reads, (List.forall_mem_cons.mpr ⟨ok_X12_read, (List.forall_mem_cons.mpr ⟨ok_X12_forget, (List.forall_mem_cons.mpr ⟨ok_X12_handOf, (List.forall_mem_cons.mpr ⟨ok_X12_kindOf, (List.forall_mem_cons.mpr ⟨ok_X12_mayOf, (List.forall_mem_cons.mpr ⟨ok_X12_sign, (List.forall_mem_cons.mpr ⟨ok_X12_feed, (List.forall_mem_cons.mpr ⟨ok_X12_isLetter, (List.forall_mem_cons.mpr ⟨ok_X12_token, (List.forall_mem_cons.mpr ⟨ok_X12_faults, (List.forall_mem_cons.mpr ⟨ok_X12_isAlike, (List.forall_mem_cons.mpr ⟨ok_X12_keeps, (List.forall_mem_cons.mpr ⟨ok_X12_copies, (List.forall_mem_cons.mpr ⟨ok_X12_all, (List.forall_mem_cons.mpr ⟨ok_X12_row, (List.forall_mem_cons.mpr ⟨ok_X12_joins, (List.forall_mem_cons.mpr ⟨ok_X12_piece, (List.forall_mem_cons.mpr ⟨ok_X12_isAhead, (List.forall_mem_cons.mpr ⟨ok_X12_formula, (List.forall_mem_cons.mpr ⟨ok_X12_isFormula, (List.forall_mem_cons.mpr ⟨ok_X12_texts, (List.forall_mem_cons.mpr ⟨ok_X12_told, (List.forall_mem_cons.mpr ⟨ok_X12_text, (List.forall_mem_cons.mpr ⟨ok_X12_letterAt, (List.forall_mem_cons.mpr ⟨ok_X12_goes, (List.forall_mem_cons.mpr ⟨ok_X12_waysOf, (List.forall_mem_cons.mpr ⟨ok_X12_ways, (List.forall_mem_cons.mpr ⟨ok_X12_way, (List.forall_mem_cons.mpr ⟨ok_X12_carriedOf, (List.forall_mem_cons.mpr ⟨ok_X12_carried, (List.forall_mem_cons.mpr ⟨ok_X12_fits, (List.forall_mem_cons.mpr ⟨ok_X12_edgeAt, (List.forall_mem_cons.mpr ⟨ok_X12_parts, (List.forall_mem_cons.mpr ⟨ok_X12_edge, (List.forall_mem_cons.mpr ⟨ok_X12_tolerance, (List.forall_mem_cons.mpr ⟨ok_X12_roomOf, (List.forall_mem_cons.mpr ⟨ok_X12_room, (List.forall_mem_cons.mpr ⟨ok_X12_bestOf, (List.forall_mem_cons.mpr ⟨ok_X12_best, (List.forall_mem_cons.mpr ⟨ok_X12_join, (List.forall_mem_cons.mpr ⟨ok_X12_part, (List.forall_mem_cons.mpr ⟨ok_X12_joined, (List.forall_mem_cons.mpr ⟨ok_X12_whole, (List.forall_mem_cons.mpr ⟨ok_X12_years, (List.forall_mem_cons.mpr ⟨ok_X12_bound, (List.forall_mem_cons.mpr ⟨ok_X12_loose, (List.forall_mem_cons.mpr ⟨ok_X12_clashes, (List.forall_mem_cons.mpr ⟨ok_X12_clashAll, (List.forall_mem_cons.mpr ⟨ok_X12_span, (List.forall_mem_cons.mpr ⟨ok_X12_clash, (List.forall_mem_cons.mpr ⟨ok_X12_isWord, (List.forall_mem_cons.mpr ⟨ok_X12_person, (List.forall_mem_cons.mpr ⟨ok_X12_mayBeOne, (List.forall_mem_cons.mpr ⟨ok_X12_isPerson, (List.forall_mem_cons.mpr ⟨ok_X12_one, (List.forall_mem_cons.mpr ⟨ok_X12_findGroups, (List.forall_mem_cons.mpr ⟨ok_X12_joinsGroup, (List.forall_mem_cons.mpr ⟨ok_X12_group, (List.forall_mem_cons.mpr ⟨ok_X12_father, (List.forall_mem_cons.mpr ⟨ok_X12_prints, (List.forall_mem_cons.mpr ⟨ok_X12_print, (List.forall_mem_cons.mpr ⟨ok_X12_printed, (List.forall_mem_cons.mpr ⟨ok_X12_isSign, (List.forall_mem_cons.mpr ⟨ok_X12_bitOf, (List.forall_mem_cons.mpr ⟨ok_X12_backs, (List.forall_mem_cons.mpr ⟨ok_X12_back, (List.forall_mem_cons.mpr ⟨ok_X12_count, (List.forall_mem_cons.mpr ⟨ok_X12_tray, (List.forall_mem_cons.mpr ⟨ok_X12_cell, (List.forall_mem_cons.mpr ⟨ok_X12_lay, (List.forall_mem_cons.mpr ⟨ok_X12_taken, (List.forall_mem_cons.mpr ⟨ok_J6_bitCount_0f7a4, (List.forall_mem_cons.mpr ⟨ok_J13_bitCount_95d88, (List.forall_mem_cons.mpr ⟨ok_J7_rangeCheck_23922, (List.forall_mem_cons.mpr ⟨ok_J7_fill_53178, (List.forall_mem_cons.mpr ⟨ok_J7_fill_eb02e, (List.forall_mem_cons.mpr ⟨ok_L_law, (fun _ h => absurd h List.not_mem_nil)⟩)⟩)⟩)⟩)⟩)⟩)⟩)⟩)⟩)⟩)⟩)⟩)⟩)⟩)⟩)⟩)⟩)⟩)⟩)⟩)⟩)⟩)⟩)⟩)⟩)⟩)⟩)⟩)⟩)⟩)⟩)⟩)⟩)⟩)⟩)⟩)⟩)⟩)⟩)⟩)⟩)⟩)⟩)⟩)⟩)⟩)⟩)⟩)⟩)⟩)⟩)⟩)⟩)⟩)⟩)⟩)⟩)⟩)⟩)⟩)⟩)⟩)⟩)⟩)⟩)⟩)⟩)⟩)⟩)⟩)⟩)⟩)⟩)⟩)⟩)⟩)⟩)⟩)⟩)⟩)⟩)⟩)⟩)⟩)⟩)⟩)⟩)⟩)⟩)⟩)⟩)⟩)⟩)⟩)⟩)⟩)⟩)⟩)⟩)⟩)⟩)⟩)⟩)⟩)⟩)⟩)⟩)⟩)⟩)⟩)⟩)⟩)⟩)⟩)⟩)⟩)⟩)⟩)⟩)⟩)⟩)⟩)⟩)⟩)⟩)⟩)⟩)⟩)⟩)⟩)⟩)⟩)⟩)⟩)⟩)⟩)⟩)⟩)⟩)⟩)⟩)⟩)⟩)⟩)⟩)⟩)⟩)⟩)⟩)⟩)⟩)⟩)⟩)⟩)⟩)⟩)⟩)⟩)⟩)⟩)⟩)⟩)⟩)⟩)⟩)⟩)⟩)⟩)⟩)⟩)⟩)⟩)⟩)⟩)⟩)⟩)⟩)⟩)⟩)⟩)⟩)⟩)⟩)⟩)⟩)⟩)⟩)⟩)⟩)⟩)⟩)⟩)⟩)⟩)⟩)⟩)⟩)⟩)⟩)⟩)⟩)⟩)⟩)⟩)⟩)⟩)⟩)⟩)⟩)⟩)⟩)⟩)⟩)⟩)⟩)⟩)⟩)⟩)⟩)⟩)⟩)⟩)⟩)⟩)⟩)⟩)⟩)⟩)⟩)⟩)⟩)⟩)⟩)⟩)⟩)⟩)⟩)⟩)⟩)⟩)⟩)⟩)⟩)⟩)⟩)⟩)⟩)⟩)⟩)⟩)⟩)⟩)
end
section
/-! ===== the machine's own state beside the plain one ===== -/
/-- class numbers and places of fields, classes of rows; where our cells begin; the script's cell, the table's cell; the script's size and ints -/
abbrev qCx : Type := va_G × (Nat → ClassId) × Nat × Nat × Nat × Nat × (Nat → Int32)
def qKA : Nat → Int32 := fun j => ([-1, 0, 0, 0, 3, 0] : List Int32).getD j 0
abbrev qAr (G : qCx) : Nat → Prop := fun q => G.2.2.1 ≤ q
def qV (ad : Nat → Nat) : Value → Value
  | .ref k => .ref (ad k)
  | v => v
def qLs (ad : Nat → Nat) (ls : List (Nat × Value)) : List (Nat × Value) := ls.map (fun q => (q.1, qV ad q.2))
def qFv (ad : Nat → Nat) (M : qM) (k f : Nat) : Value := match Nat.beq (qTf (qK k) f) 2 with
  | true => va_rf ((M.2.2.2.2 k f).map ad)
  | false => .int (M.2.2.1 k f)
def qF (G : qCx) (ad : Nat → Nat) (M : qM) (k : Nat) : va_E := match Nat.blt (qK k) 13 with
  | true => .inr (qK k, (List.range (qNf (qK k))).map (qFv ad M k))
  | false => .inl (G.2.1 (qK k), (qLen M.2.1 k, match Nat.beq (qK k) 15 with
    | true => .inr (.inl (M.2.2.2.1 k))
    | false => match Nat.beq (qK k) 17 with
      | true => .inr (.inr (.inr (.inr (fun j => (M.2.2.2.2 k j).map ad))))
      | false => .inl (M.2.2.1 k)))
def qW (ad : Nat → Nat) (n : Nat) (F : Nat → va_E) : va_W := (List.range n).map (fun k => (ad (k + 2), F (k + 2)))
def qTys (G : qCx) : List (ClassId × FieldType) := [(G.2.1 13, .byte), (G.2.1 14, .int), (G.2.1 15, .long), (G.2.1 16, .boolean), (G.2.1 17, .object RX9)]
def qRb (M : qM) : Prop := ∀ k f c : Nat, M.2.2.2.2 k f = some c → c < M.1 + 2
/-- the heap holds the plain machine's cells -/
def qRep (G : qCx) (ad : Nat → Nat) (M : qM) (H : Heap) : Prop :=
  va_P G.1 vwCl (qW ad M.1 (qF G ad M)) H ∧ va_D (qAr G) (qW ad M.1 (qF G ad M)) ∧ ad 0 = G.2.2.2.1 ∧ ad 1 = G.2.2.2.2.1 ∧ M.2.1 0 = G.2.2.2.2.2.1 ∧ M.2.2.1 0 = G.2.2.2.2.2.2 ∧ M.2.2.1 1 = qKA ∧ qRb M
/-- what a state knows of the tables -/
def qOn (G : qCx) (s : State) : Prop :=
  va_K G.1 vwCl (qTys G) s ∧ va_T .int G.2.2.2.1 G.2.2.2.2.2.1 (fun j => .int (G.2.2.2.2.2.2 j)) (qAr G) s s.heap ∧ va_T .int G.2.2.2.2.1 6 (fun j => .int (qKA j)) (qAr G) s s.heap ∧
  va_Z "InscribedStones" "KIND_ABOVE" "[I" (.ref G.2.2.2.2.1) (qAr G) s s.heap ∧ (∀ e ∈ qMN, va_Nw (.methodLinkNest (qCn e.1) e.2.2 (qLnY e.2.1) "InscribedStones") s) ∧
  va_Nw (.fieldLinkNest RX5 29 "InscribedStones" "KIND_ABOVE" "[I" "InscribedStones") s ∧ va_AO RX9 s
theorem qOn.to {G : qCx} {s U : State} (hW : s.WarmedH U.vm) (hU : ∀ a : Nat, a < s.heap.size → ¬ qAr G a → U.heap[a]? = s.heap[a]?) (h : qOn G s) : qOn G U := by
  obtain ⟨h1, h2, h3, h4, h5, h6, h7⟩ := h
  refine ⟨va_K.moved hW.alike h1, (h2.kept hU).moved hW.alike, (h3.kept hU).moved hW.alike, ?_, fun e he => va_Nw.warmM hW (h5 e he), va_Nw.warmF hW h6, va_AO.moved hW.alike h7⟩
  exact (h4.kept hU).moved hW.alike
theorem qOn.same {G : qCx} {s U : State} (hv : s.vm = U.vm) (hh : s.heap = U.heap) (h : qOn G s) : qOn G U := by
  obtain ⟨h1, h2, h3, h4, h5, h6, h7⟩ := h
  have ha : s.vm.Alike U.vm := by rw [← hv]; exact Vm.Alike.refl _
  rw [hh] at h2 h3 h4
  exact ⟨va_K.moved ha h1, h2.moved ha, h3.moved ha, h4.moved ha, fun e he => va_Nw.same rfl hv (h5 e he), va_Nw.same rfl hv h6, va_AO.moved ha h7⟩
theorem qV_cat (ad : Nat → Nat) (v : Value) : (qV ad v).category = v.category := by cases v <;> rfl
theorem qC2_cat (v : Value) : qC2 v = (v.category == 2) := by cases v <;> rfl
theorem qCat_sum (ad : Nat → Nat) (l : List Value) : ((l.map (qV ad)).map fun v => v.category).sum = qCat l := by
  induction l with
  | nil => rfl
  | cons v r ih =>
    simp only [List.map_cons, List.sum_cons, qCat, ih, qV_cat]
    cases v <;> simp [qC2, Value.category] <;> omega
theorem qCat_sl (ad : Nat → Nat) (l : List Value) : (lg_sl (l.map (qV ad))).length = qCat l := by
  induction l with
  | nil => rfl
  | cons v r ih =>
    have e : lg_sl ((v :: r).map (qV ad)) = (if (qV ad v).category = 2 then [Slot.val (qV ad v), .second] else [.val (qV ad v)]) ++ lg_sl (r.map (qV ad)) := by
      simp [lg_sl]
    rw [e, List.length_append, ih, qCat, qV_cat]
    cases v <;> simp [qC2, Value.category] <;> omega
theorem q_blt {a b : Nat} : Nat.blt a b = true ↔ a < b := ⟨fun h => Nat.le_of_ble_eq_true h, fun h => Nat.ble_eq_true_of_le h⟩
theorem q_beq {a b : Nat} : Nat.beq a b = (a == b) := by
  rw [Bool.eq_iff_iff]
  simp [Nat.beq_eq]
theorem qRm1_map (ad : Nat → Nat) (i : Nat) (ls : List (Nat × Value)) : (qLs ad ls).filter (fun q => !(q.1 == i) && !(q.1 + 1 == i && q.2.category == 2)) = qLs ad (qRm1 i ls) := by
  induction ls with
  | nil => rfl
  | cons q r ih =>
    obtain ⟨j, v⟩ := q
    have ih' : List.filter (fun q => !(q.1 == i) && !(q.1 + 1 == i && q.2.category == 2)) (r.map (fun q => (q.1, qV ad q.2))) = (qRm1 i r).map (fun q => (q.1, qV ad q.2)) := ih
    simp only [qLs, List.map_cons, qRm1, List.filter_cons, qV_cat, qC2_cat, ih']
    simp only [q_beq]
    cases (j == i) <;> cases (j + 1 == i) <;> cases (v.category == 2) <;> simp
theorem qRm2_map (ad : Nat → Nat) (i : Nat) (ls : List (Nat × Value)) : (qLs ad ls).filter (fun q => !(q.1 == i) && (!(q.1 == i + 1) && !(q.1 + 1 == i && q.2.category == 2))) = qLs ad (qRm2 i ls) := by
  induction ls with
  | nil => rfl
  | cons q r ih =>
    obtain ⟨j, v⟩ := q
    have ih' : List.filter (fun q => !(q.1 == i) && (!(q.1 == i + 1) && !(q.1 + 1 == i && q.2.category == 2))) (r.map (fun q => (q.1, qV ad q.2))) = (qRm2 i r).map (fun q => (q.1, qV ad q.2)) := ih
    simp only [qLs, List.map_cons, qRm2, List.filter_cons, qV_cat, qC2_cat, ih']
    simp only [q_beq]
    cases (j == i) <;> cases (j == i + 1) <;> cases (j + 1 == i) <;> cases (v.category == 2) <;> simp
theorem qLk_at {ad : Nat → Nat} {lsA : Array Slot} {nL : Nat} {ls : List (Nat × Value)} (h : lv_has lsA nL (qLs ad ls)) {k : Nat} {v : Value} (hk : qLk ls k = some v) : lsA[k]? = some (.val (qV ad v)) := by
  have key : ∀ l : List (Nat × Value), qLk l k = some v → (k, v) ∈ l := by
    intro l
    induction l with
    | nil => intro h; cases h
    | cons q r ih =>
      obtain ⟨i, w⟩ := q
      intro h
      unfold qLk at h
      cases hb : Nat.beq i k with
      | true =>
        rw [hb] at h
        cases h
        have := Nat.eq_of_beq_eq_true hb
        subst this
        exact List.mem_cons_self
      | false =>
        rw [hb] at h
        exact List.mem_cons_of_mem _ (ih h)
  exact h.2.2 (k, qV ad v) (List.mem_map_of_mem (f := fun q : Nat × Value => (q.1, qV ad q.2)) (key ls hk))
theorem qLk_mem {ls : List (Nat × Value)} {k : Nat} {v : Value} (hk : qLk ls k = some v) : (k, v) ∈ ls := by
  induction ls with
  | nil => cases hk
  | cons q r ih =>
    obtain ⟨i, w⟩ := q
    unfold qLk at hk
    cases hb : Nat.beq i k with
    | true =>
      rw [hb] at hk
      cases hk
      have := Nat.eq_of_beq_eq_true hb
      subst this
      exact List.mem_cons_self
    | false =>
      rw [hb] at hk
      exact List.mem_cons_of_mem _ (ih hk)
/-! the world of the cells -/
theorem qW_get {ad : Nat → Nat} {n a : Nat} {F : Nat → va_E} (h2 : 2 ≤ a) (h : a < n + 2) : (qW ad n F)[a - 2]? = some (ad a, F a) := by
  have e : a - 2 + 2 = a := by omega
  simp [qW, List.getElem?_map, List.getElem?_range (show a - 2 < n by omega), e]
theorem qW_ext {ad ad' : Nat → Nat} {n : Nat} {F F' : Nat → va_E} (h : ∀ k, 2 ≤ k → k < n + 2 → ad k = ad' k ∧ F k = F' k) : qW ad n F = qW ad' n F' := by
  unfold qW
  apply List.map_congr_left
  intro k hk
  have := List.mem_range.mp hk
  obtain ⟨h1, h2⟩ := h (k + 2) (by omega) (by omega)
  rw [h1, h2]
theorem qW_set {ad : Nat → Nat} {n a : Nat} {F F' : Nat → va_E} {e : va_E} (h2 : 2 ≤ a) (h : a < n + 2) (he : F' a = e) (hne : ∀ k, k ≠ a → F' k = F k) : (qW ad n F).set (a - 2) (ad a, e) = qW ad n F' := by
  apply List.ext_getElem?
  intro i
  rw [List.getElem?_set]
  by_cases hi : a - 2 = i
  · subst hi
    rw [if_pos rfl, if_pos (by simp [qW]; omega), qW_get h2 h, he]
  · rw [if_neg hi]
    by_cases hl : i < n
    · have e1 : i = (i + 2) - 2 := by omega
      rw [e1, qW_get (by omega) (by omega), qW_get (by omega) (by omega), hne _ (by omega)]
    · simp [qW, List.getElem?_range, hl]
theorem qW_push {ad : Nat → Nat} {n q : Nat} {F F' : Nat → va_E} {e : va_E} (he : F' (n + 2) = e) (hF : ∀ k, 2 ≤ k → k < n + 2 → F' k = F k) : qW ad n F ++ [(q, e)] = qW (fun k => if k = n + 2 then q else ad k) (n + 1) F' := by
  unfold qW
  rw [List.range_succ, List.map_append]
  congr 1
  · apply List.map_congr_left
    intro k hk
    have := List.mem_range.mp hk
    show (ad (k + 2), F (k + 2)) = (if k + 2 = n + 2 then q else ad (k + 2), F' (k + 2))
    rw [if_neg (by omega), hF (k + 2) (by omega) (by omega)]
  · simp [he]
theorem q_set_map {n f : Nat} {g g' : Nat → Value} {v : Value} (h : g' f = v) (h2 : ∀ j, j ≠ f → g' j = g j) : ((List.range n).map g).set f v = (List.range n).map g' := by
  apply List.ext_getElem?
  intro i
  rw [List.getElem?_set]
  by_cases hi : f = i
  · subst hi
    rw [if_pos rfl]
    by_cases hl : f < n
    · rw [if_pos (by simpa using hl)]
      simp [List.getElem?_map, List.getElem?_range hl, h]
    · rw [if_neg (by simpa using hl)]
      simp [List.getElem?_map, List.getElem?_range, hl]
  · rw [if_neg hi]
    by_cases hl : i < n
    · simp [List.getElem?_map, List.getElem?_range hl, h2 i (Ne.symm hi)]
    · simp [List.getElem?_map, List.getElem?_range, hl]
theorem q2_ne {α : Type} {f : Nat → Nat → α} {a j k : Nat} {v : α} (h : k ≠ a) : q2 f a j v k = f k := by
  funext i
  simp [q2, h]
theorem q2_at {α : Type} {f : Nat → Nat → α} {a j : Nat} {v : α} : q2 f a j v a j = v := by simp [q2]
theorem q2_nj {α : Type} {f : Nat → Nat → α} {a j i : Nat} {v : α} (h : i ≠ j) : q2 f a j v a i = f a i := by simp [q2, h]
theorem qRow_ne {α : Type} {f : Nat → Nat → α} {a k : Nat} {g : Nat → α} (h : k ≠ a) : qRow f a g k = f k := by simp [qRow, h]
theorem qRow_at {α : Type} {f : Nat → Nat → α} {a : Nat} {g : Nat → α} : qRow f a g a = g := by simp [qRow]
theorem qUp_ne {f : Nat → Nat} {a k v : Nat} (h : k ≠ a) : qUp f a v k = f k := by simp [qUp, h]
theorem qLen_ne {f : Nat → Nat} {a k v : Nat} (h : k ≠ a) : qLen (qUp f a v) k = qLen f k := by simp [qLen, qUp, h]
/-- a cell is the same where its own parts are -/
theorem qF_eq {G : qCx} {ad ad' : Nat → Nat} {M M' : qM} {k : Nat} (h1 : qLen M'.2.1 k = qLen M.2.1 k) (h2 : M'.2.2.1 k = M.2.2.1 k) (h3 : M'.2.2.2.1 k = M.2.2.2.1 k) (h4 : ∀ j, (M'.2.2.2.2 k j).map ad' = (M.2.2.2.2 k j).map ad) : qF G ad' M' k = qF G ad M k := by
  unfold qF
  rw [h1, h2, h3]
  have e : qFv ad' M' k = qFv ad M k := by
    funext f
    unfold qFv
    rw [h2, h4]
  have e2 : (fun j => (M'.2.2.2.2 k j).map ad') = (fun j => (M.2.2.2.2 k j).map ad) := funext h4
  rw [e, e2]
theorem qF_obj {G : qCx} {ad : Nat → Nat} {M : qM} {k ci : Nat} (h : qK k = ci) (hc : ci < 13) : qF G ad M k = .inr (ci, (List.range (qNf ci)).map (qFv ad M k)) := by
  unfold qF
  rw [h]
  have : Nat.blt ci 13 = true := q_blt.mpr hc
  rw [this]
theorem qF_int {G : qCx} {ad : Nat → Nat} {M : qM} {k c : Nat} (h : qK k = c) (hc : c = 13 ∨ c = 14 ∨ c = 16) : qF G ad M k = .inl (G.2.1 c, (qLen M.2.1 k, .inl (M.2.2.1 k))) := by
  unfold qF
  rw [h]
  rcases hc with rfl | rfl | rfl <;> rfl
theorem qF_long {G : qCx} {ad : Nat → Nat} {M : qM} {k : Nat} (h : qK k = 15) : qF G ad M k = .inl (G.2.1 15, (qLen M.2.1 k, .inr (.inl (M.2.2.2.1 k)))) := by
  unfold qF
  rw [h]
  rfl
theorem qF_ref {G : qCx} {ad : Nat → Nat} {M : qM} {k : Nat} (h : qK k = 17) : qF G ad M k = .inl (G.2.1 17, (qLen M.2.1 k, .inr (.inr (.inr (.inr (fun j => (M.2.2.2.2 k j).map ad)))))) := by
  unfold qF
  rw [h]
  rfl
/-! shapes of the stack -/
theorem qI1_of {st : List Value} {f : Int32 → List Value → Prop} (h : qI1 st f) : ∃ x r, st = .int x :: r ∧ f x r := by
  unfold qI1 at h
  split at h
  · exact ⟨_, _, rfl, h⟩
  · exact h.elim
theorem qI2_of {st : List Value} {f : Int32 → Int32 → List Value → Prop} (h : qI2 st f) : ∃ x y r, st = .int y :: .int x :: r ∧ f x y r := by
  unfold qI2 at h
  split at h
  · exact ⟨_, _, _, rfl, h⟩
  · exact h.elim
theorem qL1_of {st : List Value} {f : Int64 → List Value → Prop} (h : qL1 st f) : ∃ x r, st = .long x :: r ∧ f x r := by
  unfold qL1 at h
  split at h
  · exact ⟨_, _, rfl, h⟩
  · exact h.elim
theorem qL2_of {st : List Value} {f : Int64 → Int64 → List Value → Prop} (h : qL2 st f) : ∃ x y r, st = .long y :: .long x :: r ∧ f x y r := by
  unfold qL2 at h
  split at h
  · exact ⟨_, _, _, rfl, h⟩
  · exact h.elim
theorem qLI_of {st : List Value} {f : Int64 → Int32 → List Value → Prop} (h : qLI st f) : ∃ x y r, st = .int y :: .long x :: r ∧ f x y r := by
  unfold qLI at h
  split at h
  · exact ⟨_, _, _, rfl, h⟩
  · exact h.elim
theorem qA1_of {st : List Value} {f : Nat → List Value → Prop} (h : qA1 st f) : ∃ a r, st = .ref a :: r ∧ f a r := by
  unfold qA1 at h
  split at h
  · exact ⟨_, _, rfl, h⟩
  · exact h.elim
theorem qAn_of {st : List Value} {g : List Value → Prop} {f : Nat → List Value → Prop} (h : qAn st g f) : (∃ a r, st = .ref a :: r ∧ f a r) ∨ ∃ r, st = .null :: r ∧ g r := by
  unfold qAn at h
  split at h
  · exact Or.inl ⟨_, _, rfl, h⟩
  · exact Or.inr ⟨_, rfl, h⟩
  · exact h.elim
theorem qAI_of {st : List Value} {f : Nat → Int32 → List Value → Prop} (h : qAI st f) : ∃ a i r, st = .int i :: .ref a :: r ∧ f a i r := by
  unfold qAI at h
  split at h
  · exact ⟨_, _, _, rfl, h⟩
  · exact h.elim
theorem qAII_of {st : List Value} {f : Nat → Int32 → Int32 → List Value → Prop} (h : qAII st f) : ∃ a i x r, st = .int x :: .int i :: .ref a :: r ∧ f a i x r := by
  unfold qAII at h
  split at h
  · exact ⟨_, _, _, _, rfl, h⟩
  · exact h.elim
theorem qAIL_of {st : List Value} {f : Nat → Int32 → Int64 → List Value → Prop} (h : qAIL st f) : ∃ a i x r, st = .long x :: .int i :: .ref a :: r ∧ f a i x r := by
  unfold qAIL at h
  split at h
  · exact ⟨_, _, _, _, rfl, h⟩
  · exact h.elim
theorem qAIA_of {st : List Value} {f : Nat → Int32 → Option Nat → List Value → Prop} (h : qAIA st f) : ∃ a i v r, st = va_rf v :: .int i :: .ref a :: r ∧ f a i v r := by
  unfold qAIA at h
  split at h
  · exact ⟨_, _, some _, _, rfl, h⟩
  · exact ⟨_, _, none, _, rfl, h⟩
  · exact h.elim
theorem qIA_of {st : List Value} {f : Nat → Int32 → List Value → Prop} (h : qIA st f) : ∃ a x r, st = .int x :: .ref a :: r ∧ f a x r := by
  unfold qIA at h
  split at h
  · exact ⟨_, _, _, rfl, h⟩
  · exact h.elim
theorem qVA_of {st : List Value} {f : Nat → Option Nat → List Value → Prop} (h : qVA st f) : ∃ a v r, st = va_rf v :: .ref a :: r ∧ f a v r := by
  unfold qVA at h
  split at h
  · exact ⟨_, some _, _, rfl, h⟩
  · exact ⟨_, none, _, rfl, h⟩
  · exact h.elim
theorem qCp_of {st : List Value} {f : Nat → Int32 → Nat → Int32 → Int32 → List Value → Prop} (h : qCp st f) : ∃ s sp d dp n r, st = .int n :: .int dp :: .ref d :: .int sp :: .ref s :: r ∧ f s sp d dp n r := by
  unfold qCp at h
  split at h
  · exact ⟨_, _, _, _, _, _, rfl, h⟩
  · exact h.elim
theorem qLdI_of {ls : List (Nat × Value)} {k : Nat} {f : Int32 → Prop} (h : qLdI ls k f) : ∃ x, qLk ls k = some (.int x) ∧ f x := by
  unfold qLdI at h
  split at h
  · rename_i x hx
    exact ⟨x, hx, h⟩
  · exact h.elim
theorem qLdL_of {ls : List (Nat × Value)} {k : Nat} {f : Int64 → Prop} (h : qLdL ls k f) : ∃ x, qLk ls k = some (.long x) ∧ f x := by
  unfold qLdL at h
  split at h
  · rename_i x hx
    exact ⟨x, hx, h⟩
  · exact h.elim
theorem qLdA_of {ls : List (Nat × Value)} {k : Nat} {f : Value → Prop} (h : qLdA ls k f) : (∃ a, qLk ls k = some (.ref a) ∧ f (.ref a)) ∨ (qLk ls k = some .null ∧ f .null) := by
  unfold qLdA at h
  split at h
  · rename_i x hx
    exact Or.inl ⟨x, hx, h⟩
  · rename_i hx
    exact Or.inr ⟨hx, h⟩
  · exact h.elim
theorem qIf_of {b : Bool} {k : Prop} (h : qIf b k) : b = true ∧ k := by
  cases b with
  | true => exact ⟨rfl, h⟩
  | false => exact h.elim
theorem qIs_of {a ci : Nat} {k : Prop} (h : qIs a ci k) : qK a = ci ∧ k := by
  unfold qIs at h
  cases hb : Nat.beq (qK a) ci with
  | true =>
    rw [hb] at h
    exact ⟨Nat.eq_of_beq_eq_true hb, h⟩
  | false =>
    rw [hb] at h
    exact h.elim
theorem qIn_of {ph : Bool} {a : Nat} {M : qM} {k : Prop} (hs : ph = true → qStat M) (h : qIn ph a M k) : a < M.1 + 2 ∧ k := by
  unfold qIn at h
  cases hb : (ph && Nat.blt a qBase) with
  | true =>
    rw [hb] at h
    simp only [Bool.and_eq_true] at hb
    have h1 : a < qBase := q_blt.mp hb.2
    exact ⟨Nat.lt_of_lt_of_le h1 (hs hb.1).1, h⟩
  | false =>
    rw [hb] at h
    exact h
theorem qK_lo {a c : Nat} (h : qK a = c) (hc : c ≠ 18) : 2 ≤ a := by
  rcases a with _ | _ | a
  · exact absurd (show qK 0 = 18 from rfl) (by rw [h]; exact hc)
  · exact absurd (show qK 1 = 18 from rfl) (by rw [h]; exact hc)
  · omega
end
section
/-! facts of the classes, and of a row of the tables -/
def qTy (ci : Nat) : Nat → FieldType := ([tyX0, tyX1, tyX2, tyX3, tyX4, tyX5, tyX6, tyX7, tyX8, tyX9, tyX10, tyX11, tyX12] : List (Nat → FieldType)).getD ci tyX0
def qTok (ci k : Nat) : Bool := match qTf ci k, qTy ci k with
  | 0, .int => true
  | 1, .boolean => true
  | 2, .object _ => true
  | 2, .array _ => true
  | _, _ => false
def qClsOK (ci : Nat) : Prop := vwCl[ci]? = some (qCls ci) ∧ (∀ w ∈ u_ws (qCls ci).1 (qCls ci).2.1 (qCls ci).2.2, w ∈ qTbl) ∧ (qCls ci).2.2 = qNf ci ∧ (∀ a, a < (qCls ci).2.2 → ∀ b, b < (qCls ci).2.2 → a ≠ b → ((qCls ci).2.1 a).2.1 ≠ ((qCls ci).2.1 b).2.1) ∧ (∀ k, k < (qCls ci).2.2 → parseFieldDescriptor ((qCls ci).2.1 k).2.2.1 = some (qTy ci k)) ∧ (∀ k, k < (qCls ci).2.2 → ((qCls ci).2.1 k).1 = (qCls ci).1 ∧ qTok ci k = true) ∧ (qCls ci).1 = qCn ci
theorem q_cls0 : qClsOK 0 := ⟨rfl, q_lay0, rfl, nmX0, tyX0_ok, by decide +kernel, rfl⟩
theorem q_cls1 : qClsOK 1 := ⟨rfl, q_lay1, rfl, nmX1, tyX1_ok, by decide +kernel, rfl⟩
theorem q_cls2 : qClsOK 2 := ⟨rfl, q_lay2, rfl, nmX2, tyX2_ok, by decide +kernel, rfl⟩
theorem q_cls3 : qClsOK 3 := ⟨rfl, q_lay3, rfl, nmX3, tyX3_ok, by decide +kernel, rfl⟩
theorem q_cls4 : qClsOK 4 := ⟨rfl, q_lay4, rfl, nmX4, tyX4_ok, by decide +kernel, rfl⟩
theorem q_cls5 : qClsOK 5 := ⟨rfl, q_lay5, rfl, nmX5, tyX5_ok, by decide +kernel, rfl⟩
theorem q_cls6 : qClsOK 6 := ⟨rfl, q_lay6, rfl, nmX6, tyX6_ok, by decide +kernel, rfl⟩
theorem q_cls7 : qClsOK 7 := ⟨rfl, q_lay7, rfl, nmX7, tyX7_ok, by decide +kernel, rfl⟩
theorem q_cls8 : qClsOK 8 := ⟨rfl, q_lay8, rfl, nmX8, tyX8_ok, by decide +kernel, rfl⟩
theorem q_cls9 : qClsOK 9 := ⟨rfl, q_lay9, rfl, nmX9, tyX9_ok, by decide +kernel, rfl⟩
theorem q_cls10 : qClsOK 10 := ⟨rfl, q_lay10, rfl, nmX10, tyX10_ok, by decide +kernel, rfl⟩
theorem q_cls11 : qClsOK 11 := ⟨rfl, q_lay11, rfl, nmX11, tyX11_ok, by decide +kernel, rfl⟩
theorem q_cls12 : qClsOK 12 := ⟨rfl, q_lay12, rfl, nmX12, tyX12_ok, by decide +kernel, rfl⟩
theorem q_cls {ci : Nat} (h : ci < 13) : qClsOK ci := by
  match ci, h with
  | 0, _ => exact q_cls0
  | 1, _ => exact q_cls1
  | 2, _ => exact q_cls2
  | 3, _ => exact q_cls3
  | 4, _ => exact q_cls4
  | 5, _ => exact q_cls5
  | 6, _ => exact q_cls6
  | 7, _ => exact q_cls7
  | 8, _ => exact q_cls8
  | 9, _ => exact q_cls9
  | 10, _ => exact q_cls10
  | 11, _ => exact q_cls11
  | 12, _ => exact q_cls12
theorem qFind_mem : ∀ (b : List (Nat × Instr × Nat)) (pc : Nat) (x : Instr × Nat), qFind b pc = some x → (pc, x) ∈ b := by
  intro b
  induction b with
  | nil => intro pc x h; cases h
  | cons q r ih =>
    intro pc x h
    obtain ⟨i, y⟩ := q
    unfold qFind at h
    cases hb : Nat.beq i pc with
    | true =>
      rw [hb] at h
      cases h
      have := Nat.eq_of_beq_eq_true hb
      subst this
      exact List.mem_cons_self
    | false =>
      rw [hb] at h
      exact List.mem_cons_of_mem _ (ih pc x h)
theorem qFindB_mem : ∀ (l : List (Nat × List (Nat × Instr × Nat))) (pc : Nat) (x : Instr × Nat), qFindB l pc = some x → ∃ b ∈ l, (pc, x) ∈ b.2 := by
  intro l
  induction l with
  | nil => intro pc x h; cases h
  | cons q r ih =>
    intro pc x h
    obtain ⟨i, y⟩ := q
    unfold qFindB at h
    cases hb : Nat.ble pc i with
    | true =>
      rw [hb] at h
      exact ⟨_, List.mem_cons_self, qFind_mem y pc x h⟩
    | false =>
      rw [hb] at h
      obtain ⟨b, h1, h2⟩ := ih pc x h
      exact ⟨b, List.mem_cons_of_mem _ h1, h2⟩
theorem q_chk {T : qT} (hT : qOKm T = true) {pc : Nat} {ins : Instr} {len : Nat} (h : qFindB (qBl T) pc = some (ins, len)) : qChk T (pc, ins, len) = true := by
  obtain ⟨b, h1, h2⟩ := qFindB_mem _ _ _ h
  unfold qOKm at hT
  simp only [Bool.and_eq_true] at hT
  exact List.all_eq_true.mp (List.all_eq_true.mp hT.1 b h1) _ h2
theorem q_dec {T : qT} {pc : Nat} {ins : Instr} {len : Nat} (hk : qChk T (pc, ins, len) = true) : ∃ raw, qRaw (qOc T) pc ins = some raw ∧ decode (qB T) pc = .ok (raw, len) ∧ len = qIl ins len ∧ qEx T ins = true := by
  unfold qChk at hk
  dsimp only at hk
  cases hr : qRaw (qOc T) pc ins with
  | none => rw [hr] at hk; cases hk
  | some raw =>
    rw [hr] at hk
    simp only [Bool.and_eq_true, decide_eq_true_eq] at hk
    exact ⟨raw, rfl, hk.1, Nat.eq_of_beq_eq_true hk.2.1, hk.2.2⟩
theorem q_dec1 {T : qT} {pc : Nat} {ins raw : Instr} {len : Nat} (n : Nat) (hk : qChk T (pc, ins, len) = true) (hr : qRaw (qOc T) pc ins = some raw) (hl : qIl ins len = n) : decode (qB T) pc = .ok (raw, n) ∧ len = n ∧ qEx T ins = true := by
  obtain ⟨raw', h1, h2, h3, h4⟩ := q_dec hk
  have e : raw = raw' := Option.some.inj (hr.symm.trans h1)
  have e2 : len = n := h3.trans hl
  rw [e, ← e2]
  exact ⟨h2, rfl, h4⟩
theorem q_dec2 {T : qT} {pc : Nat} {ins : Instr} {len : Nat} (n : Nat) {o : Option Nat} {f : Nat → Instr} (hk : qChk T (pc, ins, len) = true) (hr : qRaw (qOc T) pc ins = o.map f) (hl : qIl ins len = n) : ∃ x, o = some x ∧ decode (qB T) pc = .ok (f x, n) ∧ len = n ∧ qEx T ins = true := by
  obtain ⟨raw', h1, h2, h3, h4⟩ := q_dec hk
  have e2 : len = n := h3.trans hl
  cases o with
  | none => rw [hr] at h1; cases h1
  | some x =>
    rw [hr] at h1
    have e : f x = raw' := Option.some.inj h1
    rw [← e, e2] at h2
    exact ⟨x, rfl, h2, e2, h4⟩
theorem q_tgt {pc : Nat} {t : Int} (h : decide (0 ≤ t) = true) : (pc : Int) + (t - pc) = (t.toNat : Int) := by
  have := of_decide_eq_true h
  omega
/-! a method's frame -/
def qRm (T : qT) (d : Nat) : Room := { frames := d, cells := qMc T, slots := qMs T, locals := 40 * d }
def qWs (T : qT) : List Cond := .code (qY T) (qB T) (qLo T) (qRt T) :: qTbl
def qFr (G : qCx) (T : qT) (d : Nat) (p : Program) (R : Room) (s : State) (m : MethodId) (args : Array Value) (meth : Method) (c : Code) : Prop :=
  p.tables.exec = Jvm.exec ∧ c.code = qB T ∧ c.maxLocals = qLo T ∧ meth.sig.returnType = qRt T ∧ meth.locks = false ∧ ((qY T).name = "<init>" → meth.name = "<init>") ∧ s.vm.findClass (qCn (qOc T)) = some m.cls ∧ (∀ w ∈ qTbl, w.before args s = true) ∧ qOn G s ∧ (d + 1 ≤ R.frames ∧ 40 * (d + 1) ≤ R.locals ∧ qMc T ≤ R.cells ∧ qMs T ≤ R.slots) ∧ G.2.2.1 ≤ s.heap.size
/-- from a state of the plain machine the frame comes to an end with Qf; ad0, n0: the addresses and the number of cells at the frame's start -/
def qS (G : qCx) (T : qT) (ad0 : Nat → Nat) (n0 : Nat) (p : Program) (l : Launch) (e : Env) (R : Room) (s : State) (m : MethodId) (args : Array Value) (below : List Frame) (meth : Method) (c : Code) (Qf : State → Prop) : qX := fun pc ls st uc us M =>
  uc ≤ qMc T → us ≤ qMs T → (qPh T = true → qStat M) → n0 ≤ M.1 → ∀ ad : Nat → Nat, (∀ k, k < n0 + 2 → ad k = ad0 k) → (qMc T = 0 → ad = ad0) → ∀ (H : Heap) (locs : List Loc) (lsA : Array Slot), lv_has lsA (qLo T) (qLs ad ls) → qRep G ad M H → va_S (qAr G) s.heap H locs →
    W p l e R s m args below meth c H locs uc us Qf (F0 m pc lsA (st.map (qV ad)))
def qRk (T : qT) (ins : Instr) (v : Option Value) : Prop :=
  (∃ x, ins = .ireturn ∧ v = some (.int x) ∧ (qRt T = some .int ∨ (qRt T = some .boolean ∧ (x = 0 ∨ x = 1)))) ∨ (∃ x, ins = .lreturn ∧ v = some (.long x) ∧ qRt T = some .long) ∨
  (∃ w, ins = .areturn ∧ v = some w ∧ (w = .null ∨ ∃ a, w = .ref a) ∧ ∃ C, qRt T = some (.object C)) ∨ (ins = .return_ ∧ v = none ∧ qRt T = none)
/-- what a method's end must give -/
def qRet (G : qCx) (T : qT) (Q : qP) (ad0 : Nat → Nat) (n0 : Nat) (p : Program) (l : Launch) (e : Env) (R : Room) (s : State) (m : MethodId) (args : Array Value) (below : List Frame) (meth : Method) (c : Code) (Qf : State → Prop) : Prop :=
  ∀ (pc : Nat) (ins : Instr) (v : Option Value) (M : qM) (ad : Nat → Nat) (H : Heap) (locs : List Loc) (lsA : Array Slot), decode (qB T) pc = .ok (ins, 1) → qRk T ins v → Q v M → n0 ≤ M.1 → (qPh T = true → qStat M) → (∀ k, k < n0 + 2 → ad k = ad0 k) → (qMc T = 0 → ad = ad0) → qRep G ad M H → va_S (qAr G) s.heap H locs →
    W p l e R s m args below meth c H locs (qMc T) (qMs T) Qf (F0 m pc lsA ((v.map (qV ad)).toList))
/-- a method's contract -/
def qPc (G : qCx) (T : qT) (ad : Nat → Nat) (as : List Value) (M : qM) : Array Value → State → Prop := va_Pc (as.map (qV ad)) (fun U => qRep G ad M U.heap ∧ qOn G U ∧ (qPh T = true → qStat M) ∧ G.2.2.1 ≤ U.heap.size)
def qQc (G : qCx) (T : qT) (Q : qP) (ad0 : Nat → Nat) (n0 : Nat) : Array Value → State → Outcome → State → Prop := fun _ st oc t =>
  (∃ (v : Option Value) (M : qM) (ad : Nat → Nat), oc = .returned (v.map (qV ad)) ∧ Q v M ∧ (qPh T = true → qStat M) ∧ n0 ≤ M.1 ∧ (∀ k, k < n0 + 2 → ad k = ad0 k) ∧ (qMc T = 0 → ad = ad0) ∧ qRep G ad M t.heap) ∧ va_F (qAr G) st t
def qHc (G : qCx) (l : Launch) (d : Nat) (cs : qC) : Prop := ∀ (j : Nat) (as : List Value) (M : qM) (Q : qP) (ad : Nat → Nat), cs j as M Q → j < qAll.length ∧ Met l (qY (qTab j)) (qWs (qTab j)) (qRm (qTab j) d) (qPc G (qTab j) ad as M) (qQc G (qTab j) Q ad M.1) (qMc (qTab j)) (qMs (qTab j)) (qAr G)
theorem qTab_ok {j : Nat} (h : j < qAll.length) : qOKm (qTab j) = true := by
  have : qTab j = qAll[j] := by simp [qTab, List.getD_eq_getElem?_getD, h]
  rw [this]
  exact qAll_ok _ (List.getElem_mem h)
section QSTEP
variable {G : qCx} {T : qT} {ad0 : Nat → Nat} {n0 d : Nat} {p : Program} {l : Launch} {e : Env} {R : Room} {s : State} {m : MethodId} {args : Array Value} {below : List Frame} {meth : Method} {c : Code} {Qf : State → Prop}
variable {pc : Nat} {ls : List (Nat × Value)} {st : List Value} {uc us : Nat} {M : qM}

theorem qs_iconst {n : Int} {len : Nat} (hF : qFr G T d p R s m args meth c) {X : qX} (hX : ∀ pc ls st uc us M, X pc ls st uc us M → qS G T ad0 n0 p l e R s m args below meth c Qf pc ls st uc us M) (hk : qChk T (pc, .iconst n, len) = true) (h : X (pc + len) ls (.int (Int32.ofInt n) :: st) uc us M) : qS G T ad0 n0 p l e R s m args below meth c Qf pc ls st uc us M := by
  obtain ⟨hd, rfl, -⟩ := q_dec1 1 hk rfl rfl
  intro h1 h2 h3 h4 ad h5 h6 H locs lsA hl hP hS
  exact lv_iconst hF.1 hF.2.1 hd rfl (hX _ _ _ _ _ _ h h1 h2 h3 h4 ad h5 h6 H locs lsA hl hP hS)
theorem qs_bipush {n : Int} {len : Nat} (hF : qFr G T d p R s m args meth c) {X : qX} (hX : ∀ pc ls st uc us M, X pc ls st uc us M → qS G T ad0 n0 p l e R s m args below meth c Qf pc ls st uc us M) (hk : qChk T (pc, .bipush n, len) = true) (h : X (pc + len) ls (.int (Int32.ofInt n) :: st) uc us M) : qS G T ad0 n0 p l e R s m args below meth c Qf pc ls st uc us M := by
  obtain ⟨hd, rfl, hex⟩ := q_dec1 2 hk rfl rfl
  intro h1 h2 h3 h4 ad h5 h6 H locs lsA hl hP hS
  exact lv_bipush hF.1 hF.2.1 hd (of_decide_eq_true hex) (hX _ _ _ _ _ _ h h1 h2 h3 h4 ad h5 h6 H locs lsA hl hP hS)
theorem qs_sipush {n : Int} {len : Nat} (hF : qFr G T d p R s m args meth c) {X : qX} (hX : ∀ pc ls st uc us M, X pc ls st uc us M → qS G T ad0 n0 p l e R s m args below meth c Qf pc ls st uc us M) (hk : qChk T (pc, .sipush n, len) = true) (h : X (pc + len) ls (.int (Int32.ofInt n) :: st) uc us M) : qS G T ad0 n0 p l e R s m args below meth c Qf pc ls st uc us M := by
  obtain ⟨hd, rfl, hex⟩ := q_dec1 3 hk rfl rfl
  intro h1 h2 h3 h4 ad h5 h6 H locs lsA hl hP hS
  exact lv_sipush hF.1 hF.2.1 hd (of_decide_eq_true hex) (hX _ _ _ _ _ _ h h1 h2 h3 h4 ad h5 h6 H locs lsA hl hP hS)
theorem qs_lconst {n : Fin 2} {len : Nat} (hF : qFr G T d p R s m args meth c) {X : qX} (hX : ∀ pc ls st uc us M, X pc ls st uc us M → qS G T ad0 n0 p l e R s m args below meth c Qf pc ls st uc us M) (hk : qChk T (pc, .lconst n, len) = true) (h : X (pc + len) ls (.long (Int64.ofNat n.val) :: st) uc us M) : qS G T ad0 n0 p l e R s m args below meth c Qf pc ls st uc us M := by
  obtain ⟨hd, rfl, -⟩ := q_dec1 1 hk rfl rfl
  intro h1 h2 h3 h4 ad h5 h6 H locs lsA hl hP hS
  exact lv_lconst hF.1 hF.2.1 hd rfl (hX _ _ _ _ _ _ h h1 h2 h3 h4 ad h5 h6 H locs lsA hl hP hS)
theorem qs_null  {len : Nat} (hF : qFr G T d p R s m args meth c) {X : qX} (hX : ∀ pc ls st uc us M, X pc ls st uc us M → qS G T ad0 n0 p l e R s m args below meth c Qf pc ls st uc us M) (hk : qChk T (pc, .aconst_null, len) = true) (h : X (pc + len) ls (.null :: st) uc us M) : qS G T ad0 n0 p l e R s m args below meth c Qf pc ls st uc us M := by
  obtain ⟨hd, rfl, -⟩ := q_dec1 1 hk rfl rfl
  intro h1 h2 h3 h4 ad h5 h6 H locs lsA hl hP hS
  exact lv_null hF.1 hF.2.1 hd (hX _ _ _ _ _ _ h h1 h2 h3 h4 ad h5 h6 H locs lsA hl hP hS)
theorem qs_ldc {n : Nat} {len : Nat} (hF : qFr G T d p R s m args meth c) {X : qX} (hX : ∀ pc ls st uc us M, X pc ls st uc us M → qS G T ad0 n0 p l e R s m args below meth c Qf pc ls st uc us M) (hk : qChk T (pc, .ldc n, len) = true) (h : X (pc + len) ls (.int (Int32.ofNat n) :: st) uc us M) : qS G T ad0 n0 p l e R s m args below meth c Qf pc ls st uc us M := by
  obtain ⟨x, hx, hd, rfl, -⟩ := q_dec2 2 hk rfl rfl
  intro h1 h2 h3 h4 ad h5 h6 H locs lsA hl hP hS
  exact lv_ldc hF.1 hF.2.1 (own := qCn (qOc T)) hF.2.2.2.2.2.2.1 (hF.2.2.2.2.2.2.2.1 _ (q_ld (qOc T, n, x) (qIx_mem _ _ _ _ hx))) hd (hX _ _ _ _ _ _ h h1 h2 h3 h4 ad h5 h6 H locs lsA hl hP hS)
theorem qs_ldc_w {n : Nat} {len : Nat} (hF : qFr G T d p R s m args meth c) {X : qX} (hX : ∀ pc ls st uc us M, X pc ls st uc us M → qS G T ad0 n0 p l e R s m args below meth c Qf pc ls st uc us M) (hk : qChk T (pc, .ldc_w n, len) = true) (h : X (pc + len) ls (.int (Int32.ofNat n) :: st) uc us M) : qS G T ad0 n0 p l e R s m args below meth c Qf pc ls st uc us M := by
  obtain ⟨x, hx, hd, rfl, -⟩ := q_dec2 3 hk rfl rfl
  intro h1 h2 h3 h4 ad h5 h6 H locs lsA hl hP hS
  exact lv_ldcw hF.1 hF.2.1 (own := qCn (qOc T)) hF.2.2.2.2.2.2.1 (hF.2.2.2.2.2.2.2.1 _ (q_ld (qOc T, n, x) (qIx_mem _ _ _ _ hx))) hd (hX _ _ _ _ _ _ h h1 h2 h3 h4 ad h5 h6 H locs lsA hl hP hS)
theorem qs_ldc2_w {n : Nat} {len : Nat} (hF : qFr G T d p R s m args meth c) {X : qX} (hX : ∀ pc ls st uc us M, X pc ls st uc us M → qS G T ad0 n0 p l e R s m args below meth c Qf pc ls st uc us M) (hk : qChk T (pc, .ldc2_w n, len) = true) (h : X (pc + len) ls (.long (Int64.ofNat n) :: st) uc us M) : qS G T ad0 n0 p l e R s m args below meth c Qf pc ls st uc us M := by
  obtain ⟨x, hx, hd, rfl, -⟩ := q_dec2 3 hk rfl rfl
  intro h1 h2 h3 h4 ad h5 h6 H locs lsA hl hP hS
  exact lv_ldc2 hF.1 hF.2.1 (own := qCn (qOc T)) hF.2.2.2.2.2.2.1 (hF.2.2.2.2.2.2.2.1 _ (q_ll (qOc T, n, x) (qIx_mem _ _ _ _ hx))) hd (hX _ _ _ _ _ _ h h1 h2 h3 h4 ad h5 h6 H locs lsA hl hP hS)
theorem qs_iload {k : Nat} {len : Nat} (hF : qFr G T d p R s m args meth c) {X : qX} (hX : ∀ pc ls st uc us M, X pc ls st uc us M → qS G T ad0 n0 p l e R s m args below meth c Qf pc ls st uc us M) (hk : qChk T (pc, .iload k, len) = true) (h : qLdI ls k fun x => X (pc + len) ls (.int x :: st) uc us M) : qS G T ad0 n0 p l e R s m args below meth c Qf pc ls st uc us M := by
  obtain ⟨hd, rfl, -⟩ := q_dec1 2 hk rfl rfl
  obtain ⟨x, hx, h⟩ := qLdI_of h
  intro h1 h2 h3 h4 ad h5 h6 H locs lsA hl hP hS
  exact lv_iload hF.1 hF.2.1 hd (qLk_at hl hx) (hX _ _ _ _ _ _ h h1 h2 h3 h4 ad h5 h6 H locs lsA hl hP hS)
theorem qs_iload_n {k : Fin 4} {len : Nat} (hF : qFr G T d p R s m args meth c) {X : qX} (hX : ∀ pc ls st uc us M, X pc ls st uc us M → qS G T ad0 n0 p l e R s m args below meth c Qf pc ls st uc us M) (hk : qChk T (pc, .iload_n k, len) = true) (h : qLdI ls k.val fun x => X (pc + len) ls (.int x :: st) uc us M) : qS G T ad0 n0 p l e R s m args below meth c Qf pc ls st uc us M := by
  obtain ⟨hd, rfl, -⟩ := q_dec1 1 hk rfl rfl
  obtain ⟨x, hx, h⟩ := qLdI_of h
  intro h1 h2 h3 h4 ad h5 h6 H locs lsA hl hP hS
  exact lv_iload_n hF.1 hF.2.1 hd rfl (qLk_at hl hx) (hX _ _ _ _ _ _ h h1 h2 h3 h4 ad h5 h6 H locs lsA hl hP hS)
theorem qs_lload {k : Nat} {len : Nat} (hF : qFr G T d p R s m args meth c) {X : qX} (hX : ∀ pc ls st uc us M, X pc ls st uc us M → qS G T ad0 n0 p l e R s m args below meth c Qf pc ls st uc us M) (hk : qChk T (pc, .lload k, len) = true) (h : qLdL ls k fun x => X (pc + len) ls (.long x :: st) uc us M) : qS G T ad0 n0 p l e R s m args below meth c Qf pc ls st uc us M := by
  obtain ⟨hd, rfl, -⟩ := q_dec1 2 hk rfl rfl
  obtain ⟨x, hx, h⟩ := qLdL_of h
  intro h1 h2 h3 h4 ad h5 h6 H locs lsA hl hP hS
  exact lv_lload hF.1 hF.2.1 hd (qLk_at hl hx) (hX _ _ _ _ _ _ h h1 h2 h3 h4 ad h5 h6 H locs lsA hl hP hS)
theorem qs_lload_n {k : Fin 4} {len : Nat} (hF : qFr G T d p R s m args meth c) {X : qX} (hX : ∀ pc ls st uc us M, X pc ls st uc us M → qS G T ad0 n0 p l e R s m args below meth c Qf pc ls st uc us M) (hk : qChk T (pc, .lload_n k, len) = true) (h : qLdL ls k.val fun x => X (pc + len) ls (.long x :: st) uc us M) : qS G T ad0 n0 p l e R s m args below meth c Qf pc ls st uc us M := by
  obtain ⟨hd, rfl, -⟩ := q_dec1 1 hk rfl rfl
  obtain ⟨x, hx, h⟩ := qLdL_of h
  intro h1 h2 h3 h4 ad h5 h6 H locs lsA hl hP hS
  exact lv_lload_n hF.1 hF.2.1 hd rfl (qLk_at hl hx) (hX _ _ _ _ _ _ h h1 h2 h3 h4 ad h5 h6 H locs lsA hl hP hS)
theorem qs_aload {k : Nat} {len : Nat} (hF : qFr G T d p R s m args meth c) {X : qX} (hX : ∀ pc ls st uc us M, X pc ls st uc us M → qS G T ad0 n0 p l e R s m args below meth c Qf pc ls st uc us M) (hk : qChk T (pc, .aload k, len) = true) (h : qLdA ls k fun v => X (pc + len) ls (v :: st) uc us M) : qS G T ad0 n0 p l e R s m args below meth c Qf pc ls st uc us M := by
  obtain ⟨hd, rfl, -⟩ := q_dec1 2 hk rfl rfl
  rcases qLdA_of h with ⟨x, hx, h⟩ | ⟨hx, h⟩
  · intro h1 h2 h3 h4 ad h5 h6 H locs lsA hl hP hS
    exact lv_aload hF.1 hF.2.1 hd (qLk_at hl hx) (hX _ _ _ _ _ _ h h1 h2 h3 h4 ad h5 h6 H locs lsA hl hP hS)
  · intro h1 h2 h3 h4 ad h5 h6 H locs lsA hl hP hS
    exact lv_aloadN hF.1 hF.2.1 hd (qLk_at hl hx) (hX _ _ _ _ _ _ h h1 h2 h3 h4 ad h5 h6 H locs lsA hl hP hS)
theorem qs_aload_n {k : Fin 4} {len : Nat} (hF : qFr G T d p R s m args meth c) {X : qX} (hX : ∀ pc ls st uc us M, X pc ls st uc us M → qS G T ad0 n0 p l e R s m args below meth c Qf pc ls st uc us M) (hk : qChk T (pc, .aload_n k, len) = true) (h : qLdA ls k.val fun v => X (pc + len) ls (v :: st) uc us M) : qS G T ad0 n0 p l e R s m args below meth c Qf pc ls st uc us M := by
  obtain ⟨hd, rfl, -⟩ := q_dec1 1 hk rfl rfl
  rcases qLdA_of h with ⟨x, hx, h⟩ | ⟨hx, h⟩
  · intro h1 h2 h3 h4 ad h5 h6 H locs lsA hl hP hS
    exact lv_aload_n hF.1 hF.2.1 hd rfl (qLk_at hl hx) (hX _ _ _ _ _ _ h h1 h2 h3 h4 ad h5 h6 H locs lsA hl hP hS)
  · intro h1 h2 h3 h4 ad h5 h6 H locs lsA hl hP hS
    exact lv_aload_nN hF.1 hF.2.1 hd rfl (qLk_at hl hx) (hX _ _ _ _ _ _ h h1 h2 h3 h4 ad h5 h6 H locs lsA hl hP hS)
theorem qs_istore {k : Nat} {len : Nat} (hF : qFr G T d p R s m args meth c) {X : qX} (hX : ∀ pc ls st uc us M, X pc ls st uc us M → qS G T ad0 n0 p l e R s m args below meth c Qf pc ls st uc us M) (hk : qChk T (pc, .istore k, len) = true) (h : qI1 st fun x r => X (pc + len) ((k, .int x) :: qRm1 k ls) r uc us M) : qS G T ad0 n0 p l e R s m args below meth c Qf pc ls st uc us M := by
  obtain ⟨hd, rfl, hex⟩ := q_dec1 2 hk rfl rfl
  obtain ⟨x, r, rfl, h⟩ := qI1_of h
  intro h1 h2 h3 h4 ad h5 h6 H locs lsA hl hP hS
  exact lv_istore hF.1 hF.2.1 hd hl (q_blt.mp hex) (congrArg ((k, Value.int x) :: ·) (qRm1_map ad k ls)) (fun ls' hl' => hX _ _ _ _ _ _ h h1 h2 h3 h4 ad h5 h6 H locs ls' hl' hP hS)
theorem qs_istore_n {k : Fin 4} {len : Nat} (hF : qFr G T d p R s m args meth c) {X : qX} (hX : ∀ pc ls st uc us M, X pc ls st uc us M → qS G T ad0 n0 p l e R s m args below meth c Qf pc ls st uc us M) (hk : qChk T (pc, .istore_n k, len) = true) (h : qI1 st fun x r => X (pc + len) ((k.val, .int x) :: qRm1 k.val ls) r uc us M) : qS G T ad0 n0 p l e R s m args below meth c Qf pc ls st uc us M := by
  obtain ⟨hd, rfl, hex⟩ := q_dec1 1 hk rfl rfl
  obtain ⟨x, r, rfl, h⟩ := qI1_of h
  intro h1 h2 h3 h4 ad h5 h6 H locs lsA hl hP hS
  exact lv_istore_n hF.1 hF.2.1 hd rfl hl (q_blt.mp hex) (congrArg ((k.val, Value.int x) :: ·) (qRm1_map ad k.val ls)) (fun ls' hl' => hX _ _ _ _ _ _ h h1 h2 h3 h4 ad h5 h6 H locs ls' hl' hP hS)
theorem qs_lstore {k : Nat} {len : Nat} (hF : qFr G T d p R s m args meth c) {X : qX} (hX : ∀ pc ls st uc us M, X pc ls st uc us M → qS G T ad0 n0 p l e R s m args below meth c Qf pc ls st uc us M) (hk : qChk T (pc, .lstore k, len) = true) (h : qL1 st fun x r => X (pc + len) ((k, .long x) :: qRm2 k ls) r uc us M) : qS G T ad0 n0 p l e R s m args below meth c Qf pc ls st uc us M := by
  obtain ⟨hd, rfl, hex⟩ := q_dec1 2 hk rfl rfl
  obtain ⟨x, r, rfl, h⟩ := qL1_of h
  intro h1 h2 h3 h4 ad h5 h6 H locs lsA hl hP hS
  exact lv_lstore hF.1 hF.2.1 hd hl (q_blt.mp hex) (congrArg ((k, Value.long x) :: ·) (qRm2_map ad k ls)) (fun ls' hl' => hX _ _ _ _ _ _ h h1 h2 h3 h4 ad h5 h6 H locs ls' hl' hP hS)
theorem qs_lstore_n {k : Fin 4} {len : Nat} (hF : qFr G T d p R s m args meth c) {X : qX} (hX : ∀ pc ls st uc us M, X pc ls st uc us M → qS G T ad0 n0 p l e R s m args below meth c Qf pc ls st uc us M) (hk : qChk T (pc, .lstore_n k, len) = true) (h : qL1 st fun x r => X (pc + len) ((k.val, .long x) :: qRm2 k.val ls) r uc us M) : qS G T ad0 n0 p l e R s m args below meth c Qf pc ls st uc us M := by
  obtain ⟨hd, rfl, hex⟩ := q_dec1 1 hk rfl rfl
  obtain ⟨x, r, rfl, h⟩ := qL1_of h
  intro h1 h2 h3 h4 ad h5 h6 H locs lsA hl hP hS
  exact lv_lstore_n hF.1 hF.2.1 hd rfl hl (q_blt.mp hex) (congrArg ((k.val, Value.long x) :: ·) (qRm2_map ad k.val ls)) (fun ls' hl' => hX _ _ _ _ _ _ h h1 h2 h3 h4 ad h5 h6 H locs ls' hl' hP hS)
theorem qs_astore {k : Nat} {len : Nat} (hF : qFr G T d p R s m args meth c) {X : qX} (hX : ∀ pc ls st uc us M, X pc ls st uc us M → qS G T ad0 n0 p l e R s m args below meth c Qf pc ls st uc us M) (hk : qChk T (pc, .astore k, len) = true) (h : qAn st (fun r => X (pc + len) ((k, .null) :: qRm1 k ls) r uc us M) fun a r => X (pc + len) ((k, .ref a) :: qRm1 k ls) r uc us M) : qS G T ad0 n0 p l e R s m args below meth c Qf pc ls st uc us M := by
  obtain ⟨hd, rfl, hex⟩ := q_dec1 2 hk rfl rfl
  rcases qAn_of h with ⟨x, r, rfl, h⟩ | ⟨r, rfl, h⟩
  · intro h1 h2 h3 h4 ad h5 h6 H locs lsA hl hP hS
    exact lv_astore hF.1 hF.2.1 hd hl (q_blt.mp hex) (congrArg ((k, Value.ref (ad x)) :: ·) (qRm1_map ad k ls)) (fun ls' hl' => hX _ _ _ _ _ _ h h1 h2 h3 h4 ad h5 h6 H locs ls' hl' hP hS)
  · intro h1 h2 h3 h4 ad h5 h6 H locs lsA hl hP hS
    exact lv_astoreN hF.1 hF.2.1 hd hl (q_blt.mp hex) (congrArg ((k, Value.null) :: ·) (qRm1_map ad k ls)) (fun ls' hl' => hX _ _ _ _ _ _ h h1 h2 h3 h4 ad h5 h6 H locs ls' hl' hP hS)
theorem qs_astore_n {k : Fin 4} {len : Nat} (hF : qFr G T d p R s m args meth c) {X : qX} (hX : ∀ pc ls st uc us M, X pc ls st uc us M → qS G T ad0 n0 p l e R s m args below meth c Qf pc ls st uc us M) (hk : qChk T (pc, .astore_n k, len) = true) (h : qAn st (fun r => X (pc + len) ((k.val, .null) :: qRm1 k.val ls) r uc us M) fun a r => X (pc + len) ((k.val, .ref a) :: qRm1 k.val ls) r uc us M) : qS G T ad0 n0 p l e R s m args below meth c Qf pc ls st uc us M := by
  obtain ⟨hd, rfl, hex⟩ := q_dec1 1 hk rfl rfl
  rcases qAn_of h with ⟨x, r, rfl, h⟩ | ⟨r, rfl, h⟩
  · intro h1 h2 h3 h4 ad h5 h6 H locs lsA hl hP hS
    exact lv_astore_n hF.1 hF.2.1 hd rfl hl (q_blt.mp hex) (congrArg ((k.val, Value.ref (ad x)) :: ·) (qRm1_map ad k.val ls)) (fun ls' hl' => hX _ _ _ _ _ _ h h1 h2 h3 h4 ad h5 h6 H locs ls' hl' hP hS)
  · intro h1 h2 h3 h4 ad h5 h6 H locs lsA hl hP hS
    exact lv_astore_nN hF.1 hF.2.1 hd rfl hl (q_blt.mp hex) (congrArg ((k.val, Value.null) :: ·) (qRm1_map ad k.val ls)) (fun ls' hl' => hX _ _ _ _ _ _ h h1 h2 h3 h4 ad h5 h6 H locs ls' hl' hP hS)
theorem qs_iinc {k : Nat} {n : Int} {len : Nat} (hF : qFr G T d p R s m args meth c) {X : qX} (hX : ∀ pc ls st uc us M, X pc ls st uc us M → qS G T ad0 n0 p l e R s m args below meth c Qf pc ls st uc us M) (hk : qChk T (pc, .iinc k n, len) = true) (h : qLdI ls k fun x => X (pc + len) ((k, .int (x + Int32.ofInt n)) :: qRm1 k ls) st uc us M) : qS G T ad0 n0 p l e R s m args below meth c Qf pc ls st uc us M := by
  obtain ⟨hd, rfl, hex⟩ := q_dec1 3 hk rfl rfl
  obtain ⟨x, hx, h⟩ := qLdI_of h
  intro h1 h2 h3 h4 ad h5 h6 H locs lsA hl hP hS
  have hm : (k, Value.int x) ∈ qLs ad ls := List.mem_map_of_mem (f := fun q : Nat × Value => (q.1, qV ad q.2)) (qLk_mem hx)
  obtain ⟨q, hq⟩ := List.getElem?_of_mem hm
  exact lv_iinc hF.1 hF.2.1 hd hl hq rfl (q_blt.mp hex) (congrArg ((k, Value.int (x + Int32.ofInt n)) :: ·) (qRm1_map ad k ls)) (fun ls' hl' => hX _ _ _ _ _ _ h h1 h2 h3 h4 ad h5 h6 H locs ls' hl' hP hS)
theorem qs_iadd  {len : Nat} (hF : qFr G T d p R s m args meth c) {X : qX} (hX : ∀ pc ls st uc us M, X pc ls st uc us M → qS G T ad0 n0 p l e R s m args below meth c Qf pc ls st uc us M) (hk : qChk T (pc, .iadd, len) = true) (h : qI2 st fun x y r => X (pc + len) ls (.int (x + y) :: r) uc us M) : qS G T ad0 n0 p l e R s m args below meth c Qf pc ls st uc us M := by
  obtain ⟨hd, rfl, -⟩ := q_dec1 1 hk rfl rfl
  obtain ⟨x, y, r, rfl, h⟩ := qI2_of h
  intro h1 h2 h3 h4 ad h5 h6 H locs lsA hl hP hS
  exact lv_iadd hF.1 hF.2.1 hd (hX _ _ _ _ _ _ h h1 h2 h3 h4 ad h5 h6 H locs lsA hl hP hS)
theorem qs_isub  {len : Nat} (hF : qFr G T d p R s m args meth c) {X : qX} (hX : ∀ pc ls st uc us M, X pc ls st uc us M → qS G T ad0 n0 p l e R s m args below meth c Qf pc ls st uc us M) (hk : qChk T (pc, .isub, len) = true) (h : qI2 st fun x y r => X (pc + len) ls (.int (x - y) :: r) uc us M) : qS G T ad0 n0 p l e R s m args below meth c Qf pc ls st uc us M := by
  obtain ⟨hd, rfl, -⟩ := q_dec1 1 hk rfl rfl
  obtain ⟨x, y, r, rfl, h⟩ := qI2_of h
  intro h1 h2 h3 h4 ad h5 h6 H locs lsA hl hP hS
  exact lv_isub hF.1 hF.2.1 hd (hX _ _ _ _ _ _ h h1 h2 h3 h4 ad h5 h6 H locs lsA hl hP hS)
theorem qs_imul  {len : Nat} (hF : qFr G T d p R s m args meth c) {X : qX} (hX : ∀ pc ls st uc us M, X pc ls st uc us M → qS G T ad0 n0 p l e R s m args below meth c Qf pc ls st uc us M) (hk : qChk T (pc, .imul, len) = true) (h : qI2 st fun x y r => X (pc + len) ls (.int (x * y) :: r) uc us M) : qS G T ad0 n0 p l e R s m args below meth c Qf pc ls st uc us M := by
  obtain ⟨hd, rfl, -⟩ := q_dec1 1 hk rfl rfl
  obtain ⟨x, y, r, rfl, h⟩ := qI2_of h
  intro h1 h2 h3 h4 ad h5 h6 H locs lsA hl hP hS
  exact lv_imul hF.1 hF.2.1 hd (hX _ _ _ _ _ _ h h1 h2 h3 h4 ad h5 h6 H locs lsA hl hP hS)
theorem qs_iand  {len : Nat} (hF : qFr G T d p R s m args meth c) {X : qX} (hX : ∀ pc ls st uc us M, X pc ls st uc us M → qS G T ad0 n0 p l e R s m args below meth c Qf pc ls st uc us M) (hk : qChk T (pc, .iand, len) = true) (h : qI2 st fun x y r => X (pc + len) ls (.int (x &&& y) :: r) uc us M) : qS G T ad0 n0 p l e R s m args below meth c Qf pc ls st uc us M := by
  obtain ⟨hd, rfl, -⟩ := q_dec1 1 hk rfl rfl
  obtain ⟨x, y, r, rfl, h⟩ := qI2_of h
  intro h1 h2 h3 h4 ad h5 h6 H locs lsA hl hP hS
  exact lv_iand hF.1 hF.2.1 hd (hX _ _ _ _ _ _ h h1 h2 h3 h4 ad h5 h6 H locs lsA hl hP hS)
theorem qs_ior  {len : Nat} (hF : qFr G T d p R s m args meth c) {X : qX} (hX : ∀ pc ls st uc us M, X pc ls st uc us M → qS G T ad0 n0 p l e R s m args below meth c Qf pc ls st uc us M) (hk : qChk T (pc, .ior, len) = true) (h : qI2 st fun x y r => X (pc + len) ls (.int (x ||| y) :: r) uc us M) : qS G T ad0 n0 p l e R s m args below meth c Qf pc ls st uc us M := by
  obtain ⟨hd, rfl, -⟩ := q_dec1 1 hk rfl rfl
  obtain ⟨x, y, r, rfl, h⟩ := qI2_of h
  intro h1 h2 h3 h4 ad h5 h6 H locs lsA hl hP hS
  exact lv_ior hF.1 hF.2.1 hd (hX _ _ _ _ _ _ h h1 h2 h3 h4 ad h5 h6 H locs lsA hl hP hS)
theorem qs_ixor  {len : Nat} (hF : qFr G T d p R s m args meth c) {X : qX} (hX : ∀ pc ls st uc us M, X pc ls st uc us M → qS G T ad0 n0 p l e R s m args below meth c Qf pc ls st uc us M) (hk : qChk T (pc, .ixor, len) = true) (h : qI2 st fun x y r => X (pc + len) ls (.int (x ^^^ y) :: r) uc us M) : qS G T ad0 n0 p l e R s m args below meth c Qf pc ls st uc us M := by
  obtain ⟨hd, rfl, -⟩ := q_dec1 1 hk rfl rfl
  obtain ⟨x, y, r, rfl, h⟩ := qI2_of h
  intro h1 h2 h3 h4 ad h5 h6 H locs lsA hl hP hS
  exact lv_ixor hF.1 hF.2.1 hd (hX _ _ _ _ _ _ h h1 h2 h3 h4 ad h5 h6 H locs lsA hl hP hS)
theorem qs_ishl  {len : Nat} (hF : qFr G T d p R s m args meth c) {X : qX} (hX : ∀ pc ls st uc us M, X pc ls st uc us M → qS G T ad0 n0 p l e R s m args below meth c Qf pc ls st uc us M) (hk : qChk T (pc, .ishl, len) = true) (h : qI2 st fun x y r => X (pc + len) ls (.int (x <<< (y &&& 31)) :: r) uc us M) : qS G T ad0 n0 p l e R s m args below meth c Qf pc ls st uc us M := by
  obtain ⟨hd, rfl, -⟩ := q_dec1 1 hk rfl rfl
  obtain ⟨x, y, r, rfl, h⟩ := qI2_of h
  intro h1 h2 h3 h4 ad h5 h6 H locs lsA hl hP hS
  exact lv_ishl hF.1 hF.2.1 hd (hX _ _ _ _ _ _ h h1 h2 h3 h4 ad h5 h6 H locs lsA hl hP hS)
theorem qs_ishr  {len : Nat} (hF : qFr G T d p R s m args meth c) {X : qX} (hX : ∀ pc ls st uc us M, X pc ls st uc us M → qS G T ad0 n0 p l e R s m args below meth c Qf pc ls st uc us M) (hk : qChk T (pc, .ishr, len) = true) (h : qI2 st fun x y r => X (pc + len) ls (.int (x >>> (y &&& 31)) :: r) uc us M) : qS G T ad0 n0 p l e R s m args below meth c Qf pc ls st uc us M := by
  obtain ⟨hd, rfl, -⟩ := q_dec1 1 hk rfl rfl
  obtain ⟨x, y, r, rfl, h⟩ := qI2_of h
  intro h1 h2 h3 h4 ad h5 h6 H locs lsA hl hP hS
  exact lv_ishr hF.1 hF.2.1 hd (hX _ _ _ _ _ _ h h1 h2 h3 h4 ad h5 h6 H locs lsA hl hP hS)
theorem qs_iushr  {len : Nat} (hF : qFr G T d p R s m args meth c) {X : qX} (hX : ∀ pc ls st uc us M, X pc ls st uc us M → qS G T ad0 n0 p l e R s m args below meth c Qf pc ls st uc us M) (hk : qChk T (pc, .iushr, len) = true) (h : qI2 st fun x y r => X (pc + len) ls (.int ((x.toUInt32 >>> (y.toUInt32 &&& Int32.toUInt32 31)).toInt32) :: r) uc us M) : qS G T ad0 n0 p l e R s m args below meth c Qf pc ls st uc us M := by
  obtain ⟨hd, rfl, -⟩ := q_dec1 1 hk rfl rfl
  obtain ⟨x, y, r, rfl, h⟩ := qI2_of h
  intro h1 h2 h3 h4 ad h5 h6 H locs lsA hl hP hS
  exact lv_iushr hF.1 hF.2.1 hd rfl (hX _ _ _ _ _ _ h h1 h2 h3 h4 ad h5 h6 H locs lsA hl hP hS)
theorem qs_ladd  {len : Nat} (hF : qFr G T d p R s m args meth c) {X : qX} (hX : ∀ pc ls st uc us M, X pc ls st uc us M → qS G T ad0 n0 p l e R s m args below meth c Qf pc ls st uc us M) (hk : qChk T (pc, .ladd, len) = true) (h : qL2 st fun x y r => X (pc + len) ls (.long (x + y) :: r) uc us M) : qS G T ad0 n0 p l e R s m args below meth c Qf pc ls st uc us M := by
  obtain ⟨hd, rfl, -⟩ := q_dec1 1 hk rfl rfl
  obtain ⟨x, y, r, rfl, h⟩ := qL2_of h
  intro h1 h2 h3 h4 ad h5 h6 H locs lsA hl hP hS
  exact lv_ladd hF.1 hF.2.1 hd (hX _ _ _ _ _ _ h h1 h2 h3 h4 ad h5 h6 H locs lsA hl hP hS)
theorem qs_lsub  {len : Nat} (hF : qFr G T d p R s m args meth c) {X : qX} (hX : ∀ pc ls st uc us M, X pc ls st uc us M → qS G T ad0 n0 p l e R s m args below meth c Qf pc ls st uc us M) (hk : qChk T (pc, .lsub, len) = true) (h : qL2 st fun x y r => X (pc + len) ls (.long (x - y) :: r) uc us M) : qS G T ad0 n0 p l e R s m args below meth c Qf pc ls st uc us M := by
  obtain ⟨hd, rfl, -⟩ := q_dec1 1 hk rfl rfl
  obtain ⟨x, y, r, rfl, h⟩ := qL2_of h
  intro h1 h2 h3 h4 ad h5 h6 H locs lsA hl hP hS
  exact lv_lsub hF.1 hF.2.1 hd (hX _ _ _ _ _ _ h h1 h2 h3 h4 ad h5 h6 H locs lsA hl hP hS)
theorem qs_land  {len : Nat} (hF : qFr G T d p R s m args meth c) {X : qX} (hX : ∀ pc ls st uc us M, X pc ls st uc us M → qS G T ad0 n0 p l e R s m args below meth c Qf pc ls st uc us M) (hk : qChk T (pc, .land, len) = true) (h : qL2 st fun x y r => X (pc + len) ls (.long (x &&& y) :: r) uc us M) : qS G T ad0 n0 p l e R s m args below meth c Qf pc ls st uc us M := by
  obtain ⟨hd, rfl, -⟩ := q_dec1 1 hk rfl rfl
  obtain ⟨x, y, r, rfl, h⟩ := qL2_of h
  intro h1 h2 h3 h4 ad h5 h6 H locs lsA hl hP hS
  exact lv_land hF.1 hF.2.1 hd (hX _ _ _ _ _ _ h h1 h2 h3 h4 ad h5 h6 H locs lsA hl hP hS)
theorem qs_lor  {len : Nat} (hF : qFr G T d p R s m args meth c) {X : qX} (hX : ∀ pc ls st uc us M, X pc ls st uc us M → qS G T ad0 n0 p l e R s m args below meth c Qf pc ls st uc us M) (hk : qChk T (pc, .lor, len) = true) (h : qL2 st fun x y r => X (pc + len) ls (.long (x ||| y) :: r) uc us M) : qS G T ad0 n0 p l e R s m args below meth c Qf pc ls st uc us M := by
  obtain ⟨hd, rfl, -⟩ := q_dec1 1 hk rfl rfl
  obtain ⟨x, y, r, rfl, h⟩ := qL2_of h
  intro h1 h2 h3 h4 ad h5 h6 H locs lsA hl hP hS
  exact lv_lor hF.1 hF.2.1 hd (hX _ _ _ _ _ _ h h1 h2 h3 h4 ad h5 h6 H locs lsA hl hP hS)
theorem qs_lshl  {len : Nat} (hF : qFr G T d p R s m args meth c) {X : qX} (hX : ∀ pc ls st uc us M, X pc ls st uc us M → qS G T ad0 n0 p l e R s m args below meth c Qf pc ls st uc us M) (hk : qChk T (pc, .lshl, len) = true) (h : qLI st fun x y r => X (pc + len) ls (.long (x <<< (y.toInt64 &&& 63)) :: r) uc us M) : qS G T ad0 n0 p l e R s m args below meth c Qf pc ls st uc us M := by
  obtain ⟨hd, rfl, -⟩ := q_dec1 1 hk rfl rfl
  obtain ⟨x, y, r, rfl, h⟩ := qLI_of h
  intro h1 h2 h3 h4 ad h5 h6 H locs lsA hl hP hS
  exact lv_lshl hF.1 hF.2.1 hd rfl (hX _ _ _ _ _ _ h h1 h2 h3 h4 ad h5 h6 H locs lsA hl hP hS)
theorem qs_lshr  {len : Nat} (hF : qFr G T d p R s m args meth c) {X : qX} (hX : ∀ pc ls st uc us M, X pc ls st uc us M → qS G T ad0 n0 p l e R s m args below meth c Qf pc ls st uc us M) (hk : qChk T (pc, .lshr, len) = true) (h : qLI st fun x y r => X (pc + len) ls (.long (x >>> (y.toInt64 &&& 63)) :: r) uc us M) : qS G T ad0 n0 p l e R s m args below meth c Qf pc ls st uc us M := by
  obtain ⟨hd, rfl, -⟩ := q_dec1 1 hk rfl rfl
  obtain ⟨x, y, r, rfl, h⟩ := qLI_of h
  intro h1 h2 h3 h4 ad h5 h6 H locs lsA hl hP hS
  exact lv_lshr hF.1 hF.2.1 hd rfl (hX _ _ _ _ _ _ h h1 h2 h3 h4 ad h5 h6 H locs lsA hl hP hS)
theorem qs_lushr  {len : Nat} (hF : qFr G T d p R s m args meth c) {X : qX} (hX : ∀ pc ls st uc us M, X pc ls st uc us M → qS G T ad0 n0 p l e R s m args below meth c Qf pc ls st uc us M) (hk : qChk T (pc, .lushr, len) = true) (h : qLI st fun x y r => X (pc + len) ls (.long ((x.toUInt64 >>> (y.toInt64.toUInt64 &&& Int64.toUInt64 63)).toInt64) :: r) uc us M) : qS G T ad0 n0 p l e R s m args below meth c Qf pc ls st uc us M := by
  obtain ⟨hd, rfl, -⟩ := q_dec1 1 hk rfl rfl
  obtain ⟨x, y, r, rfl, h⟩ := qLI_of h
  intro h1 h2 h3 h4 ad h5 h6 H locs lsA hl hP hS
  exact lv_lushr hF.1 hF.2.1 hd rfl (hX _ _ _ _ _ _ h h1 h2 h3 h4 ad h5 h6 H locs lsA hl hP hS)
theorem qs_lcmp  {len : Nat} (hF : qFr G T d p R s m args meth c) {X : qX} (hX : ∀ pc ls st uc us M, X pc ls st uc us M → qS G T ad0 n0 p l e R s m args below meth c Qf pc ls st uc us M) (hk : qChk T (pc, .lcmp, len) = true) (h : qL2 st fun x y r => X (pc + len) ls (.int (lg_cmp x y) :: r) uc us M) : qS G T ad0 n0 p l e R s m args below meth c Qf pc ls st uc us M := by
  obtain ⟨hd, rfl, -⟩ := q_dec1 1 hk rfl rfl
  obtain ⟨x, y, r, rfl, h⟩ := qL2_of h
  intro h1 h2 h3 h4 ad h5 h6 H locs lsA hl hP hS
  exact W.lcmp hF.1 hF.2.1 hd (hX _ _ _ _ _ _ h h1 h2 h3 h4 ad h5 h6 H locs lsA hl hP hS)
theorem qs_idiv  {len : Nat} (hF : qFr G T d p R s m args meth c) {X : qX} (hX : ∀ pc ls st uc us M, X pc ls st uc us M → qS G T ad0 n0 p l e R s m args below meth c Qf pc ls st uc us M) (hk : qChk T (pc, .idiv, len) = true) (h : qI2 st fun x y r => ¬ y = 0 ∧ X (pc + len) ls (.int (x / y) :: r) uc us M) : qS G T ad0 n0 p l e R s m args below meth c Qf pc ls st uc us M := by
  obtain ⟨hd, rfl, -⟩ := q_dec1 1 hk rfl rfl
  obtain ⟨x, y, r, rfl, hy, h⟩ := qI2_of h
  intro h1 h2 h3 h4 ad h5 h6 H locs lsA hl hP hS
  exact lv_idiv hF.1 hF.2.1 hd hy (hX _ _ _ _ _ _ h h1 h2 h3 h4 ad h5 h6 H locs lsA hl hP hS)
theorem qs_ldiv  {len : Nat} (hF : qFr G T d p R s m args meth c) {X : qX} (hX : ∀ pc ls st uc us M, X pc ls st uc us M → qS G T ad0 n0 p l e R s m args below meth c Qf pc ls st uc us M) (hk : qChk T (pc, .ldiv, len) = true) (h : qL2 st fun x y r => ¬ y = 0 ∧ X (pc + len) ls (.long (x / y) :: r) uc us M) : qS G T ad0 n0 p l e R s m args below meth c Qf pc ls st uc us M := by
  obtain ⟨hd, rfl, -⟩ := q_dec1 1 hk rfl rfl
  obtain ⟨x, y, r, rfl, hy, h⟩ := qL2_of h
  intro h1 h2 h3 h4 ad h5 h6 H locs lsA hl hP hS
  exact lv_ldiv hF.1 hF.2.1 hd hy (hX _ _ _ _ _ _ h h1 h2 h3 h4 ad h5 h6 H locs lsA hl hP hS)
theorem qs_lrem  {len : Nat} (hF : qFr G T d p R s m args meth c) {X : qX} (hX : ∀ pc ls st uc us M, X pc ls st uc us M → qS G T ad0 n0 p l e R s m args below meth c Qf pc ls st uc us M) (hk : qChk T (pc, .lrem, len) = true) (h : qL2 st fun x y r => ¬ y = 0 ∧ X (pc + len) ls (.long (x - x / y * y) :: r) uc us M) : qS G T ad0 n0 p l e R s m args below meth c Qf pc ls st uc us M := by
  obtain ⟨hd, rfl, -⟩ := q_dec1 1 hk rfl rfl
  obtain ⟨x, y, r, rfl, hy, h⟩ := qL2_of h
  intro h1 h2 h3 h4 ad h5 h6 H locs lsA hl hP hS
  exact lv_lrem hF.1 hF.2.1 hd hy (hX _ _ _ _ _ _ h h1 h2 h3 h4 ad h5 h6 H locs lsA hl hP hS)
theorem qs_ineg  {len : Nat} (hF : qFr G T d p R s m args meth c) {X : qX} (hX : ∀ pc ls st uc us M, X pc ls st uc us M → qS G T ad0 n0 p l e R s m args below meth c Qf pc ls st uc us M) (hk : qChk T (pc, .ineg, len) = true) (h : qI1 st fun x r => X (pc + len) ls (.int (-x) :: r) uc us M) : qS G T ad0 n0 p l e R s m args below meth c Qf pc ls st uc us M := by
  obtain ⟨hd, rfl, -⟩ := q_dec1 1 hk rfl rfl
  obtain ⟨x, r, rfl, h⟩ := qI1_of h
  intro h1 h2 h3 h4 ad h5 h6 H locs lsA hl hP hS
  exact lv_ineg hF.1 hF.2.1 hd (hX _ _ _ _ _ _ h h1 h2 h3 h4 ad h5 h6 H locs lsA hl hP hS)
theorem qs_lneg  {len : Nat} (hF : qFr G T d p R s m args meth c) {X : qX} (hX : ∀ pc ls st uc us M, X pc ls st uc us M → qS G T ad0 n0 p l e R s m args below meth c Qf pc ls st uc us M) (hk : qChk T (pc, .lneg, len) = true) (h : qL1 st fun x r => X (pc + len) ls (.long (-x) :: r) uc us M) : qS G T ad0 n0 p l e R s m args below meth c Qf pc ls st uc us M := by
  obtain ⟨hd, rfl, -⟩ := q_dec1 1 hk rfl rfl
  obtain ⟨x, r, rfl, h⟩ := qL1_of h
  intro h1 h2 h3 h4 ad h5 h6 H locs lsA hl hP hS
  exact lv_lneg hF.1 hF.2.1 hd (hX _ _ _ _ _ _ h h1 h2 h3 h4 ad h5 h6 H locs lsA hl hP hS)
theorem qs_i2l  {len : Nat} (hF : qFr G T d p R s m args meth c) {X : qX} (hX : ∀ pc ls st uc us M, X pc ls st uc us M → qS G T ad0 n0 p l e R s m args below meth c Qf pc ls st uc us M) (hk : qChk T (pc, .i2l, len) = true) (h : qI1 st fun x r => X (pc + len) ls (.long (x.toInt64) :: r) uc us M) : qS G T ad0 n0 p l e R s m args below meth c Qf pc ls st uc us M := by
  obtain ⟨hd, rfl, -⟩ := q_dec1 1 hk rfl rfl
  obtain ⟨x, r, rfl, h⟩ := qI1_of h
  intro h1 h2 h3 h4 ad h5 h6 H locs lsA hl hP hS
  exact lv_i2l hF.1 hF.2.1 hd rfl (hX _ _ _ _ _ _ h h1 h2 h3 h4 ad h5 h6 H locs lsA hl hP hS)
theorem qs_l2i  {len : Nat} (hF : qFr G T d p R s m args meth c) {X : qX} (hX : ∀ pc ls st uc us M, X pc ls st uc us M → qS G T ad0 n0 p l e R s m args below meth c Qf pc ls st uc us M) (hk : qChk T (pc, .l2i, len) = true) (h : qL1 st fun x r => X (pc + len) ls (.int (x.toInt32) :: r) uc us M) : qS G T ad0 n0 p l e R s m args below meth c Qf pc ls st uc us M := by
  obtain ⟨hd, rfl, -⟩ := q_dec1 1 hk rfl rfl
  obtain ⟨x, r, rfl, h⟩ := qL1_of h
  intro h1 h2 h3 h4 ad h5 h6 H locs lsA hl hP hS
  exact lv_l2i hF.1 hF.2.1 hd rfl (hX _ _ _ _ _ _ h h1 h2 h3 h4 ad h5 h6 H locs lsA hl hP hS)
theorem qs_i2b  {len : Nat} (hF : qFr G T d p R s m args meth c) {X : qX} (hX : ∀ pc ls st uc us M, X pc ls st uc us M → qS G T ad0 n0 p l e R s m args below meth c Qf pc ls st uc us M) (hk : qChk T (pc, .i2b, len) = true) (h : qI1 st fun x r => X (pc + len) ls (.int (x.toInt8.toInt32) :: r) uc us M) : qS G T ad0 n0 p l e R s m args below meth c Qf pc ls st uc us M := by
  obtain ⟨hd, rfl, -⟩ := q_dec1 1 hk rfl rfl
  obtain ⟨x, r, rfl, h⟩ := qI1_of h
  intro h1 h2 h3 h4 ad h5 h6 H locs lsA hl hP hS
  exact lv_i2b hF.1 hF.2.1 hd rfl (hX _ _ _ _ _ _ h h1 h2 h3 h4 ad h5 h6 H locs lsA hl hP hS)
theorem qs_dup {v : Value} {r : List Value} {len : Nat} (hF : qFr G T d p R s m args meth c) {X : qX} (hX : ∀ pc ls st uc us M, X pc ls st uc us M → qS G T ad0 n0 p l e R s m args below meth c Qf pc ls st uc us M) (hk : qChk T (pc, .dup, len) = true) (h : qIf (!(qC2 v)) (X (pc + len) ls (v :: v :: r) uc us M)) : qS G T ad0 n0 p l e R s m args below meth c Qf pc ls (v :: r) uc us M := by
  obtain ⟨hd, rfl, -⟩ := q_dec1 1 hk rfl rfl
  obtain ⟨hv, h⟩ := qIf_of h
  intro h1 h2 h3 h4 ad h5 h6 H locs lsA hl hP hS
  refine lv_dup (va := qV ad v) (rest := r.map (qV ad)) hF.1 hF.2.1 hd ?_ (hX _ _ _ _ _ _ h h1 h2 h3 h4 ad h5 h6 H locs lsA hl hP hS)
  rw [qV_cat]
  cases v <;> simp_all [qC2, Value.category]
theorem qs_pop {v : Value} {r : List Value} {len : Nat} (hF : qFr G T d p R s m args meth c) {X : qX} (hX : ∀ pc ls st uc us M, X pc ls st uc us M → qS G T ad0 n0 p l e R s m args below meth c Qf pc ls st uc us M) (hk : qChk T (pc, .pop, len) = true) (h : qIf (!(qC2 v)) (X (pc + len) ls r uc us M)) : qS G T ad0 n0 p l e R s m args below meth c Qf pc ls (v :: r) uc us M := by
  obtain ⟨hd, rfl, -⟩ := q_dec1 1 hk rfl rfl
  obtain ⟨hv, h⟩ := qIf_of h
  intro h1 h2 h3 h4 ad h5 h6 H locs lsA hl hP hS
  refine lv_pop (va := qV ad v) (rest := r.map (qV ad)) hF.1 hF.2.1 hd ?_ (hX _ _ _ _ _ _ h h1 h2 h3 h4 ad h5 h6 H locs lsA hl hP hS)
  rw [qV_cat]
  cases v <;> simp_all [qC2, Value.category]
theorem qs_goto {t : Int} {len : Nat} (hF : qFr G T d p R s m args meth c) {X : qX} (hX : ∀ pc ls st uc us M, X pc ls st uc us M → qS G T ad0 n0 p l e R s m args below meth c Qf pc ls st uc us M) (hk : qChk T (pc, .goto t, len) = true) (h : X t.toNat ls st uc us M) : qS G T ad0 n0 p l e R s m args below meth c Qf pc ls st uc us M := by
  obtain ⟨hd, rfl, hex⟩ := q_dec1 3 hk rfl rfl
  intro h1 h2 h3 h4 ad h5 h6 H locs lsA hl hP hS
  exact lv_goto hF.1 hF.2.1 hd (q_tgt hex) (hX _ _ _ _ _ _ h h1 h2 h3 h4 ad h5 h6 H locs lsA hl hP hS)
theorem qs_if_eq {t : Int} {len : Nat} (hF : qFr G T d p R s m args meth c) {X : qX} (hX : ∀ pc ls st uc us M, X pc ls st uc us M → qS G T ad0 n0 p l e R s m args below meth c Qf pc ls st uc us M) (hk : qChk T (pc, .ifCond .eq t, len) = true) (h : qI1 st fun x r => (x = 0 → X t.toNat ls r uc us M) ∧ (¬ x = 0 → X (pc + len) ls r uc us M)) : qS G T ad0 n0 p l e R s m args below meth c Qf pc ls st uc us M := by
  obtain ⟨hd, rfl, hex⟩ := q_dec1 3 hk rfl rfl
  obtain ⟨x, r, rfl, ha, hb⟩ := qI1_of h
  intro h1 h2 h3 h4 ad h5 h6 H locs lsA hl hP hS
  exact lv_if_eq hF.1 hF.2.1 hd (q_tgt hex) (fun hc => hX _ _ _ _ _ _ (ha hc) h1 h2 h3 h4 ad h5 h6 H locs lsA hl hP hS) (fun hc => hX _ _ _ _ _ _ (hb hc) h1 h2 h3 h4 ad h5 h6 H locs lsA hl hP hS)
theorem qs_if_ne {t : Int} {len : Nat} (hF : qFr G T d p R s m args meth c) {X : qX} (hX : ∀ pc ls st uc us M, X pc ls st uc us M → qS G T ad0 n0 p l e R s m args below meth c Qf pc ls st uc us M) (hk : qChk T (pc, .ifCond .ne t, len) = true) (h : qI1 st fun x r => (¬ x = 0 → X t.toNat ls r uc us M) ∧ (x = 0 → X (pc + len) ls r uc us M)) : qS G T ad0 n0 p l e R s m args below meth c Qf pc ls st uc us M := by
  obtain ⟨hd, rfl, hex⟩ := q_dec1 3 hk rfl rfl
  obtain ⟨x, r, rfl, ha, hb⟩ := qI1_of h
  intro h1 h2 h3 h4 ad h5 h6 H locs lsA hl hP hS
  exact lv_if_ne hF.1 hF.2.1 hd (q_tgt hex) (fun hc => hX _ _ _ _ _ _ (ha hc) h1 h2 h3 h4 ad h5 h6 H locs lsA hl hP hS) (fun hc => hX _ _ _ _ _ _ (hb hc) h1 h2 h3 h4 ad h5 h6 H locs lsA hl hP hS)
theorem qs_if_lt {t : Int} {len : Nat} (hF : qFr G T d p R s m args meth c) {X : qX} (hX : ∀ pc ls st uc us M, X pc ls st uc us M → qS G T ad0 n0 p l e R s m args below meth c Qf pc ls st uc us M) (hk : qChk T (pc, .ifCond .lt t, len) = true) (h : qI1 st fun x r => (x < 0 → X t.toNat ls r uc us M) ∧ (¬ x < 0 → X (pc + len) ls r uc us M)) : qS G T ad0 n0 p l e R s m args below meth c Qf pc ls st uc us M := by
  obtain ⟨hd, rfl, hex⟩ := q_dec1 3 hk rfl rfl
  obtain ⟨x, r, rfl, ha, hb⟩ := qI1_of h
  intro h1 h2 h3 h4 ad h5 h6 H locs lsA hl hP hS
  exact lv_if_lt hF.1 hF.2.1 hd (q_tgt hex) (fun hc => hX _ _ _ _ _ _ (ha hc) h1 h2 h3 h4 ad h5 h6 H locs lsA hl hP hS) (fun hc => hX _ _ _ _ _ _ (hb hc) h1 h2 h3 h4 ad h5 h6 H locs lsA hl hP hS)
theorem qs_if_ge {t : Int} {len : Nat} (hF : qFr G T d p R s m args meth c) {X : qX} (hX : ∀ pc ls st uc us M, X pc ls st uc us M → qS G T ad0 n0 p l e R s m args below meth c Qf pc ls st uc us M) (hk : qChk T (pc, .ifCond .ge t, len) = true) (h : qI1 st fun x r => (0 ≤ x → X t.toNat ls r uc us M) ∧ (¬ 0 ≤ x → X (pc + len) ls r uc us M)) : qS G T ad0 n0 p l e R s m args below meth c Qf pc ls st uc us M := by
  obtain ⟨hd, rfl, hex⟩ := q_dec1 3 hk rfl rfl
  obtain ⟨x, r, rfl, ha, hb⟩ := qI1_of h
  intro h1 h2 h3 h4 ad h5 h6 H locs lsA hl hP hS
  exact lv_if_ge hF.1 hF.2.1 hd (q_tgt hex) (fun hc => hX _ _ _ _ _ _ (ha hc) h1 h2 h3 h4 ad h5 h6 H locs lsA hl hP hS) (fun hc => hX _ _ _ _ _ _ (hb hc) h1 h2 h3 h4 ad h5 h6 H locs lsA hl hP hS)
theorem qs_if_gt {t : Int} {len : Nat} (hF : qFr G T d p R s m args meth c) {X : qX} (hX : ∀ pc ls st uc us M, X pc ls st uc us M → qS G T ad0 n0 p l e R s m args below meth c Qf pc ls st uc us M) (hk : qChk T (pc, .ifCond .gt t, len) = true) (h : qI1 st fun x r => (0 < x → X t.toNat ls r uc us M) ∧ (¬ 0 < x → X (pc + len) ls r uc us M)) : qS G T ad0 n0 p l e R s m args below meth c Qf pc ls st uc us M := by
  obtain ⟨hd, rfl, hex⟩ := q_dec1 3 hk rfl rfl
  obtain ⟨x, r, rfl, ha, hb⟩ := qI1_of h
  intro h1 h2 h3 h4 ad h5 h6 H locs lsA hl hP hS
  exact lv_if_gt hF.1 hF.2.1 hd (q_tgt hex) (fun hc => hX _ _ _ _ _ _ (ha hc) h1 h2 h3 h4 ad h5 h6 H locs lsA hl hP hS) (fun hc => hX _ _ _ _ _ _ (hb hc) h1 h2 h3 h4 ad h5 h6 H locs lsA hl hP hS)
theorem qs_if_le {t : Int} {len : Nat} (hF : qFr G T d p R s m args meth c) {X : qX} (hX : ∀ pc ls st uc us M, X pc ls st uc us M → qS G T ad0 n0 p l e R s m args below meth c Qf pc ls st uc us M) (hk : qChk T (pc, .ifCond .le t, len) = true) (h : qI1 st fun x r => (x ≤ 0 → X t.toNat ls r uc us M) ∧ (¬ x ≤ 0 → X (pc + len) ls r uc us M)) : qS G T ad0 n0 p l e R s m args below meth c Qf pc ls st uc us M := by
  obtain ⟨hd, rfl, hex⟩ := q_dec1 3 hk rfl rfl
  obtain ⟨x, r, rfl, ha, hb⟩ := qI1_of h
  intro h1 h2 h3 h4 ad h5 h6 H locs lsA hl hP hS
  exact lv_if_le hF.1 hF.2.1 hd (q_tgt hex) (fun hc => hX _ _ _ _ _ _ (ha hc) h1 h2 h3 h4 ad h5 h6 H locs lsA hl hP hS) (fun hc => hX _ _ _ _ _ _ (hb hc) h1 h2 h3 h4 ad h5 h6 H locs lsA hl hP hS)
theorem qs_icmp_eq {t : Int} {len : Nat} (hF : qFr G T d p R s m args meth c) {X : qX} (hX : ∀ pc ls st uc us M, X pc ls st uc us M → qS G T ad0 n0 p l e R s m args below meth c Qf pc ls st uc us M) (hk : qChk T (pc, .if_icmp .eq t, len) = true) (h : qI2 st fun x y r => (x = y → X t.toNat ls r uc us M) ∧ (¬ x = y → X (pc + len) ls r uc us M)) : qS G T ad0 n0 p l e R s m args below meth c Qf pc ls st uc us M := by
  obtain ⟨hd, rfl, hex⟩ := q_dec1 3 hk rfl rfl
  obtain ⟨x, y, r, rfl, ha, hb⟩ := qI2_of h
  intro h1 h2 h3 h4 ad h5 h6 H locs lsA hl hP hS
  exact lv_icmp_eq hF.1 hF.2.1 hd (q_tgt hex) (fun hc => hX _ _ _ _ _ _ (ha hc) h1 h2 h3 h4 ad h5 h6 H locs lsA hl hP hS) (fun hc => hX _ _ _ _ _ _ (hb hc) h1 h2 h3 h4 ad h5 h6 H locs lsA hl hP hS)
theorem qs_icmp_ne {t : Int} {len : Nat} (hF : qFr G T d p R s m args meth c) {X : qX} (hX : ∀ pc ls st uc us M, X pc ls st uc us M → qS G T ad0 n0 p l e R s m args below meth c Qf pc ls st uc us M) (hk : qChk T (pc, .if_icmp .ne t, len) = true) (h : qI2 st fun x y r => (¬ x = y → X t.toNat ls r uc us M) ∧ (x = y → X (pc + len) ls r uc us M)) : qS G T ad0 n0 p l e R s m args below meth c Qf pc ls st uc us M := by
  obtain ⟨hd, rfl, hex⟩ := q_dec1 3 hk rfl rfl
  obtain ⟨x, y, r, rfl, ha, hb⟩ := qI2_of h
  intro h1 h2 h3 h4 ad h5 h6 H locs lsA hl hP hS
  exact lv_icmp_ne hF.1 hF.2.1 hd (q_tgt hex) (fun hc => hX _ _ _ _ _ _ (ha hc) h1 h2 h3 h4 ad h5 h6 H locs lsA hl hP hS) (fun hc => hX _ _ _ _ _ _ (hb hc) h1 h2 h3 h4 ad h5 h6 H locs lsA hl hP hS)
theorem qs_icmp_lt {t : Int} {len : Nat} (hF : qFr G T d p R s m args meth c) {X : qX} (hX : ∀ pc ls st uc us M, X pc ls st uc us M → qS G T ad0 n0 p l e R s m args below meth c Qf pc ls st uc us M) (hk : qChk T (pc, .if_icmp .lt t, len) = true) (h : qI2 st fun x y r => (x < y → X t.toNat ls r uc us M) ∧ (¬ x < y → X (pc + len) ls r uc us M)) : qS G T ad0 n0 p l e R s m args below meth c Qf pc ls st uc us M := by
  obtain ⟨hd, rfl, hex⟩ := q_dec1 3 hk rfl rfl
  obtain ⟨x, y, r, rfl, ha, hb⟩ := qI2_of h
  intro h1 h2 h3 h4 ad h5 h6 H locs lsA hl hP hS
  exact lv_icmp_lt hF.1 hF.2.1 hd (q_tgt hex) (fun hc => hX _ _ _ _ _ _ (ha hc) h1 h2 h3 h4 ad h5 h6 H locs lsA hl hP hS) (fun hc => hX _ _ _ _ _ _ (hb hc) h1 h2 h3 h4 ad h5 h6 H locs lsA hl hP hS)
theorem qs_icmp_ge {t : Int} {len : Nat} (hF : qFr G T d p R s m args meth c) {X : qX} (hX : ∀ pc ls st uc us M, X pc ls st uc us M → qS G T ad0 n0 p l e R s m args below meth c Qf pc ls st uc us M) (hk : qChk T (pc, .if_icmp .ge t, len) = true) (h : qI2 st fun x y r => (y ≤ x → X t.toNat ls r uc us M) ∧ (¬ y ≤ x → X (pc + len) ls r uc us M)) : qS G T ad0 n0 p l e R s m args below meth c Qf pc ls st uc us M := by
  obtain ⟨hd, rfl, hex⟩ := q_dec1 3 hk rfl rfl
  obtain ⟨x, y, r, rfl, ha, hb⟩ := qI2_of h
  intro h1 h2 h3 h4 ad h5 h6 H locs lsA hl hP hS
  exact lv_icmp_ge hF.1 hF.2.1 hd (q_tgt hex) (fun hc => hX _ _ _ _ _ _ (ha hc) h1 h2 h3 h4 ad h5 h6 H locs lsA hl hP hS) (fun hc => hX _ _ _ _ _ _ (hb hc) h1 h2 h3 h4 ad h5 h6 H locs lsA hl hP hS)
theorem qs_icmp_gt {t : Int} {len : Nat} (hF : qFr G T d p R s m args meth c) {X : qX} (hX : ∀ pc ls st uc us M, X pc ls st uc us M → qS G T ad0 n0 p l e R s m args below meth c Qf pc ls st uc us M) (hk : qChk T (pc, .if_icmp .gt t, len) = true) (h : qI2 st fun x y r => (y < x → X t.toNat ls r uc us M) ∧ (¬ y < x → X (pc + len) ls r uc us M)) : qS G T ad0 n0 p l e R s m args below meth c Qf pc ls st uc us M := by
  obtain ⟨hd, rfl, hex⟩ := q_dec1 3 hk rfl rfl
  obtain ⟨x, y, r, rfl, ha, hb⟩ := qI2_of h
  intro h1 h2 h3 h4 ad h5 h6 H locs lsA hl hP hS
  exact lv_icmp_gt hF.1 hF.2.1 hd (q_tgt hex) (fun hc => hX _ _ _ _ _ _ (ha hc) h1 h2 h3 h4 ad h5 h6 H locs lsA hl hP hS) (fun hc => hX _ _ _ _ _ _ (hb hc) h1 h2 h3 h4 ad h5 h6 H locs lsA hl hP hS)
theorem qs_icmp_le {t : Int} {len : Nat} (hF : qFr G T d p R s m args meth c) {X : qX} (hX : ∀ pc ls st uc us M, X pc ls st uc us M → qS G T ad0 n0 p l e R s m args below meth c Qf pc ls st uc us M) (hk : qChk T (pc, .if_icmp .le t, len) = true) (h : qI2 st fun x y r => (x ≤ y → X t.toNat ls r uc us M) ∧ (¬ x ≤ y → X (pc + len) ls r uc us M)) : qS G T ad0 n0 p l e R s m args below meth c Qf pc ls st uc us M := by
  obtain ⟨hd, rfl, hex⟩ := q_dec1 3 hk rfl rfl
  obtain ⟨x, y, r, rfl, ha, hb⟩ := qI2_of h
  intro h1 h2 h3 h4 ad h5 h6 H locs lsA hl hP hS
  exact lv_icmp_le hF.1 hF.2.1 hd (q_tgt hex) (fun hc => hX _ _ _ _ _ _ (ha hc) h1 h2 h3 h4 ad h5 h6 H locs lsA hl hP hS) (fun hc => hX _ _ _ _ _ _ (hb hc) h1 h2 h3 h4 ad h5 h6 H locs lsA hl hP hS)
theorem qs_ifnull {t : Int} {len : Nat} (hF : qFr G T d p R s m args meth c) {X : qX} (hX : ∀ pc ls st uc us M, X pc ls st uc us M → qS G T ad0 n0 p l e R s m args below meth c Qf pc ls st uc us M) (hk : qChk T (pc, .ifnull t, len) = true) (h : qAn st (fun r => X t.toNat ls r uc us M) fun _ r => X (pc + len) ls r uc us M) : qS G T ad0 n0 p l e R s m args below meth c Qf pc ls st uc us M := by
  obtain ⟨hd, rfl, hex⟩ := q_dec1 3 hk rfl rfl
  rcases qAn_of h with ⟨x, r, rfl, h⟩ | ⟨r, rfl, h⟩
  · intro h1 h2 h3 h4 ad h5 h6 H locs lsA hl hP hS
    exact lv_ifnull hF.1 hF.2.1 hd (hX _ _ _ _ _ _ h h1 h2 h3 h4 ad h5 h6 H locs lsA hl hP hS)
  · intro h1 h2 h3 h4 ad h5 h6 H locs lsA hl hP hS
    exact lv_ifnullN hF.1 hF.2.1 hd (q_tgt hex) (hX _ _ _ _ _ _ h h1 h2 h3 h4 ad h5 h6 H locs lsA hl hP hS)
theorem qs_ifnonnull {t : Int} {len : Nat} (hF : qFr G T d p R s m args meth c) {X : qX} (hX : ∀ pc ls st uc us M, X pc ls st uc us M → qS G T ad0 n0 p l e R s m args below meth c Qf pc ls st uc us M) (hk : qChk T (pc, .ifnonnull t, len) = true) (h : qAn st (fun r => X (pc + len) ls r uc us M) fun _ r => X t.toNat ls r uc us M) : qS G T ad0 n0 p l e R s m args below meth c Qf pc ls st uc us M := by
  obtain ⟨hd, rfl, hex⟩ := q_dec1 3 hk rfl rfl
  rcases qAn_of h with ⟨x, r, rfl, h⟩ | ⟨r, rfl, h⟩
  · intro h1 h2 h3 h4 ad h5 h6 H locs lsA hl hP hS
    exact lv_ifnonnull hF.1 hF.2.1 hd (q_tgt hex) (hX _ _ _ _ _ _ h h1 h2 h3 h4 ad h5 h6 H locs lsA hl hP hS)
  · intro h1 h2 h3 h4 ad h5 h6 H locs lsA hl hP hS
    exact lv_ifnonnullN hF.1 hF.2.1 hd (hX _ _ _ _ _ _ h h1 h2 h3 h4 ad h5 h6 H locs lsA hl hP hS)
end QSTEP
end
section
section QMEM
variable {G : qCx} {T : qT} {ad0 : Nat → Nat} {n0 d : Nat} {p : Program} {l : Launch} {e : Env} {R : Room} {s : State} {m : MethodId} {args : Array Value} {below : List Frame} {meth : Method} {c : Code} {Qf : State → Prop}
variable {pc : Nat} {ls : List (Nat × Value)} {st : List Value} {uc us : Nat} {M : qM}
theorem q_rng {n f : Nat} {g : Nat → Value} (h : f < n) : ((List.range n).map g)[f]? = some (g f) := by
  simp [List.getElem?_map, List.getElem?_range h]
/-- a cell is set anew -/
theorem qRep_set {ad : Nat → Nat} {M' : qM} {a : Nat} {ev : va_E} {H H1 : Heap} (hP : qRep G ad M H) (h2 : 2 ≤ a) (hlt : a < M.1 + 2) (hn : M'.1 = M.1) (hN : M'.2.1 = M.2.1) (hI : ∀ k, k ≠ a → M'.2.2.1 k = M.2.2.1 k) (hL : ∀ k, k ≠ a → M'.2.2.2.1 k = M.2.2.2.1 k) (hR : ∀ k, k ≠ a → M'.2.2.2.2 k = M.2.2.2.2 k)
    (he : qF G ad M' a = ev) (hRb : qRb M') (hP1 : va_P G.1 vwCl ((qW ad M.1 (qF G ad M)).set (a - 2) (ad a, ev)) H1) (hD1 : va_D (qAr G) ((qW ad M.1 (qF G ad M)).set (a - 2) (ad a, ev))) : qRep G ad M' H1 := by
  have e1 := qW_set (ad := ad) (F := qF G ad M) (F' := qF G ad M') h2 hlt he (fun k hk => qF_eq (by rw [hN]) (hI k hk) (hL k hk) (fun j => by rw [hR k hk]))
  rw [e1] at hP1 hD1
  obtain ⟨-, -, c1, c2, c3, c4, c5, -⟩ := hP
  rw [← hn] at hP1 hD1
  exact ⟨hP1, hD1, c1, c2, by rw [hN]; exact c3, by rw [hI 0 (by omega)]; exact c4, by rw [hI 1 (by omega)]; exact c5, hRb⟩
/-- a cell comes -/
theorem qRep_new {ad : Nat → Nat} {M' : qM} {q : Nat} {ev : va_E} {H H1 : Heap} (hP : qRep G ad M H) (hn : M'.1 = M.1 + 1) (hN0 : M'.2.1 0 = M.2.1 0) (hN : ∀ k, k ≠ M.1 + 2 → qLen M'.2.1 k = qLen M.2.1 k) (hI : ∀ k, k ≠ M.1 + 2 → M'.2.2.1 k = M.2.2.1 k) (hL : ∀ k, k ≠ M.1 + 2 → M'.2.2.2.1 k = M.2.2.2.1 k) (hR : ∀ k, k ≠ M.1 + 2 → M'.2.2.2.2 k = M.2.2.2.2 k)
    (he : qF G (fun k => if k = M.1 + 2 then q else ad k) M' (M.1 + 2) = ev) (hRb : qRb M') (hP1 : va_P G.1 vwCl (qW ad M.1 (qF G ad M) ++ [(q, ev)]) H1) (hD1 : va_D (qAr G) (qW ad M.1 (qF G ad M) ++ [(q, ev)])) : qRep G (fun k => if k = M.1 + 2 then q else ad k) M' H1 := by
  obtain ⟨-, -, c1, c2, c3, c4, c5, c6⟩ := hP
  have e1 := qW_push (ad := ad) (q := q) (F := qF G ad M) (F' := qF G (fun k => if k = M.1 + 2 then q else ad k) M') he (fun k _ hk => qF_eq (hN k (by omega)) (hI k (by omega)) (hL k (by omega)) (fun j => by
    rw [hR k (by omega)]
    cases hr : M.2.2.2.2 k j with
    | none => rfl
    | some x =>
      have := c6 k j x hr
      simp only [Option.map_some]
      rw [if_neg (by omega)]))
  rw [e1, ← hn] at hP1 hD1
  refine ⟨hP1, hD1, ?_, ?_, by rw [hN0]; exact c3, by rw [hI 0 (by omega)]; exact c4, by rw [hI 1 (by omega)]; exact c5, hRb⟩
  · show (if 0 = M.1 + 2 then q else ad 0) = _
    rw [if_neg (by omega)]; exact c1
  · show (if 1 = M.1 + 2 then q else ad 1) = _
    rw [if_neg (by omega)]; exact c2
theorem qRefs_map {ad ad' : Nat → Nat} {n : Nat} (ha : ∀ k, k < n → ad' k = ad k) : ∀ l : List Value, qRefs n l → l.map (qV ad') = l.map (qV ad) := by
  intro l
  induction l with
  | nil => intro _; rfl
  | cons v r ih =>
    intro h
    cases v <;> simp only [qRefs] at h <;> simp only [List.map_cons, qV] <;> first | (rw [ih h]; done) | (rw [ih h.2, ha _ h.1])
theorem qRefs_ls {ad ad' : Nat → Nat} {n : Nat} (ha : ∀ k, k < n → ad' k = ad k) : ∀ ls : List (Nat × Value), qRefs n (ls.map Prod.snd) → qLs ad' ls = qLs ad ls := by
  intro ls
  induction ls with
  | nil => intro _; rfl
  | cons q r ih =>
    intro h
    obtain ⟨i, v⟩ := q
    simp only [List.map_cons] at h
    have h1 : qV ad' v = qV ad v ∧ qRefs n (r.map Prod.snd) := by
      cases v <;> simp only [qRefs] at h <;> first | exact ⟨rfl, h⟩ | exact ⟨by simp only [qV]; rw [ha _ h.1], h.2⟩
    have h2 := ih h1.2
    unfold qLs at h2 ⊢
    rw [List.map_cons, List.map_cons, h2, h1.1]
theorem q_good {ws : List Cond} (h : ∀ w ∈ ws, w ∈ qTbl) : GoodIn qTbl ws := fun w hw => ⟨h w hw, good_of_word (List.mem_filter.mp (h w hw)).2⟩
/-! fields -/
theorem qFv_ref {ad : Nat → Nat} {k f : Nat} (h : qTf (qK k) f = 2) : qFv ad M k f = va_rf ((M.2.2.2.2 k f).map ad) := by
  unfold qFv
  rw [h]
theorem qFv_int {ad : Nat → Nat} {k f : Nat} (h : qTf (qK k) f ≠ 2) : qFv ad M k f = .int (M.2.2.1 k f) := by
  unfold qFv
  have : Nat.beq (qTf (qK k) f) 2 = false := by
    cases hb : Nat.beq (qTf (qK k) f) 2 with
    | true => exact absurd (Nat.eq_of_beq_eq_true hb) h
    | false => rfl
  rw [this]
theorem qV_rf (ad : Nat → Nat) (v : Option Nat) : qV ad (va_rf v) = va_rf (v.map ad) := by cases v <;> rfl
theorem q_m2 {A B : Prop} {n : Nat} (h : match n with | 2 => A | _ => B) : (n = 2 ∧ A) ∨ (n ≠ 2 ∧ B) := by
  split at h
  · exact Or.inl ⟨rfl, h⟩
  · rename_i hn
    exact Or.inr ⟨hn, h⟩
theorem qs_getfield {k : Nat} {len : Nat} (hF : qFr G T d p R s m args meth c) {X : qX} (hX : ∀ pc ls st uc us M, X pc ls st uc us M → qS G T ad0 n0 p l e R s m args below meth c Qf pc ls st uc us M) (hk : qChk T (pc, .getfield k, len) = true)
    (h : qA1 st fun a r => qIs a (k / 100) (qIn (qPh T) a M (match qTf (k / 100) (k % 100) with
      | 2 => (match (bif qPh T then qG a (k % 100) else none) with
        | some b => X (pc + len) ls (.ref b :: r) uc us M
        | none => ∃ v : Option Nat, M.2.2.2.2 a (k % 100) = v ∧ X (pc + len) ls (va_rf v :: r) uc us M)
      | _ => X (pc + len) ls (.int (M.2.2.1 a (k % 100)) :: r) uc us M))) : qS G T ad0 n0 p l e R s m args below meth c Qf pc ls st uc us M := by
  obtain ⟨x, hx, hd, rfl, hex⟩ := q_dec2 3 hk rfl rfl
  obtain ⟨a, r, rfl, h⟩ := qA1_of h
  obtain ⟨hka, h⟩ := qIs_of h
  intro h1 h2 h3 h4 ad h5 h6 H locs lsA hl hP hS
  obtain ⟨hlt, h⟩ := qIn_of h3 h
  simp only [qEx, Nat.blt, Bool.and_eq_true, Nat.ble_eq] at hex
  have hc : k / 100 < 13 := by omega
  have hf : k % 100 < qNf (k / 100) := by omega
  obtain ⟨c1, c2, c3, c4, c5, c6, c7⟩ := q_cls hc
  have he := qW_get (ad := ad) (F := qF G ad M) (qK_lo hka (by omega)) hlt
  rw [qF_obj hka hc] at he
  refine va_get (D := G.1) (ci := k / 100) (C := (qCls (k / 100)).1) (T := (qCls (k / 100)).2.1) (N := (qCls (k / 100)).2.2) (own := qCn (qOc T)) hF.1 hF.2.1 hF.2.2.2.2.2.2.2.1 c2 hF.2.2.2.2.2.2.1 hF.2.2.2.2.2.2.2.2.1.1 hP.1 (a - 2) he c1 (k % 100) (by rw [c3]; exact hf) (hF.2.2.2.2.2.2.2.1 _ (q_fl (qOc T, k, x) (qIx_mem _ _ _ _ hx))) (fun _ h => h) (q_rng hf) hd ?_
  rcases q_m2 h with ⟨ht, h⟩ | ⟨ht, h⟩
  · rw [qFv_ref (by rw [hka]; exact ht)]
    cases hg : (bif qPh T then qG a (k % 100) else none) with
    | some b =>
      rw [hg] at h
      have hph : qPh T = true := by
        cases hq : qPh T with
        | true => rfl
        | false => rw [hq] at hg; cases hg
      rw [hph] at hg
      rw [(h3 hph).2 a hlt _ _ hg]
      exact hX _ _ _ _ _ _ h h1 h2 h3 h4 ad h5 h6 H locs lsA hl hP hS
    | none =>
      rw [hg] at h
      obtain ⟨v, hv, h⟩ := h
      have := hX _ _ _ _ _ _ h h1 h2 h3 h4 ad h5 h6 H locs lsA hl hP hS
      rw [List.map_cons, qV_rf] at this
      rw [hv]
      exact this
  · rw [qFv_int (by rw [hka]; exact ht)]
    exact hX _ _ _ _ _ _ h h1 h2 h3 h4 ad h5 h6 H locs lsA hl hP hS
/-- putting into a field: the row of the machine, whatever the field's finality -/
theorem q_putrow {k x : Nat} {a : Nat} {v : Value} {ad : Nat → Nat} {H : Heap} {locs : List Loc} {lsA : Array Slot} {rest : List Value} (hF : qFr G T d p R s m args meth c) (hx : qIx qFL (qOc T) k = some x) (hd : decode (qB T) pc = .ok (.putfield x, 3)) (hex : qEx T (.putfield k) = true) (hka : qK a = k / 100) (hlt : a < M.1 + 2) (hP : qRep G ad M H) (hS : va_S (qAr G) s.heap H locs)
    (hn : narrow (qTy (k / 100) (k % 100)) v = v) (hfit : fits (qTy (k / 100) (k % 100)) v = true)
    (kk : ∀ (H1 : Heap) (locs1 : List Loc), va_P G.1 vwCl ((qW ad M.1 (qF G ad M)).set (a - 2) (ad a, .inr (k / 100, ((List.range (qNf (k / 100))).map (qFv ad M a)).set (k % 100) v))) H1 → va_D (qAr G) ((qW ad M.1 (qF G ad M)).set (a - 2) (ad a, .inr (k / 100, ((List.range (qNf (k / 100))).map (qFv ad M a)).set (k % 100) v))) → va_S (qAr G) s.heap H1 locs1 → W p l e R s m args below meth c H1 locs1 uc us Qf (F0 m (pc + 3) lsA rest)) :
    W p l e R s m args below meth c H locs uc us Qf (F0 m pc lsA (v :: .ref (ad a) :: rest)) := by
  simp only [qEx, Nat.blt, Bool.and_eq_true, Bool.or_eq_true, Nat.ble_eq, Bool.not_eq_true', decide_eq_true_eq] at hex
  have hc : k / 100 < 13 := by omega
  have hf : k % 100 < qNf (k / 100) := by omega
  obtain ⟨c1, c2, c3, c4, c5, c6, c7⟩ := q_cls hc
  have he := qW_get (ad := ad) (F := qF G ad M) (qK_lo hka (by omega)) hlt
  rw [qF_obj hka hc] at he
  have hf3 : k % 100 < (qCls (k / 100)).2.2 := by rw [c3]; exact hf
  have hlen : k % 100 < ((List.range (qNf (k / 100))).map (qFv ad M a)).length := by simpa using hf
  have hlink := hF.2.2.2.2.2.2.2.1 _ (q_fl (qOc T, k, x) (qIx_mem _ _ _ _ hx))
  by_cases hfin : ((qCls (k / 100)).2.1 (k % 100)).2.2.2 = true
  · rcases hex.2.2 with z | ⟨z1, z2, z3⟩
    · rw [hfin] at z; cases z
    · have hoc := Nat.eq_of_beq_eq_true z2
      exact va_putF (D := G.1) (ci := k / 100) (C := (qCls (k / 100)).1) (T := (qCls (k / 100)).2.1) (N := (qCls (k / 100)).2.2) (own := qCn (qOc T)) hF.1 hF.2.1 hF.2.2.2.2.2.2.2.1 c2 (qTy (k / 100)) c5 c4 hF.2.2.2.2.2.2.1 hF.2.2.2.2.2.2.2.2.1.1 hP.1 hP.2.1 hS (a - 2) he c1 (k % 100) hf3 hlink (fun _ h => h) hfin (hF.2.2.2.2.2.1 z1) (by rw [(c6 _ hf3).1, c7, hoc]) (c5 _ hf3) hn hfit hlen hd kk
  · exact va_put (D := G.1) (ci := k / 100) (C := (qCls (k / 100)).1) (T := (qCls (k / 100)).2.1) (N := (qCls (k / 100)).2.2) (own := qCn (qOc T)) hF.1 hF.2.1 hF.2.2.2.2.2.2.2.1 c2 (qTy (k / 100)) c5 c4 hF.2.2.2.2.2.2.1 hF.2.2.2.2.2.2.2.2.1.1 hP.1 hP.2.1 hS (a - 2) he c1 (k % 100) hf3 hlink (fun _ h => h) (by simpa using hfin) (c5 _ hf3) hn hfit hlen hd kk
theorem q_narb {x : Int32} (h : x = 0 ∨ x = 1) : narrow .boolean (.int x) = .int x := by
  rcases h with rfl | rfl <;> rfl
theorem q_rb2 {a f : Nat} {v : Option Nat} (h : qRb M) (hv : qRfOk (M.1 + 2) v) : qRb (M.1, M.2.1, M.2.2.1, M.2.2.2.1, q2 M.2.2.2.2 a f v) := by
  intro k g x hx
  dsimp only [q2] at hx ⊢
  split at hx
  · split at hx
    · subst hx; exact hv
    · exact h _ _ _ hx
  · exact h _ _ _ hx
theorem q_stat2 {a f : Nat} {v : Option Nat} (h : qStat M) (hg : qG a f = none) : qStat (M.1, M.2.1, M.2.2.1, M.2.2.2.1, q2 M.2.2.2.2 a f v) := by
  refine ⟨h.1, fun k hk g x hx => ?_⟩
  have := h.2 k hk g x hx
  dsimp only [q2]
  split
  · rename_i e
    subst e
    split
    · rename_i e
      subst e
      rw [hg] at hx
      cases hx
    · exact this
  · exact this
theorem q_putI {k x : Nat} {a : Nat} {z : Int32} {r : List Value} (hF : qFr G T d p R s m args meth c) {X : qX} (hX : ∀ pc ls st uc us M, X pc ls st uc us M → qS G T ad0 n0 p l e R s m args below meth c Qf pc ls st uc us M) (hx : qIx qFL (qOc T) k = some x) (hd : decode (qB T) pc = .ok (.putfield x, 3)) (hex : qEx T (.putfield k) = true) (hka : qK a = k / 100) (ht : qTf (k / 100) (k % 100) ≠ 2)
    (hn : narrow (qTy (k / 100) (k % 100)) (.int z) = .int z) (hfit : fits (qTy (k / 100) (k % 100)) (.int z) = true)
    (h : qIn (qPh T) a M (X (pc + 3) ls r uc us (M.1, M.2.1, q2 M.2.2.1 a (k % 100) z, M.2.2.2.1, M.2.2.2.2))) : qS G T ad0 n0 p l e R s m args below meth c Qf pc ls (.int z :: .ref a :: r) uc us M := by
  intro h1 h2 h3 h4 ad h5 h6 H locs lsA hl hP hS
  obtain ⟨hlt, h⟩ := qIn_of h3 h
  have hc : k / 100 < 13 := by
    simp only [qEx, Nat.blt, Bool.and_eq_true, Nat.ble_eq] at hex
    omega
  refine q_putrow hF hx hd hex hka hlt hP hS hn hfit fun H1 locs1 hP1 hD1 hS1 => ?_
  refine hX _ _ _ _ _ _ h h1 h2 h3 h4 ad h5 h6 H1 locs1 lsA hl ?_ hS1
  refine qRep_set hP (qK_lo hka (by omega)) hlt rfl rfl (fun j hj => q2_ne hj) (fun _ _ => rfl) (fun _ _ => rfl) ?_ hP.2.2.2.2.2.2.2 hP1 hD1
  rw [qF_obj hka hc]
  congr 2
  refine (q_set_map ?_ ?_).symm
  · rw [qFv_int (by rw [hka]; exact ht)]
    exact congrArg Value.int q2_at
  · intro j hj
    unfold qFv
    dsimp only
    rw [q2_nj hj]
theorem q_putR {k x : Nat} {a : Nat} {v : Option Nat} {r : List Value} (hF : qFr G T d p R s m args meth c) {X : qX} (hX : ∀ pc ls st uc us M, X pc ls st uc us M → qS G T ad0 n0 p l e R s m args below meth c Qf pc ls st uc us M) (hx : qIx qFL (qOc T) k = some x) (hd : decode (qB T) pc = .ok (.putfield x, 3)) (hex : qEx T (.putfield k) = true) (hka : qK a = k / 100) (ht : qTf (k / 100) (k % 100) = 2)
    (h : qIn (qPh T) a M (qIf (!(qPh T) || !((qG a (k % 100)).isSome)) (qRfOk (M.1 + 2) v ∧ X (pc + 3) ls r uc us (M.1, M.2.1, M.2.2.1, M.2.2.2.1, q2 M.2.2.2.2 a (k % 100) v)))) : qS G T ad0 n0 p l e R s m args below meth c Qf pc ls (va_rf v :: .ref a :: r) uc us M := by
  intro h1 h2 h3 h4 ad h5 h6 H locs lsA hl hP hS
  obtain ⟨hlt, h⟩ := qIn_of h3 h
  obtain ⟨hg, hv, h⟩ := qIf_of h
  have hc : k / 100 < 13 := by
    simp only [qEx, Nat.blt, Bool.and_eq_true, Nat.ble_eq] at hex
    omega
  have hf : k % 100 < (qCls (k / 100)).2.2 := by
    rw [(q_cls hc).2.2.1]
    simp only [qEx, Nat.blt, Bool.and_eq_true, Nat.ble_eq] at hex
    omega
  have htok := ((q_cls hc).2.2.2.2.2.1 _ hf).2
  have hsh : (∃ C, qTy (k / 100) (k % 100) = .object C) ∨ ∃ t, qTy (k / 100) (k % 100) = .array t := by
    unfold qTok at htok
    rw [ht] at htok
    cases hty : qTy (k / 100) (k % 100) <;> rw [hty] at htok <;> first | exact Or.inl ⟨_, rfl⟩ | exact Or.inr ⟨_, rfl⟩ | cases htok
  have hnf : narrow (qTy (k / 100) (k % 100)) (va_rf (v.map ad)) = va_rf (v.map ad) ∧ fits (qTy (k / 100) (k % 100)) (va_rf (v.map ad)) = true := by
    rcases hsh with ⟨C, hC⟩ | ⟨C, hC⟩ <;> rw [hC] <;> cases v <;> exact ⟨rfl, rfl⟩
  have e0 : (va_rf v :: Value.ref a :: r).map (qV ad) = va_rf (v.map ad) :: .ref (ad a) :: r.map (qV ad) := by rw [List.map_cons, qV_rf]; rfl
  rw [e0]
  refine q_putrow hF hx hd hex hka hlt hP hS hnf.1 hnf.2 fun H1 locs1 hP1 hD1 hS1 => ?_
  refine hX _ _ _ _ _ _ h h1 h2 (fun hph => q_stat2 (h3 hph) ?_) h4 ad h5 h6 H1 locs1 lsA hl ?_ hS1
  · rw [hph] at hg
    cases hq : qG a (k % 100) with
    | none => rfl
    | some y => rw [hq] at hg; cases hg
  · refine qRep_set hP (qK_lo hka (by omega)) hlt rfl rfl (fun _ _ => rfl) (fun _ _ => rfl) (fun j hj => q2_ne hj) ?_ (q_rb2 hP.2.2.2.2.2.2.2 hv) hP1 hD1
    rw [qF_obj hka hc]
    congr 2
    refine (q_set_map ?_ ?_).symm
    · rw [qFv_ref (by rw [hka]; exact ht)]
      exact congrArg (fun z : Option Nat => va_rf (z.map ad)) q2_at
    · intro j hj
      unfold qFv
      dsimp only
      rw [q2_nj hj]
theorem qs_putfield {k : Nat} {len : Nat} (hF : qFr G T d p R s m args meth c) {X : qX} (hX : ∀ pc ls st uc us M, X pc ls st uc us M → qS G T ad0 n0 p l e R s m args below meth c Qf pc ls st uc us M) (hk : qChk T (pc, .putfield k, len) = true)
    (h : match qTf (k / 100) (k % 100) with
    | 2 => qVA st fun a v r => qIs a (k / 100) (qIn (qPh T) a M (qIf (!(qPh T) || !((qG a (k % 100)).isSome)) (qRfOk (M.1 + 2) v ∧ X (pc + len) ls r uc us (M.1, M.2.1, M.2.2.1, M.2.2.2.1, q2 M.2.2.2.2 a (k % 100) v))))
    | 1 => qIA st fun a x r => qIs a (k / 100) (qIn (qPh T) a M ((x = 0 ∨ x = 1) ∧ X (pc + len) ls r uc us (M.1, M.2.1, q2 M.2.2.1 a (k % 100) x, M.2.2.2.1, M.2.2.2.2)))
    | _ => qIA st fun a x r => qIs a (k / 100) (qIn (qPh T) a M (X (pc + len) ls r uc us (M.1, M.2.1, q2 M.2.2.1 a (k % 100) x, M.2.2.2.1, M.2.2.2.2)))) : qS G T ad0 n0 p l e R s m args below meth c Qf pc ls st uc us M := by
  obtain ⟨x, hx, hd, rfl, hex⟩ := q_dec2 3 hk rfl rfl
  have hc : k / 100 < 13 := by
    simp only [qEx, Nat.blt, Bool.and_eq_true, Nat.ble_eq] at hex
    omega
  have hf : k % 100 < (qCls (k / 100)).2.2 := by
    rw [(q_cls hc).2.2.1]
    simp only [qEx, Nat.blt, Bool.and_eq_true, Nat.ble_eq] at hex
    omega
  have htok := ((q_cls hc).2.2.2.2.2.1 _ hf).2
  unfold qTok at htok
  split at h
  · rename_i ht
    obtain ⟨a, v, r, hst, h⟩ := qVA_of h
    obtain ⟨hka, h⟩ := qIs_of h
    rw [hst]
    exact q_putR hF hX hx hd hex hka ht h
  · rename_i ht
    obtain ⟨a, z, r, hst, h⟩ := qIA_of h
    obtain ⟨hka, h⟩ := qIs_of h
    rw [hst]
    have hty : qTy (k / 100) (k % 100) = .boolean := by
      rw [ht] at htok
      cases hty : qTy (k / 100) (k % 100) <;> rw [hty] at htok <;> first | rfl | cases htok
    intro h1 h2 h3
    obtain ⟨hlt, hz, h⟩ := qIn_of h3 h
    have h' : qIn (qPh T) a M (X (pc + 3) ls r uc us (M.1, M.2.1, q2 M.2.2.1 a (k % 100) z, M.2.2.2.1, M.2.2.2.2)) := by
      unfold qIn
      split
      · exact h
      · exact ⟨hlt, h⟩
    exact q_putI hF hX hx hd hex hka (by omega) (by rw [hty]; exact q_narb hz) (by rw [hty]; rcases hz with rfl | rfl <;> rfl) h' h1 h2 h3
  · rename_i ht1 ht2
    obtain ⟨a, z, r, hst, h⟩ := qIA_of h
    obtain ⟨hka, h⟩ := qIs_of h
    rw [hst]
    have hty : qTy (k / 100) (k % 100) = .int := by
      split at htok
      · assumption
      · rename_i e1 e2; exact absurd e1 ht2
      · rename_i e1 e2; exact absurd e1 ht1
      · rename_i e1 e2; exact absurd e1 ht1
      · cases htok
    exact q_putI hF hX hx hd hex hka ht1 (by rw [hty]; rfl) (by rw [hty]; rfl) h
end QMEM
end
section
section QARR
variable {G : qCx} {T : qT} {ad0 : Nat → Nat} {n0 d : Nat} {p : Program} {l : Launch} {e : Env} {R : Room} {s : State} {m : MethodId} {args : Array Value} {below : List Frame} {meth : Method} {c : Code} {Qf : State → Prop}
variable {pc : Nat} {ls : List (Nat × Value)} {st : List Value} {uc us : Nat} {M : qM} {Q : qP}
theorem q_ty {G : qCx} (i : Nat) {q : ClassId × FieldType} (h : (qTys G)[i]? = some q) : (qTys G)[i]? = some q := h

theorem q_lt2 {a : Nat} (h : a < 2) : a = 0 ∨ a = 1 := by omega
theorem q_nlt2 {a : Nat} (h : Nat.blt a 2 = false) : 2 ≤ a := by
  rcases Nat.lt_or_ge a 2 with h1 | h1
  · rw [q_blt.mpr h1] at h; cases h
  · exact h1
theorem q_kinds {a : Nat} (h : 13 ≤ qK a) (h2 : 2 ≤ a) : qK a = 13 ∨ qK a = 14 ∨ qK a = 15 ∨ qK a = 16 ∨ qK a = 17 := by
  by_cases hb : qBase ≤ a
  · unfold qK at h ⊢
    rw [show Nat.ble qBase a = true from Nat.ble_eq.mpr hb] at h ⊢
    simp only [cond_true] at h ⊢
    cases hq : Nat.beq ((a - qBase) % 2) 0 with
    | true => rw [hq] at h; simp at h
    | false => simp
  · have hk : ∀ a, a < qBase → 2 ≤ a → 13 ≤ qK a → (qK a = 13 ∨ qK a = 14 ∨ qK a = 15 ∨ qK a = 16 ∨ qK a = 17) := by decide +kernel
    exact hk a (by omega) h2 h
theorem q_aload_I {kd t0 : Nat} {ty : FieldType} {a : Nat} {i : Int32} {ad : Nat → Nat} {H : Heap} (hP : qRep G ad M H) (hka : qK a = kd) (hkd : kd = 13 ∨ kd = 14 ∨ kd = 16) (hlt : a < M.1 + 2) : (qW ad M.1 (qF G ad M))[a - 2]? = some (ad a, .inl (G.2.1 kd, (qLen M.2.1 a, .inl (M.2.2.1 a)))) := by
  have he := qW_get (ad := ad) (F := qF G ad M) (qK_lo hka (by rcases hkd with rfl | rfl | rfl <;> decide)) hlt
  rw [qF_int hka hkd] at he
  exact he
theorem qs_iaload  {len : Nat} (hF : qFr G T d p R s m args meth c) {X : qX} (hX : ∀ pc ls st uc us M, X pc ls st uc us M → qS G T ad0 n0 p l e R s m args below meth c Qf pc ls st uc us M) (hk : qChk T (pc, .iaload, len) = true) (h : qAI st fun a i r => match Nat.blt a 2 with | true => vp_in i (qLen M.2.1 a) ∧ X (pc + len) ls (.int (M.2.2.1 a i.toNatClampNeg) :: r) uc us M | false => qIs a 14 (qIn (qPh T) a M (vp_in i (qLen M.2.1 a) ∧ X (pc + len) ls (.int (M.2.2.1 a i.toNatClampNeg) :: r) uc us M))) : qS G T ad0 n0 p l e R s m args below meth c Qf pc ls st uc us M := by
  obtain ⟨hd, rfl, -⟩ := q_dec1 1 hk rfl rfl
  have hq := qAI_of h
  clear h
  obtain ⟨a, i, r, rfl, h⟩ := hq
  split at h
  · rename_i ha
    have ha2 : a < 2 := q_blt.mp ha
    obtain ⟨hin, h⟩ := h
    intro h1 h2 h3 h4 ad h5 h6 H locs lsA hl hP hS
    have hOn := hF.2.2.2.2.2.2.2.2.1
    have hh := hX _ _ _ _ _ _ h h1 h2 h3 h4 ad h5 h6 H locs lsA hl hP hS
    rcases q_lt2 ha2 with rfl | rfl
    · have e1 : qLen M.2.1 0 = G.2.2.2.2.2.1 := hP.2.2.2.2.1
      rw [e1] at hin
      show W p l e R s m args below meth c H locs uc us Qf (F0 m pc lsA (.int i :: .ref (ad 0) :: r.map (qV ad)))
      rw [hP.2.2.1]
      exact va_ti hF.1 hF.2.1 hOn.2.1 hS hin (v := .int (M.2.2.1 0 i.toNatClampNeg)) (by rw [hP.2.2.2.2.2.1]) hd hh
    · have e1 : qLen M.2.1 1 = 6 := rfl
      rw [e1] at hin
      show W p l e R s m args below meth c H locs uc us Qf (F0 m pc lsA (.int i :: .ref (ad 1) :: r.map (qV ad)))
      rw [hP.2.2.2.1]
      exact va_ti hF.1 hF.2.1 hOn.2.2.1 hS hin (v := .int (M.2.2.1 1 i.toNatClampNeg)) (by rw [hP.2.2.2.2.2.2.1]) hd hh
  · obtain ⟨hka, h⟩ := qIs_of h
    intro h1 h2 h3 h4 ad h5 h6 H locs lsA hl hP hS
    obtain ⟨hlt, hin, h⟩ := qIn_of h3 h
    exact va_iald (D := G.1) hF.1 hF.2.1 hF.2.2.2.2.2.2.2.2.1.1 hP.1 (a - 2) 1 (q_aload_I (t0 := 0) (ty := .int) (i := i) hP hka (by decide) hlt) rfl hin hd (hX _ _ _ _ _ _ h h1 h2 h3 h4 ad h5 h6 H locs lsA hl hP hS)
theorem qs_baload  {len : Nat} (hF : qFr G T d p R s m args meth c) {X : qX} (hX : ∀ pc ls st uc us M, X pc ls st uc us M → qS G T ad0 n0 p l e R s m args below meth c Qf pc ls st uc us M) (hk : qChk T (pc, .baload, len) = true) (h : qAI st fun a i r => match Nat.beq (qK a) 16 with | true => qIn (qPh T) a M (vp_in i (qLen M.2.1 a) ∧ X (pc + len) ls (.int (M.2.2.1 a i.toNatClampNeg) :: r) uc us M) | false => qIs a 13 (qIn (qPh T) a M (vp_in i (qLen M.2.1 a) ∧ X (pc + len) ls (.int (M.2.2.1 a i.toNatClampNeg) :: r) uc us M))) : qS G T ad0 n0 p l e R s m args below meth c Qf pc ls st uc us M := by
  obtain ⟨hd, rfl, -⟩ := q_dec1 1 hk rfl rfl
  have hq := qAI_of h
  clear h
  obtain ⟨a, i, r, rfl, h⟩ := hq
  split at h
  · rename_i ha
    have hka := Nat.eq_of_beq_eq_true ha
    intro h1 h2 h3 h4 ad h5 h6 H locs lsA hl hP hS
    obtain ⟨hlt, hin, h⟩ := qIn_of h3 h
    exact va_zald (D := G.1) hF.1 hF.2.1 hF.2.2.2.2.2.2.2.2.1.1 hP.1 (a - 2) 3 (q_aload_I (t0 := 0) (ty := .int) (i := i) hP hka (by decide) hlt) rfl hin hd (hX _ _ _ _ _ _ h h1 h2 h3 h4 ad h5 h6 H locs lsA hl hP hS)
  · obtain ⟨hka, h⟩ := qIs_of h
    intro h1 h2 h3 h4 ad h5 h6 H locs lsA hl hP hS
    obtain ⟨hlt, hin, h⟩ := qIn_of h3 h
    exact va_bald (D := G.1) hF.1 hF.2.1 hF.2.2.2.2.2.2.2.2.1.1 hP.1 (a - 2) 0 (q_aload_I (t0 := 0) (ty := .int) (i := i) hP hka (by decide) hlt) rfl hin hd (hX _ _ _ _ _ _ h h1 h2 h3 h4 ad h5 h6 H locs lsA hl hP hS)
theorem qs_laload  {len : Nat} (hF : qFr G T d p R s m args meth c) {X : qX} (hX : ∀ pc ls st uc us M, X pc ls st uc us M → qS G T ad0 n0 p l e R s m args below meth c Qf pc ls st uc us M) (hk : qChk T (pc, .laload, len) = true) (h : qAI st fun a i r => qIs a 15 (qIn (qPh T) a M (vp_in i (qLen M.2.1 a) ∧ X (pc + len) ls (.long (M.2.2.2.1 a i.toNatClampNeg) :: r) uc us M))) : qS G T ad0 n0 p l e R s m args below meth c Qf pc ls st uc us M := by
  obtain ⟨hd, rfl, -⟩ := q_dec1 1 hk rfl rfl
  have hq := qAI_of h
  clear h
  obtain ⟨a, i, r, rfl, h⟩ := hq
  obtain ⟨hka, h⟩ := qIs_of h
  intro h1 h2 h3 h4 ad h5 h6 H locs lsA hl hP hS
  obtain ⟨hlt, hin, h⟩ := qIn_of h3 h
  have he := qW_get (ad := ad) (F := qF G ad M) (qK_lo hka (by decide)) hlt
  rw [qF_long hka] at he
  exact va_lald (D := G.1) hF.1 hF.2.1 hF.2.2.2.2.2.2.2.2.1.1 hP.1 (a - 2) 2 he rfl hin hd (hX _ _ _ _ _ _ h h1 h2 h3 h4 ad h5 h6 H locs lsA hl hP hS)
theorem qs_aaload  {len : Nat} (hF : qFr G T d p R s m args meth c) {X : qX} (hX : ∀ pc ls st uc us M, X pc ls st uc us M → qS G T ad0 n0 p l e R s m args below meth c Qf pc ls st uc us M) (hk : qChk T (pc, .aaload, len) = true) (h : qAI st fun a i r => qIs a 17 (qIn (qPh T) a M (vp_in i (qLen M.2.1 a) ∧ ∃ v : Option Nat, M.2.2.2.2 a i.toNatClampNeg = v ∧ X (pc + len) ls (va_rf v :: r) uc us M))) : qS G T ad0 n0 p l e R s m args below meth c Qf pc ls st uc us M := by
  obtain ⟨hd, rfl, -⟩ := q_dec1 1 hk rfl rfl
  have hq := qAI_of h
  clear h
  obtain ⟨a, i, r, rfl, h⟩ := hq
  obtain ⟨hka, h⟩ := qIs_of h
  intro h1 h2 h3 h4 ad h5 h6 H locs lsA hl hP hS
  obtain ⟨hlt, hin, v, hv, h⟩ := qIn_of h3 h
  have he := qW_get (ad := ad) (F := qF G ad M) (qK_lo hka (by decide)) hlt
  rw [qF_ref hka] at he
  have hh := hX _ _ _ _ _ _ h h1 h2 h3 h4 ad h5 h6 H locs lsA hl hP hS
  rw [List.map_cons, qV_rf, ← hv] at hh
  exact va_aldq (D := G.1) hF.1 hF.2.1 hF.2.2.2.2.2.2.2.2.1.1 hP.1 (a - 2) 4 he rfl hin hd hh
theorem qs_alen  {len : Nat} (hF : qFr G T d p R s m args meth c) {X : qX} (hX : ∀ pc ls st uc us M, X pc ls st uc us M → qS G T ad0 n0 p l e R s m args below meth c Qf pc ls st uc us M) (hk : qChk T (pc, .arraylength, len) = true) (h : qA1 st fun a r => match Nat.blt a 2 with | true => X (pc + len) ls (.int (Int32.ofNat (qLen M.2.1 a)) :: r) uc us M | false => qIf (Nat.ble 13 (qK a)) (qIn (qPh T) a M (X (pc + len) ls (.int (Int32.ofNat (qLen M.2.1 a)) :: r) uc us M))) : qS G T ad0 n0 p l e R s m args below meth c Qf pc ls st uc us M := by
  obtain ⟨hd, rfl, -⟩ := q_dec1 1 hk rfl rfl
  have hq := qA1_of h
  clear h
  obtain ⟨a, r, rfl, h⟩ := hq
  split at h
  · rename_i ha
    have ha2 : a < 2 := q_blt.mp ha
    intro h1 h2 h3 h4 ad h5 h6 H locs lsA hl hP hS
    have hh := hX _ _ _ _ _ _ h h1 h2 h3 h4 ad h5 h6 H locs lsA hl hP hS
    have hOn := hF.2.2.2.2.2.2.2.2.1
    have key : ∀ (t N : Nat) (f : Nat → Value), va_T .int t N f (qAr G) s s.heap → ad a = t → qLen M.2.1 a = N → W p l e R s m args below meth c H locs uc us Qf (F0 m pc lsA ((Value.ref a :: r).map (qV ad))) := by
      intro t N f hTT e1 e2
      obtain ⟨cell, g1, g2, g3, g4, g5, g6, g7⟩ := hTT
      show W p l e R s m args below meth c H locs uc us Qf (F0 m pc lsA (.ref (ad a) :: r.map (qV ad)))
      rw [e1]
      exact W.alen (n := Int32.ofNat (qLen M.2.1 a)) hF.1 hF.2.1 (by rw [hS.2.1 t (Array.getElem?_eq_some_iff.mp g1).1 g7]; exact g1) g2 (by rw [g5, e2]) rfl rfl hd hh
    rcases q_lt2 ha2 with rfl | rfl
    · exact key _ _ _ hOn.2.1 hP.2.2.1 hP.2.2.2.2.1
    · exact key _ _ _ hOn.2.2.1 hP.2.2.2.1 rfl
  · rename_i ha
    obtain ⟨hb, h⟩ := qIf_of h
    intro h1 h2 h3 h4 ad h5 h6 H locs lsA hl hP hS
    obtain ⟨hlt, h⟩ := qIn_of h3 h
    have ha2 : 2 ≤ a := q_nlt2 ha
    have he := qW_get (ad := ad) (F := qF G ad M) ha2 hlt
    have hb13 : 13 ≤ qK a := by simpa [Nat.ble_eq] using hb
    have hK9 : qK a = 13 ∨ qK a = 14 ∨ qK a = 15 ∨ qK a = 16 ∨ qK a = 17 := q_kinds hb13 ha2
    have hh := hX _ _ _ _ _ _ h h1 h2 h3 h4 ad h5 h6 H locs lsA hl hP hS
    rcases hK9 with hka | hka | hka | hka | hka
    · rw [qF_int hka (by decide)] at he
      exact va_alen (D := G.1) hF.1 hF.2.1 hF.2.2.2.2.2.2.2.2.1.1 hP.1 (a - 2) 0 he rfl rfl hd hh
    · rw [qF_int hka (by decide)] at he
      exact va_alen (D := G.1) hF.1 hF.2.1 hF.2.2.2.2.2.2.2.2.1.1 hP.1 (a - 2) 1 he rfl rfl hd hh
    · rw [qF_long hka] at he
      exact va_alen (D := G.1) hF.1 hF.2.1 hF.2.2.2.2.2.2.2.2.1.1 hP.1 (a - 2) 2 he rfl rfl hd hh
    · rw [qF_int hka (by decide)] at he
      exact va_alen (D := G.1) hF.1 hF.2.1 hF.2.2.2.2.2.2.2.2.1.1 hP.1 (a - 2) 3 he rfl rfl hd hh
    · rw [qF_ref hka] at he
      exact va_alen (D := G.1) hF.1 hF.2.1 hF.2.2.2.2.2.2.2.2.1.1 hP.1 (a - 2) 4 he rfl rfl hd hh
theorem q_upd {f : Nat → Nat → Int32} {a j : Nat} {v : Int32} : q2 f a j v a = upd (f a) j v := by
  funext i
  simp only [q2, upd, if_true]
theorem q_updL {f : Nat → Nat → Int64} {a j : Nat} {v : Int64} : q2 f a j v a = vp_updL (f a) j v := by
  funext i
  simp only [q2, vp_updL, if_true]
theorem q_updR {f : Nat → Nat → Option Nat} {ad : Nat → Nat} {a j : Nat} {v : Option Nat} : (fun i => (q2 f a j v a i).map ad) = va_up (fun i => (f a i).map ad) j (v.map ad) := by
  funext i
  simp only [q2, va_up, if_true]
  split <;> rfl
theorem qs_iastore  {len : Nat} (hF : qFr G T d p R s m args meth c) {X : qX} (hX : ∀ pc ls st uc us M, X pc ls st uc us M → qS G T ad0 n0 p l e R s m args below meth c Qf pc ls st uc us M) (hk : qChk T (pc, .iastore, len) = true) (h : qAII st fun a i x r => qIs a 14 (qIn (qPh T) a M (vp_in i (qLen M.2.1 a) ∧ X (pc + len) ls r uc us (M.1, M.2.1, q2 M.2.2.1 a i.toNatClampNeg x, M.2.2.2.1, M.2.2.2.2)))) : qS G T ad0 n0 p l e R s m args below meth c Qf pc ls st uc us M := by
  obtain ⟨hd, rfl, -⟩ := q_dec1 1 hk rfl rfl
  have hq := qAII_of h
  clear h
  obtain ⟨a, i, x, r, rfl, h⟩ := hq
  obtain ⟨hka, h⟩ := qIs_of h
  intro h1 h2 h3 h4 ad h5 h6 H locs lsA hl hP hS
  obtain ⟨hlt, hin, h⟩ := qIn_of h3 h
  refine va_iast (D := G.1) hF.1 hF.2.1 hF.2.2.2.2.2.2.2.2.1.1 hP.1 hP.2.1 hS (a - 2) 1 (q_aload_I (t0 := 0) (ty := .int) (i := i) hP hka (by decide) hlt) rfl hin hd fun H1 locs1 hP1 hD1 hS1 => ?_
  refine hX _ _ _ _ _ _ h h1 h2 h3 h4 ad h5 h6 H1 locs1 lsA hl (qRep_set hP (qK_lo hka (by decide)) hlt rfl rfl (fun j hj => q2_ne hj) (fun _ _ => rfl) (fun _ _ => rfl) ?_ hP.2.2.2.2.2.2.2 hP1 hD1) hS1
  rw [qF_int hka (by decide)]
  dsimp only
  rw [q_upd]
theorem qs_bastore  {len : Nat} (hF : qFr G T d p R s m args meth c) {X : qX} (hX : ∀ pc ls st uc us M, X pc ls st uc us M → qS G T ad0 n0 p l e R s m args below meth c Qf pc ls st uc us M) (hk : qChk T (pc, .bastore, len) = true) (h : qAII st fun a i x r => match Nat.beq (qK a) 16 with | true => qIn (qPh T) a M (vp_in i (qLen M.2.1 a) ∧ X (pc + len) ls r uc us (M.1, M.2.1, q2 M.2.2.1 a i.toNatClampNeg (vp_nar .boolean x), M.2.2.2.1, M.2.2.2.2)) | false => qIs a 13 (qIn (qPh T) a M (vp_in i (qLen M.2.1 a) ∧ X (pc + len) ls r uc us (M.1, M.2.1, q2 M.2.2.1 a i.toNatClampNeg (vp_nar .byte x), M.2.2.2.1, M.2.2.2.2)))) : qS G T ad0 n0 p l e R s m args below meth c Qf pc ls st uc us M := by
  obtain ⟨hd, rfl, -⟩ := q_dec1 1 hk rfl rfl
  have hq := qAII_of h
  clear h
  obtain ⟨a, i, x, r, rfl, h⟩ := hq
  split at h
  · rename_i ha
    have hka := Nat.eq_of_beq_eq_true ha
    intro h1 h2 h3 h4 ad h5 h6 H locs lsA hl hP hS
    obtain ⟨hlt, hin, h⟩ := qIn_of h3 h
    refine va_zast (D := G.1) hF.1 hF.2.1 hF.2.2.2.2.2.2.2.2.1.1 hP.1 hP.2.1 hS (a - 2) 3 (q_aload_I (t0 := 0) (ty := .int) (i := i) hP hka (by decide) hlt) rfl hin hd fun H1 locs1 hP1 hD1 hS1 => ?_
    refine hX _ _ _ _ _ _ h h1 h2 h3 h4 ad h5 h6 H1 locs1 lsA hl (qRep_set hP (qK_lo hka (by decide)) hlt rfl rfl (fun j hj => q2_ne hj) (fun _ _ => rfl) (fun _ _ => rfl) ?_ hP.2.2.2.2.2.2.2 hP1 hD1) hS1
    rw [qF_int hka (by decide)]
    dsimp only
    rw [q_upd]
  · obtain ⟨hka, h⟩ := qIs_of h
    intro h1 h2 h3 h4 ad h5 h6 H locs lsA hl hP hS
    obtain ⟨hlt, hin, h⟩ := qIn_of h3 h
    refine va_bast (D := G.1) hF.1 hF.2.1 hF.2.2.2.2.2.2.2.2.1.1 hP.1 hP.2.1 hS (a - 2) 0 (q_aload_I (t0 := 0) (ty := .int) (i := i) hP hka (by decide) hlt) rfl hin hd fun H1 locs1 hP1 hD1 hS1 => ?_
    refine hX _ _ _ _ _ _ h h1 h2 h3 h4 ad h5 h6 H1 locs1 lsA hl (qRep_set hP (qK_lo hka (by decide)) hlt rfl rfl (fun j hj => q2_ne hj) (fun _ _ => rfl) (fun _ _ => rfl) ?_ hP.2.2.2.2.2.2.2 hP1 hD1) hS1
    rw [qF_int hka (by decide)]
    dsimp only
    rw [q_upd]
theorem qs_lastore  {len : Nat} (hF : qFr G T d p R s m args meth c) {X : qX} (hX : ∀ pc ls st uc us M, X pc ls st uc us M → qS G T ad0 n0 p l e R s m args below meth c Qf pc ls st uc us M) (hk : qChk T (pc, .lastore, len) = true) (h : qAIL st fun a i x r => qIs a 15 (qIn (qPh T) a M (vp_in i (qLen M.2.1 a) ∧ X (pc + len) ls r uc us (M.1, M.2.1, M.2.2.1, q2 M.2.2.2.1 a i.toNatClampNeg x, M.2.2.2.2)))) : qS G T ad0 n0 p l e R s m args below meth c Qf pc ls st uc us M := by
  obtain ⟨hd, rfl, -⟩ := q_dec1 1 hk rfl rfl
  have hq := qAIL_of h
  clear h
  obtain ⟨a, i, x, r, rfl, h⟩ := hq
  obtain ⟨hka, h⟩ := qIs_of h
  intro h1 h2 h3 h4 ad h5 h6 H locs lsA hl hP hS
  obtain ⟨hlt, hin, h⟩ := qIn_of h3 h
  have he := qW_get (ad := ad) (F := qF G ad M) (qK_lo hka (by decide)) hlt
  rw [qF_long hka] at he
  refine va_last (D := G.1) hF.1 hF.2.1 hF.2.2.2.2.2.2.2.2.1.1 hP.1 hP.2.1 hS (a - 2) 2 he rfl hin hd fun H1 locs1 hP1 hD1 hS1 => ?_
  refine hX _ _ _ _ _ _ h h1 h2 h3 h4 ad h5 h6 H1 locs1 lsA hl (qRep_set hP (qK_lo hka (by decide)) hlt rfl rfl (fun _ _ => rfl) (fun j hj => q2_ne hj) (fun _ _ => rfl) ?_ hP.2.2.2.2.2.2.2 hP1 hD1) hS1
  rw [qF_long hka]
  dsimp only
  rw [q_updL]
theorem qs_aastore  {len : Nat} (hF : qFr G T d p R s m args meth c) {X : qX} (hX : ∀ pc ls st uc us M, X pc ls st uc us M → qS G T ad0 n0 p l e R s m args below meth c Qf pc ls st uc us M) (hk : qChk T (pc, .aastore, len) = true) (h : qAIA st fun a i v r => qIs a 17 (qIn (qPh T) a M (vp_in i (qLen M.2.1 a) ∧ (∀ b, v = some b → qK b = 9 ∧ 2 ≤ b ∧ b < M.1 + 2) ∧ X (pc + len) ls r uc us (M.1, M.2.1, M.2.2.1, M.2.2.2.1, q2 M.2.2.2.2 a i.toNatClampNeg v)))) : qS G T ad0 n0 p l e R s m args below meth c Qf pc ls st uc us M := by
  obtain ⟨hd, rfl, -⟩ := q_dec1 1 hk rfl rfl
  have hq := qAIA_of h
  clear h
  obtain ⟨a, i, v, r, rfl, h⟩ := hq
  obtain ⟨hka, h⟩ := qIs_of h
  intro h1 h2 h3 h4 ad h5 h6 H locs lsA hl hP hS
  obtain ⟨hlt, hin, hv, h⟩ := qIn_of h3 h
  have he := qW_get (ad := ad) (F := qF G ad M) (qK_lo hka (by decide)) hlt
  rw [qF_ref hka] at he
  have hg : ∀ j, qG a j = none := by
    intro j
    unfold qG
    rw [hka]
    rfl
  have hrb : qRb (M.1, M.2.1, M.2.2.1, M.2.2.2.1, q2 M.2.2.2.2 a i.toNatClampNeg v) := q_rb2 hP.2.2.2.2.2.2.2 (by cases v with | none => exact trivial | some b => exact (hv b rfl).2.2)
  have kk : ∀ (H1 : Heap) (locs1 : List Loc), va_P G.1 vwCl ((qW ad M.1 (qF G ad M)).set (a - 2) (ad a, .inl (G.2.1 17, (qLen M.2.1 a, .inr (.inr (.inr (.inr (va_up (fun j => (M.2.2.2.2 a j).map ad) i.toNatClampNeg (v.map ad))))))))) H1 → va_D (qAr G) ((qW ad M.1 (qF G ad M)).set (a - 2) (ad a, .inl (G.2.1 17, (qLen M.2.1 a, .inr (.inr (.inr (.inr (va_up (fun j => (M.2.2.2.2 a j).map ad) i.toNatClampNeg (v.map ad))))))))) → va_S (qAr G) s.heap H1 locs1 → W p l e R s m args below meth c H1 locs1 uc us Qf (F0 m (pc + 1) lsA (r.map (qV ad))) := by
    intro H1 locs1 hP1 hD1 hS1
    refine hX _ _ _ _ _ _ h h1 h2 (fun hph => q_stat2 (h3 hph) (hg _)) h4 ad h5 h6 H1 locs1 lsA hl (qRep_set hP (qK_lo hka (by decide)) hlt rfl rfl (fun _ _ => rfl) (fun _ _ => rfl) (fun j hj => q2_ne hj) ?_ hrb hP1 hD1) hS1
    rw [qF_ref hka]
    dsimp only
    rw [q_updR]
  cases v with
  | none =>
    exact va_astqN (D := G.1) hF.1 hF.2.1 hF.2.2.2.2.2.2.2.2.1.1 hP.1 hP.2.1 hS (a - 2) 4 he rfl hin hd kk
  | some b =>
    obtain ⟨v1, v2, v3⟩ := hv b rfl
    have hb := qW_get (ad := ad) (F := qF G ad M) v2 v3
    rw [qF_obj v1 (by decide)] at hb
    exact va_astq (D := G.1) (r := qCls 9) (ci := 9) hF.1 hF.2.1 hF.2.2.2.2.2.2.2.2.1.1 hP.1 hP.2.1 hS (a - 2) 4 (b - 2) he rfl hb q_cls9.1 hin hd kk
theorem qs_copy  {len : Nat} (hF : qFr G T d p R s m args meth c) {X : qX} (hX : ∀ pc ls st uc us M, X pc ls st uc us M → qS G T ad0 n0 p l e R s m args below meth c Qf pc ls st uc us M) (hk : qChk T (pc, .invokestatic 9998, len) = true) (h : qCp st fun s2 sp d2 dp n r => qIs s2 15 (qIs d2 15 (qIn (qPh T) s2 M (qIn (qPh T) d2 M (qIf (Nat.ble (qCat r) 4) ((¬ sp < 0 ∧ ¬ dp < 0 ∧ ¬ n < 0 ∧ sp.toNatClampNeg + n.toNatClampNeg ≤ qLen M.2.1 s2 ∧ dp.toNatClampNeg + n.toNatClampNeg ≤ qLen M.2.1 d2) ∧ X (pc + len) ls r uc us (M.1, M.2.1, M.2.2.1, qRow M.2.2.2.1 d2 (va_cpy (M.2.2.2.1 s2) (M.2.2.2.1 d2) sp.toNatClampNeg dp.toNatClampNeg n.toNatClampNeg), M.2.2.2.2))))))) : qS G T ad0 n0 p l e R s m args below meth c Qf pc ls st uc us M := by
  obtain ⟨x, hx, hd, rfl, -⟩ := q_dec2 3 hk rfl rfl
  have hq := qCp_of h
  clear h
  obtain ⟨s2, sp, d2, dp, n, r, rfl, h⟩ := hq
  obtain ⟨hks, h⟩ := qIs_of h
  obtain ⟨hkd, h⟩ := qIs_of h
  intro h1 h2 h3 h4 ad h5 h6 H locs lsA hl hP hS
  obtain ⟨hlts, h⟩ := qIn_of h3 h
  obtain ⟨hltd, h⟩ := qIn_of h3 h
  obtain ⟨hcat, ⟨g1, g2, g3, g4, g5⟩, h⟩ := qIf_of h
  have hes := qW_get (ad := ad) (F := qF G ad M) (qK_lo hks (by decide)) hlts
  have hed := qW_get (ad := ad) (F := qF G ad M) (qK_lo hkd (by decide)) hltd
  rw [qF_long hks] at hes
  rw [qF_long hkd] at hed
  have hts := hF.2.2.2.2.2.2.2.1
  have hR := hF.2.2.2.2.2.2.2.2.2.1
  have hc4 : qCat r ≤ 4 := by simpa [Nat.ble_eq] using hcat
  refine va_copyl (D := G.1) hF.1 hF.2.1 (hF.2.2.1.trans hl.1.symm) (own := qCn (qOc T)) hF.2.2.2.2.2.2.1 (hts _ (q_ml (qOc T, 9998, x) (qIx_mem _ _ _ _ hx))) (hts _ (q_one _ (by decide +kernel))) (hts _ (q_one _ (by decide +kernel))) (hts _ (q_one _ (by decide +kernel))) hF.2.2.2.2.2.2.2.2.1.1 hP.1 hP.2.1 hS (s2 - 2) (d2 - 2) 2 2 hes hed rfl rfl rfl g1 g2 g3 g4 g5 (fun _ _ => rfl) (by omega) ?_ hd fun H1 locs1 hP1 hD1 hS1 => ?_
  · rw [qCat_sum]
    have : nativeFrameWords "java/lang/System" "arraycopy" 5 = 7 := by decide +kernel
    omega
  · refine hX _ _ _ _ _ _ h h1 h2 h3 h4 ad h5 h6 H1 locs1 lsA hl (qRep_set hP (qK_lo hkd (by decide)) hltd rfl rfl (fun _ _ => rfl) (fun j hj => qRow_ne hj) (fun _ _ => rfl) ?_ hP.2.2.2.2.2.2.2 hP1 hD1) hS1
    rw [qF_long hkd]
    dsimp only
    rw [qRow_at]
theorem qs_mmax  {len : Nat} (hF : qFr G T d p R s m args meth c) {X : qX} (hX : ∀ pc ls st uc us M, X pc ls st uc us M → qS G T ad0 n0 p l e R s m args below meth c Qf pc ls st uc us M) (hk : qChk T (pc, .invokestatic 9991, len) = true) (h : qI2 st fun x y r => qIf (Nat.ble (qCat r) 8) (X (pc + len) ls (.int (if x < y then y else x) :: r) uc us M)) : qS G T ad0 n0 p l e R s m args below meth c Qf pc ls st uc us M := by
  obtain ⟨ix, hx, hd, rfl, -⟩ := q_dec2 3 hk rfl rfl
  have hq := qI2_of h
  clear h
  obtain ⟨x, y, r, rfl, h⟩ := hq
  obtain ⟨hcat, h⟩ := qIf_of h
  intro h1 h2 h3 h4 ad h5 h6 H locs lsA hl hP hS
  have hts := hF.2.2.2.2.2.2.2.1
  have hR := hF.2.2.2.2.2.2.2.2.2.1
  have hc4 : qCat r ≤ 8 := by simpa [Nat.ble_eq] using hcat
  exact va_mmax hF.1 hF.2.1 (hF.2.2.1.trans hl.1.symm) (own := qCn (qOc T)) hF.2.2.2.2.2.2.1 (hts _ (q_ml (qOc T, 9991, ix) (qIx_mem _ _ _ _ hx))) (hts _ (q_one _ (by decide +kernel))) (hts _ (q_one _ (by decide +kernel))) (hts _ (q_one _ (List.mem_of_getElem? (i := 12) rfl))) (by omega) (by rw [qCat_sum]; omega) (by omega) (by omega) hd (hX _ _ _ _ _ _ h h1 h2 h3 h4 ad h5 h6 H locs lsA hl hP hS)
theorem qs_mmin  {len : Nat} (hF : qFr G T d p R s m args meth c) {X : qX} (hX : ∀ pc ls st uc us M, X pc ls st uc us M → qS G T ad0 n0 p l e R s m args below meth c Qf pc ls st uc us M) (hk : qChk T (pc, .invokestatic 9992, len) = true) (h : qI2 st fun x y r => qIf (Nat.ble (qCat r) 8) (X (pc + len) ls (.int (if y < x then y else x) :: r) uc us M)) : qS G T ad0 n0 p l e R s m args below meth c Qf pc ls st uc us M := by
  obtain ⟨ix, hx, hd, rfl, -⟩ := q_dec2 3 hk rfl rfl
  have hq := qI2_of h
  clear h
  obtain ⟨x, y, r, rfl, h⟩ := hq
  obtain ⟨hcat, h⟩ := qIf_of h
  intro h1 h2 h3 h4 ad h5 h6 H locs lsA hl hP hS
  have hts := hF.2.2.2.2.2.2.2.1
  have hR := hF.2.2.2.2.2.2.2.2.2.1
  have hc4 : qCat r ≤ 8 := by simpa [Nat.ble_eq] using hcat
  exact va_mmin hF.1 hF.2.1 (hF.2.2.1.trans hl.1.symm) (own := qCn (qOc T)) hF.2.2.2.2.2.2.1 (hts _ (q_ml (qOc T, 9992, ix) (qIx_mem _ _ _ _ hx))) (hts _ (q_one _ (by decide +kernel))) (hts _ (q_one _ (by decide +kernel))) (hts _ (q_one _ (List.mem_of_getElem? (i := 14) rfl))) (by omega) (by rw [qCat_sum]; omega) (by omega) (by omega) hd (hX _ _ _ _ _ _ h h1 h2 h3 h4 ad h5 h6 H locs lsA hl hP hS)
theorem qs_mabs  {len : Nat} (hF : qFr G T d p R s m args meth c) {X : qX} (hX : ∀ pc ls st uc us M, X pc ls st uc us M → qS G T ad0 n0 p l e R s m args below meth c Qf pc ls st uc us M) (hk : qChk T (pc, .invokestatic 9993, len) = true) (h : qI1 st fun x r => qIf (Nat.ble (qCat r) 8) (X (pc + len) ls (.int (if 0 ≤ x then x else 0 - x) :: r) uc us M)) : qS G T ad0 n0 p l e R s m args below meth c Qf pc ls st uc us M := by
  obtain ⟨ix, hx, hd, rfl, -⟩ := q_dec2 3 hk rfl rfl
  have hq := qI1_of h
  clear h
  obtain ⟨x, r, rfl, h⟩ := hq
  obtain ⟨hcat, h⟩ := qIf_of h
  intro h1 h2 h3 h4 ad h5 h6 H locs lsA hl hP hS
  have hts := hF.2.2.2.2.2.2.2.1
  have hR := hF.2.2.2.2.2.2.2.2.2.1
  have hc4 : qCat r ≤ 8 := by simpa [Nat.ble_eq] using hcat
  exact va_mabs hF.1 hF.2.1 (hF.2.2.1.trans hl.1.symm) (own := qCn (qOc T)) hF.2.2.2.2.2.2.1 (hts _ (q_ml (qOc T, 9993, ix) (qIx_mem _ _ _ _ hx))) (hts _ (q_one _ (by decide +kernel))) (hts _ (q_one _ (by decide +kernel))) (hts _ (q_one _ (List.mem_of_getElem? (i := 16) rfl))) (by omega) (by rw [qCat_sum]; omega) (by omega) (by omega) hd (hX _ _ _ _ _ _ h h1 h2 h3 h4 ad h5 h6 H locs lsA hl hP hS)
theorem q_mn0 {o : Nat} : qIx qMN o 9999 = none := by
  cases h : qIx qMN o 9999 with
  | none => rfl
  | some x =>
    have h1 := qIx_mem _ _ _ _ h
    have h2 : ∀ e ∈ qMN, e.2.1 ≠ 9999 := by decide +kernel
    exact absurd rfl (h2 _ h1)
theorem qs_obj  {len : Nat} (hF : qFr G T d p R s m args meth c) {X : qX} (hX : ∀ pc ls st uc us M, X pc ls st uc us M → qS G T ad0 n0 p l e R s m args below meth c Qf pc ls st uc us M) (hk : qChk T (pc, .invokespecial 9999, len) = true) (h : qA1 st fun _ r => qIf (Nat.ble (qCat r) 8) (X (pc + len) ls r uc us M)) : qS G T ad0 n0 p l e R s m args below meth c Qf pc ls st uc us M := by
  obtain ⟨ix, hx, hd, rfl, -⟩ := q_dec2 3 (o := qIx qML (qOc T) 9999) (f := .invokespecial) hk (by show (match qIx qMN (qOc T) 9999 with | some x => some x | none => qIx qML (qOc T) 9999).map Instr.invokespecial = _; rw [q_mn0]) rfl
  have hq := qA1_of h
  clear h
  obtain ⟨a, r, rfl, h⟩ := hq
  obtain ⟨hcat, h⟩ := qIf_of h
  intro h1 h2 h3 h4 ad h5 h6 H locs lsA hl hP hS
  have hts := hF.2.2.2.2.2.2.2.1
  have hR := hF.2.2.2.2.2.2.2.2.2.1
  have hc4 : qCat r ≤ 8 := by simpa [Nat.ble_eq] using hcat
  exact W.objInit (g := F0 m pc lsA ((Value.ref a :: r).map (qV ad))) hF.1 hF.2.1 (own := qCn (qOc T)) hF.2.2.2.2.2.2.1 (hts _ (q_ml (qOc T, 9999, ix) (qIx_mem _ _ _ _ hx))) (hts _ (q_one _ (by decide +kernel))) (hts _ (q_one _ (List.mem_of_getElem? (i := 5) rfl))) rfl (hl.1.trans hF.2.2.1.symm) rfl hd (by omega) (by show 2 * 0 + _ + 12 ≤ _; rw [qCat_sum]; omega) (hX _ _ _ _ _ _ h h1 h2 h3 h4 ad h5 h6 H locs lsA hl hP hS)
theorem qs_getstatic {k : Nat} {len : Nat} (hF : qFr G T d p R s m args meth c) {X : qX} (hX : ∀ pc ls st uc us M, X pc ls st uc us M → qS G T ad0 n0 p l e R s m args below meth c Qf pc ls st uc us M) (hk : qChk T (pc, .getstatic k, len) = true) (h : X (pc + len) ls (.ref 1 :: st) uc us M) : qS G T ad0 n0 p l e R s m args below meth c Qf pc ls st uc us M := by
  obtain ⟨raw, hr, hd, hl3, -⟩ := q_dec hk
  have hl3 : len = 3 := hl3
  subst hl3
  have hoc : qOc T = 5 := by
    unfold qRaw at hr
    cases hb : Nat.beq (qOc T) 5 with
    | true => exact Nat.eq_of_beq_eq_true hb
    | false => rw [hb] at hr; cases hr
  have hraw : raw = .getstatic 29 := by
    unfold qRaw at hr
    rw [hoc] at hr
    exact (Option.some.inj hr).symm
  subst hraw
  intro h1 h2 h3 h4 ad h5 h6 H locs lsA hl hP hS
  have hh := hX _ _ _ _ _ _ h h1 h2 h3 h4 ad h5 h6 H locs lsA hl hP hS
  have hOn := hF.2.2.2.2.2.2.2.2.1
  have e1 : qV ad (.ref 1) = .ref G.2.2.2.2.1 := congrArg Value.ref hP.2.2.2.1
  rw [List.map_cons, e1] at hh
  have ho := hF.2.2.2.2.2.2.1
  rw [hoc] at ho
  exact va_getsN hF.1 hF.2.1 hOn.2.2.2.1 hS (own := RX5) ho (va_Nw.use rfl hOn.2.2.2.2.2.1) (fun _ h => h) hd hh
theorem q_rto {T : qT} (h : qEx T .areturn = true) : ∃ C, qRt T = some (.object C) := by
  have h2 : (match qRt T with | some (.object _) => true | _ => false) = true := h
  split at h2
  · exact ⟨_, by assumption⟩
  · cases h2
theorem qs_iret {len : Nat} (hF : qFr G T d p R s m args meth c) {X : qX} (hX : ∀ pc ls st uc us M, X pc ls st uc us M → qS G T ad0 n0 p l e R s m args below meth c Qf pc ls st uc us M) (hR : qRet G T Q ad0 n0 p l e R s m args below meth c Qf) (hk : qChk T (pc, .ireturn, len) = true) {v : Int32} (h0 : qRt T = some .int ∨ (qRt T = some .boolean ∧ (v = 0 ∨ v = 1))) (h : Q (some (.int v)) M) : qS G T ad0 n0 p l e R s m args below meth c Qf pc ls [.int v] uc us M := by
  obtain ⟨hd, rfl, hex⟩ := q_dec1 1 hk rfl rfl
  intro h1 h2 h3 h4 ad h5 h6 H locs lsA hl hP hS
  refine W.widen h1 h2 ?_
  exact hR pc _ (some (.int v)) M ad H locs lsA hd (Or.inl ⟨v, rfl, rfl, h0⟩) h h4 h3 h5 h6 hP hS
theorem qs_lret {len : Nat} (hF : qFr G T d p R s m args meth c) {X : qX} (hX : ∀ pc ls st uc us M, X pc ls st uc us M → qS G T ad0 n0 p l e R s m args below meth c Qf pc ls st uc us M) (hR : qRet G T Q ad0 n0 p l e R s m args below meth c Qf) (hk : qChk T (pc, .lreturn, len) = true) {v : Int64} (h : Q (some (.long v)) M) : qS G T ad0 n0 p l e R s m args below meth c Qf pc ls [.long v] uc us M := by
  obtain ⟨hd, rfl, hex⟩ := q_dec1 1 hk rfl rfl
  intro h1 h2 h3 h4 ad h5 h6 H locs lsA hl hP hS
  refine W.widen h1 h2 ?_
  exact hR pc _ (some (.long v)) M ad H locs lsA hd (Or.inr (Or.inl ⟨v, rfl, rfl, of_decide_eq_true hex⟩)) h h4 h3 h5 h6 hP hS
theorem qs_vret {len : Nat} (hF : qFr G T d p R s m args meth c) {X : qX} (hX : ∀ pc ls st uc us M, X pc ls st uc us M → qS G T ad0 n0 p l e R s m args below meth c Qf pc ls st uc us M) (hR : qRet G T Q ad0 n0 p l e R s m args below meth c Qf) (hk : qChk T (pc, .return_, len) = true) (h : Q none M) : qS G T ad0 n0 p l e R s m args below meth c Qf pc ls [] uc us M := by
  obtain ⟨hd, rfl, hex⟩ := q_dec1 1 hk rfl rfl
  intro h1 h2 h3 h4 ad h5 h6 H locs lsA hl hP hS
  refine W.widen h1 h2 ?_
  exact hR pc _ none M ad H locs lsA hd (Or.inr (Or.inr (Or.inr ⟨rfl, rfl, Option.isNone_iff_eq_none.mp hex⟩))) h h4 h3 h5 h6 hP hS
theorem qs_aretr {len : Nat} (hF : qFr G T d p R s m args meth c) {X : qX} (hX : ∀ pc ls st uc us M, X pc ls st uc us M → qS G T ad0 n0 p l e R s m args below meth c Qf pc ls st uc us M) (hR : qRet G T Q ad0 n0 p l e R s m args below meth c Qf) (hk : qChk T (pc, .areturn, len) = true) {a : Nat} (h : Q (some (.ref a)) M) : qS G T ad0 n0 p l e R s m args below meth c Qf pc ls [(.ref a)] uc us M := by
  obtain ⟨hd, rfl, hex⟩ := q_dec1 1 hk rfl rfl
  intro h1 h2 h3 h4 ad h5 h6 H locs lsA hl hP hS
  refine W.widen h1 h2 ?_
  exact hR pc _ (some (.ref a)) M ad H locs lsA hd (Or.inr (Or.inr (Or.inl ⟨_, rfl, rfl, Or.inr ⟨a, rfl⟩, q_rto hex⟩))) h h4 h3 h5 h6 hP hS
theorem qs_aretn {len : Nat} (hF : qFr G T d p R s m args meth c) {X : qX} (hX : ∀ pc ls st uc us M, X pc ls st uc us M → qS G T ad0 n0 p l e R s m args below meth c Qf pc ls st uc us M) (hR : qRet G T Q ad0 n0 p l e R s m args below meth c Qf) (hk : qChk T (pc, .areturn, len) = true) (h : Q (some .null) M) : qS G T ad0 n0 p l e R s m args below meth c Qf pc ls [.null] uc us M := by
  obtain ⟨hd, rfl, hex⟩ := q_dec1 1 hk rfl rfl
  intro h1 h2 h3 h4 ad h5 h6 H locs lsA hl hP hS
  refine W.widen h1 h2 ?_
  exact hR pc _ (some .null) M ad H locs lsA hd (Or.inr (Or.inr (Or.inl ⟨_, rfl, rfl, Or.inl rfl, q_rto hex⟩))) h h4 h3 h5 h6 hP hS
end QARR
end
section
section QNEW
variable {G : qCx} {T : qT} {ad0 : Nat → Nat} {n0 d : Nat} {p : Program} {l : Launch} {e : Env} {R : Room} {s : State} {m : MethodId} {args : Array Value} {below : List Frame} {meth : Method} {c : Code} {Qf : State → Prop}
variable {pc : Nat} {ls : List (Nat × Value)} {st : List Value} {uc us : Nat} {M : qM}
theorem q_rbrow {M' : qM} (h : qRb M) (hn : M'.1 = M.1 + 1) (hR : M'.2.2.2.2 = M.2.2.2.2 ∨ M'.2.2.2.2 = qRow M.2.2.2.2 (M.1 + 2) (fun _ => none)) : qRb M' := by
  intro k f x hx
  rw [hn]
  rcases hR with hR | hR <;> rw [hR] at hx
  · have := h k f x hx
    omega
  · by_cases hk : k = M.1 + 2
    · subst hk
      rw [qRow_at] at hx
      cases hx
    · rw [qRow_ne hk] at hx
      have := h k f x hx
      omega
theorem q_sts {ad : Nat → Nat} {q n : Nat} (hst : qRefs n st) : st.map (qV (fun k => if k = n then q else ad k)) = st.map (qV ad) := qRefs_map (n := n) (fun k hk => if_neg (by omega)) st hst
theorem q_lss {ad : Nat → Nat} {q n : Nat} (hls : qRefs n (ls.map Prod.snd)) : qLs (fun k => if k = n then q else ad k) ls = qLs ad ls := qRefs_ls (n := n) (fun k hk => if_neg (by omega)) ls hls
theorem qs_new {k : Nat} {len : Nat} (hF : qFr G T d p R s m args meth c) {X : qX} (hX : ∀ pc ls st uc us M, X pc ls st uc us M → qS G T ad0 n0 p l e R s m args below meth c Qf pc ls st uc us M) (hk : qChk T (pc, .new k, len) = true)
    (h : qIf (!(qPh T)) (qIs (M.1 + 2) k ((uc + 1 ≤ qMc T ∧ us + qNf k ≤ qMs T ∧ qRefs (M.1 + 2) st ∧ qRefs (M.1 + 2) (ls.map Prod.snd)) ∧ X (pc + len) ls (.ref (M.1 + 2) :: st) (uc + 1) (us + qNf k) (M.1 + 1, M.2.1, qRow M.2.2.1 (M.1 + 2) (fun _ => 0), M.2.2.2.1, qRow M.2.2.2.2 (M.1 + 2) (fun _ => none))))) : qS G T ad0 n0 p l e R s m args below meth c Qf pc ls st uc us M := by
  obtain ⟨x, hx, hd, rfl, hex⟩ := q_dec2 3 hk rfl rfl
  obtain ⟨hph, h⟩ := qIf_of h
  obtain ⟨hkk, ⟨b1, b2, b3, b4⟩, h⟩ := qIs_of h
  intro h1 h2 h3 h4 ad h5 h6 H locs lsA hl hP hS
  have hc : k < 13 := q_blt.mp hex
  obtain ⟨c1, c2, c3, c4, c5, c6, c7⟩ := q_cls hc
  have hts := hF.2.2.2.2.2.2.2.1
  have hR := hF.2.2.2.2.2.2.2.2.2.1
  have hs0 := hF.2.2.2.2.2.2.2.2.2.2
  have hk13 : k ∈ qC13 := by
    have : ∀ k, k < 13 → k ∈ qC13 := by decide +kernel
    exact this k hc
  refine va_new (D := G.1) (ci := k) (C := (qCls k).1) (T := (qCls k).2.1) (N := (qCls k).2.2) (own := qCn (qOc T)) (fs := (List.range (qNf k)).map (fun j => match Nat.beq (qTf k j) 2 with | true => Value.null | false => .int 0)) hF.1 hF.2.1 hts c2 (qTy k) c5 hF.2.2.2.2.2.2.1 (hts _ (q_cl (qOc T, k, x) (qIx_mem _ _ _ _ hx))) (hts _ (q_cn k hk13)) (hts _ (q_ci k hk13)) hF.2.2.2.2.2.2.2.2.1.1 hP.1 hP.2.1 hS (fun q hq => Nat.le_trans hs0 hq) c1 ?_ (by omega) (by rw [c3]; omega) hd fun q H1 hP1 hD1 hS1 => ?_
  · intro j hj
    have hj' : j < qNf k := by rw [← c3]; exact hj
    have htok := (c6 j hj).2
    have e1 : vp_V ((List.range (qNf k)).map (fun j => match Nat.beq (qTf k j) 2 with | true => Value.null | false => .int 0)) j = (match Nat.beq (qTf k j) 2 with | true => Value.null | false => .int 0) := by
      unfold vp_V
      rw [List.getD_eq_getElem?_getD, q_rng hj']
      rfl
    rw [e1]
    unfold qTok at htok
    split at htok
    · rename_i e1 e2; rw [e1, e2]; rfl
    · rename_i e1 e2; rw [e1, e2]; rfl
    · rename_i e1 e2; rw [e1, e2]; rfl
    · rename_i e1 e2; rw [e1, e2]; rfl
    · cases htok
  · rw [c3]
    have hh := hX _ _ _ _ _ _ h (by omega) (by omega) (fun hq => by rw [hq] at hph; cases hph) (by show n0 ≤ M.1 + 1; omega) (fun k => if k = M.1 + 2 then q else ad k) (fun j hj => by show (if j = M.1 + 2 then q else ad j) = _; rw [if_neg (by omega)]; exact h5 j hj) (fun hz => by omega) H1 locs lsA (by rw [q_lss b4]; exact hl) (qRep_new hP rfl rfl (fun _ _ => rfl) (fun j hj => qRow_ne hj) (fun _ _ => rfl) (fun j hj => qRow_ne hj) ?_ (q_rbrow hP.2.2.2.2.2.2.2 rfl (Or.inr rfl)) hP1 hD1) hS1
    · rw [List.map_cons, q_sts b3] at hh
      have e1 : qV (fun k => if k = M.1 + 2 then q else ad k) (.ref (M.1 + 2)) = .ref q := congrArg Value.ref (if_pos rfl)
      rw [e1] at hh
      exact hh
    · rw [qF_obj hkk hc]
      congr 2
      apply List.map_congr_left
      intro j _
      unfold qFv
      dsimp only
      rw [qRow_at, qRow_at, hkk]
      rfl
/-- a row of the table of row types -/
theorem q_tyeq {cB : ClassId} {ty : FieldType} {t0 : Nat} {cA : ClassId} (hK : va_K G.1 vwCl (qTys G ++ [(cB, ty)]) s) (h0 : (qTys G)[t0]? = some (cA, ty)) (hp : ∀ C, ty ≠ .object C) : cB = cA := by
  have h1 := (hK.2 t0 (cA, ty) (by rw [List.getElem?_append_left (by exact (List.getElem?_eq_some_iff.mp h0).1)]; exact h0)).2
  have h2 := (hK.2 (qTys G).length (cB, ty) (by simp)).2
  cases ty <;> first | exact absurd rfl (hp _) | exact Option.some.inj (h2.symm.trans h1)
theorem q_tyeqO {cB : ClassId} {C : String} {t0 : Nat} {cA : ClassId} (hK : va_K G.1 vwCl (qTys G ++ [(cB, .object C)]) s) (h0 : (qTys G)[t0]? = some (cA, .object C)) : cB = cA := by
  obtain ⟨_, _, _, _, _, h1⟩ := (hK.2 t0 (cA, .object C) (by rw [List.getElem?_append_left (by exact (List.getElem?_eq_some_iff.mp h0).1)]; exact h0)).2
  obtain ⟨_, _, _, _, _, h2⟩ := (hK.2 (qTys G).length (cB, .object C) (by simp)).2
  exact Option.some.inj (h2.symm.trans h1)
/-- a new row, behind the machine's own -/
theorem q_newarr {n : Int32} {r : List Value} {kd t0 : Nat} {ty : FieldType} {len q : Nat} {ev : va_E} {M' : qM} (hF : qFr G T d p R s m args meth c) {X : qX} (hX : ∀ pc ls st uc us M, X pc ls st uc us M → qS G T ad0 n0 p l e R s m args below meth c Qf pc ls st uc us M)
    (hph : (!(qPh T)) = true) (b1 : uc + 1 ≤ qMc T) (b2 : us + n.toNatClampNeg ≤ qMs T) (b3 : qRefs (M.1 + 2) r) (b4 : qRefs (M.1 + 2) (ls.map Prod.snd)) (h : X (pc + len) ls (.ref (M.1 + 2) :: r) (uc + 1) (us + n.toNatClampNeg) M')
    (h4 : n0 ≤ M.1) {ad : Nat → Nat} (h5 : ∀ k, k < n0 + 2 → ad k = ad0 k) {H H1 : Heap} {locs : List Loc} {lsA : Array Slot} (hl : lv_has lsA (qLo T) (qLs ad ls)) (hP : qRep G ad M H)
    (hM1 : M'.1 = M.1 + 1) (hM2 : M'.2.1 = qUp M.2.1 (M.1 + 2) n.toNatClampNeg) (hI : ∀ k, k ≠ M.1 + 2 → M'.2.2.1 k = M.2.2.1 k) (hL : ∀ k, k ≠ M.1 + 2 → M'.2.2.2.1 k = M.2.2.2.1 k) (hRr : M'.2.2.2.2 = M.2.2.2.2 ∨ M'.2.2.2.2 = qRow M.2.2.2.2 (M.1 + 2) (fun _ => none))
    (he : qF G (fun k => if k = M.1 + 2 then q else ad k) M' (M.1 + 2) = ev) (hP1 : va_P G.1 vwCl (qW ad M.1 (qF G ad M) ++ [(q, ev)]) H1) (hD1 : va_D (qAr G) (qW ad M.1 (qF G ad M) ++ [(q, ev)])) (hS1 : va_S (qAr G) s.heap H1 locs) :
    W p l e R s m args below meth c H1 locs (uc + 1) (us + n.toNatClampNeg) Qf (F0 m (pc + len) lsA (.ref q :: r.map (qV ad))) := by
  have hh := hX _ _ _ _ _ _ h b1 b2 (fun hq => by rw [hq] at hph; cases hph) (by rw [hM1]; omega) (fun k => if k = M.1 + 2 then q else ad k) (fun j hj => by show (if j = M.1 + 2 then q else ad j) = _; rw [if_neg (by omega)]; exact h5 j hj) (fun hz => by omega) H1 locs lsA (by rw [q_lss b4]; exact hl) (qRep_new hP hM1 (by rw [hM2]; exact qUp_ne (by omega)) (fun j hj => by rw [hM2]; exact qLen_ne hj) hI hL (fun j hj => by rcases hRr with z | z <;> rw [z]; exact qRow_ne hj) he (q_rbrow hP.2.2.2.2.2.2.2 hM1 hRr) hP1 hD1) hS1
  rw [List.map_cons, q_sts b3] at hh
  have e1 : qV (fun k => if k = M.1 + 2 then q else ad k) (.ref (M.1 + 2)) = .ref q := congrArg Value.ref (if_pos rfl)
  rw [e1] at hh
  exact hh
theorem qs_newarray {ty : ArrayType} {len : Nat} (hF : qFr G T d p R s m args meth c) {X : qX} (hX : ∀ pc ls st uc us M, X pc ls st uc us M → qS G T ad0 n0 p l e R s m args below meth c Qf pc ls st uc us M) (h : qIf (!(qPh T)) (qI1 st fun n r => qIs (M.1 + 2) (match ty with | .int => 14 | .byte => 13 | .long => 15 | .boolean => 16 | _ => 77)
      ((¬ n < 0 ∧ n.toNatClampNeg ≤ 100000 ∧ qLen (qUp M.2.1 (M.1 + 2) n.toNatClampNeg) (M.1 + 2) = n.toNatClampNeg ∧ uc + 1 ≤ qMc T ∧ us + n.toNatClampNeg ≤ qMs T ∧ qRefs (M.1 + 2) r ∧ qRefs (M.1 + 2) (ls.map Prod.snd)) ∧
        X (pc + len) ls (.ref (M.1 + 2) :: r) (uc + 1) (us + n.toNatClampNeg) (M.1 + 1, qUp M.2.1 (M.1 + 2) n.toNatClampNeg, qRow M.2.2.1 (M.1 + 2) (fun _ => 0), qRow M.2.2.2.1 (M.1 + 2) (fun _ => 0), M.2.2.2.2)))) (hk : qChk T (pc, .newarray ty, len) = true) : qS G T ad0 n0 p l e R s m args below meth c Qf pc ls st uc us M := by
  obtain ⟨hd, rfl, hex⟩ := q_dec1 2 hk rfl rfl
  obtain ⟨hph, hA⟩ := qIf_of h
  have hq := qI1_of hA
  clear hA
  obtain ⟨n, r, rfl, hB⟩ := hq
  obtain ⟨hkk, ⟨g1, g2, g3, b1, b2, b3, b4⟩, hX1⟩ := qIs_of hB
  intro h1 h2 h3 h4 ad h5 h6 H locs lsA hl hP hS
  have hts := hF.2.2.2.2.2.2.2.1
  have hR := hF.2.2.2.2.2.2.2.2.2.1
  have hs0 := hF.2.2.2.2.2.2.2.2.2.2
  have hK := hF.2.2.2.2.2.2.2.2.1.1
  cases ty with
  | int =>
    have hkk : qK (M.1 + 2) = 14 := hkk
    refine va_newa (D := G.1) (atype := .int) (ty := .int) (a0 := (n.toNatClampNeg, .inl (fun _ => 0))) hF.1 hF.2.1 (hts _ (q_one _ (by decide +kernel))) rfl hK hP.1 hP.2.1 hS (fun q hq => Nat.le_trans hs0 hq) (fun cA => rfl) g1 rfl (by show _ * 4 ≤ _; omega) (by omega) (by omega) hd fun q cB H1 hK1 hP1 hD1 hS1 => ?_
    have hcB := q_tyeq (t0 := 1) hK1 rfl (fun C h => by cases h)
    subst hcB
    refine q_newarr (kd := 14) (t0 := 1) (ty := .int) hF hX hph b1 b2 b3 b4 hX1 h4 h5 hl hP rfl rfl (fun j hj => qRow_ne hj) (fun j hj => qRow_ne hj) (Or.inl rfl) ?_ hP1 hD1 hS1
    rw [qF_int hkk (by decide)]
    dsimp only
    rw [qRow_at, g3]
  | byte =>
    have hkk : qK (M.1 + 2) = 13 := hkk
    refine va_newa (D := G.1) (atype := .byte) (ty := .byte) (a0 := (n.toNatClampNeg, .inl (fun _ => 0))) hF.1 hF.2.1 (hts _ (q_one _ (by decide +kernel))) rfl hK hP.1 hP.2.1 hS (fun q hq => Nat.le_trans hs0 hq) (fun cA => rfl) g1 rfl (by show _ * 1 ≤ _; omega) (by omega) (by omega) hd fun q cB H1 hK1 hP1 hD1 hS1 => ?_
    have hcB := q_tyeq (t0 := 0) hK1 rfl (fun C h => by cases h)
    subst hcB
    refine q_newarr (kd := 14) (t0 := 1) (ty := .int) hF hX hph b1 b2 b3 b4 hX1 h4 h5 hl hP rfl rfl (fun j hj => qRow_ne hj) (fun j hj => qRow_ne hj) (Or.inl rfl) ?_ hP1 hD1 hS1
    rw [qF_int hkk (by decide)]
    dsimp only
    rw [qRow_at, g3]
  | boolean =>
    have hkk : qK (M.1 + 2) = 16 := hkk
    refine va_newa (D := G.1) (atype := .boolean) (ty := .boolean) (a0 := (n.toNatClampNeg, .inl (fun _ => 0))) hF.1 hF.2.1 (hts _ (q_one _ (by decide +kernel))) rfl hK hP.1 hP.2.1 hS (fun q hq => Nat.le_trans hs0 hq) (fun cA => rfl) g1 rfl (by show _ * 1 ≤ _; omega) (by omega) (by omega) hd fun q cB H1 hK1 hP1 hD1 hS1 => ?_
    have hcB := q_tyeq (t0 := 3) hK1 rfl (fun C h => by cases h)
    subst hcB
    refine q_newarr (kd := 14) (t0 := 1) (ty := .int) hF hX hph b1 b2 b3 b4 hX1 h4 h5 hl hP rfl rfl (fun j hj => qRow_ne hj) (fun j hj => qRow_ne hj) (Or.inl rfl) ?_ hP1 hD1 hS1
    rw [qF_int hkk (by decide)]
    dsimp only
    rw [qRow_at, g3]
  | long =>
    have hkk : qK (M.1 + 2) = 15 := hkk
    refine va_newa (D := G.1) (atype := .long) (ty := .long) (a0 := (n.toNatClampNeg, .inr (.inl (fun _ => 0)))) hF.1 hF.2.1 (hts _ (q_one _ (by decide +kernel))) rfl hK hP.1 hP.2.1 hS (fun q hq => Nat.le_trans hs0 hq) (fun cA => rfl) g1 rfl (by show _ * 8 ≤ _; omega) (by omega) (by omega) hd fun q cB H1 hK1 hP1 hD1 hS1 => ?_
    have hcB := q_tyeq (t0 := 2) hK1 rfl (fun C h => by cases h)
    subst hcB
    refine q_newarr (kd := 14) (t0 := 1) (ty := .int) hF hX hph b1 b2 b3 b4 hX1 h4 h5 hl hP rfl rfl (fun j hj => qRow_ne hj) (fun j hj => qRow_ne hj) (Or.inl rfl) ?_ hP1 hD1 hS1
    rw [qF_long hkk]
    dsimp only
    rw [qRow_at, g3]
  | char =>
    have h2 : 2 ≤ M.1 + 2 := by omega
    have hz := q_kinds (a := M.1 + 2) (by rw [hkk]; decide) h2
    rw [hkk] at hz
    exact absurd hz (by decide)
  | float =>
    have h2 : 2 ≤ M.1 + 2 := by omega
    have hz := q_kinds (a := M.1 + 2) (by rw [hkk]; decide) h2
    rw [hkk] at hz
    exact absurd hz (by decide)
  | double =>
    have h2 : 2 ≤ M.1 + 2 := by omega
    have hz := q_kinds (a := M.1 + 2) (by rw [hkk]; decide) h2
    rw [hkk] at hz
    exact absurd hz (by decide)
  | short =>
    have h2 : 2 ≤ M.1 + 2 := by omega
    have hz := q_kinds (a := M.1 + 2) (by rw [hkk]; decide) h2
    rw [hkk] at hz
    exact absurd hz (by decide)
theorem qs_anewarray {k : Nat} {len : Nat} (hF : qFr G T d p R s m args meth c) {X : qX} (hX : ∀ pc ls st uc us M, X pc ls st uc us M → qS G T ad0 n0 p l e R s m args below meth c Qf pc ls st uc us M) (hk : qChk T (pc, .anewarray k, len) = true)
    (h : qIf (!(qPh T)) (qI1 st fun n r => qIs (M.1 + 2) 17
      ((¬ n < 0 ∧ n.toNatClampNeg ≤ 100000 ∧ qLen (qUp M.2.1 (M.1 + 2) n.toNatClampNeg) (M.1 + 2) = n.toNatClampNeg ∧ uc + 1 ≤ qMc T ∧ us + n.toNatClampNeg ≤ qMs T ∧ qRefs (M.1 + 2) r ∧ qRefs (M.1 + 2) (ls.map Prod.snd)) ∧
        X (pc + len) ls (.ref (M.1 + 2) :: r) (uc + 1) (us + n.toNatClampNeg) (M.1 + 1, qUp M.2.1 (M.1 + 2) n.toNatClampNeg, M.2.2.1, M.2.2.2.1, qRow M.2.2.2.2 (M.1 + 2) (fun _ => none))))) : qS G T ad0 n0 p l e R s m args below meth c Qf pc ls st uc us M := by
  have hk9 : k = 9 := by
    obtain ⟨raw, hr, -⟩ := q_dec hk
    have hr2 : (bif Nat.beq k 9 then (qIx qCL (qOc T) k).map Instr.anewarray else none) = some raw := hr
    cases hb : Nat.beq k 9 with
    | true => exact Nat.eq_of_beq_eq_true hb
    | false => rw [hb] at hr2; cases hr2
  subst hk9
  obtain ⟨x, hx, hd, rfl, hex⟩ := q_dec2 3 (o := qIx qCL (qOc T) 9) (f := .anewarray) hk rfl rfl
  obtain ⟨hph, hA⟩ := qIf_of h
  have hq := qI1_of hA
  clear hA
  obtain ⟨n, r, rfl, hB⟩ := hq
  obtain ⟨hkk, ⟨g1, g2, g3, b1, b2, b3, b4⟩, hX1⟩ := qIs_of hB
  intro h1 h2 h3 h4 ad h5 h6 H locs lsA hl hP hS
  have hts := hF.2.2.2.2.2.2.2.1
  have hR := hF.2.2.2.2.2.2.2.2.2.1
  have hs0 := hF.2.2.2.2.2.2.2.2.2.2
  have hOn := hF.2.2.2.2.2.2.2.2.1
  refine va_newq (D := G.1) (C := RX9) (own := qCn (qOc T)) hF.1 hF.2.1 hF.2.2.2.2.2.2.1 (hts _ (q_cl (qOc T, 9, x) (qIx_mem _ _ _ _ hx))) hOn.2.2.2.2.2.2 hOn.1 hP.1 hP.2.1 hS (fun q hq => Nat.le_trans hs0 hq) g1 rfl (by omega) (by omega) (by omega) hd fun q cB H1 hK1 hP1 hD1 hS1 => ?_
  have hcB := q_tyeqO (t0 := 4) hK1 rfl
  subst hcB
  refine q_newarr (kd := 14) (t0 := 1) (ty := .int) hF hX hph b1 b2 b3 b4 hX1 h4 h5 hl hP rfl rfl (fun _ _ => rfl) (fun _ _ => rfl) (Or.inr rfl) ?_ hP1 hD1 hS1
  rw [qF_ref hkk]
  dsimp only
  rw [qRow_at, g3]
  rfl
/-! switches -/
theorem qTabs_get {x : Int32} {Y : Nat → Prop} : ∀ (ts : List Int) (lo : Int), qTabs x Y lo ts → ∀ (t : Int) (j : Nat), ts[j]? = some t → x.toInt = lo + j → Y t.toNat := by
  intro ts
  induction ts with
  | nil => intro lo _ t j h; simp at h
  | cons u r ih =>
    intro lo h t j hj hx
    obtain ⟨ha, hb⟩ := h
    cases j with
    | zero =>
      simp at hj
      subst hj
      exact ha (by simpa using hx)
    | succ j =>
      simp at hj
      exact ih (lo + 1) hb t j hj (by push_cast at hx; omega)
theorem qs_table {dd lo hi : Int} {ts : Array Int} {len : Nat} (hF : qFr G T d p R s m args meth c) {X : qX} (hX : ∀ pc ls st uc us M, X pc ls st uc us M → qS G T ad0 n0 p l e R s m args below meth c Qf pc ls st uc us M) (hk : qChk T (pc, .tableswitch dd lo hi ts, len) = true)
    (h : qI1 st fun x r => (x.toInt < lo ∨ hi < x.toInt → X dd.toNat ls r uc us M) ∧ qTabs x (fun t => X t ls r uc us M) lo ts.toList) : qS G T ad0 n0 p l e R s m args below meth c Qf pc ls st uc us M := by
  obtain ⟨raw, hr, hd, -, hex⟩ := q_dec hk
  have hraw : raw = .tableswitch (dd - pc) lo hi (ts.map (fun t => t - pc)) := (Option.some.inj hr).symm
  subst hraw
  have hq := qI1_of h
  clear h
  obtain ⟨x, r, rfl, ha, hb⟩ := hq
  intro h1 h2 h3 h4 ad h5 h6 H locs lsA hl hP hS
  have hex : (decide (0 ≤ dd) && (ts.toList.all (fun t => decide (0 ≤ t)) && decide (hi = lo + ts.toList.length - 1))) = true := hex
  simp only [Bool.and_eq_true] at hex
  have hhi := of_decide_eq_true hex.2.2
  by_cases hout : x.toInt < lo ∨ hi < x.toInt
  · exact lv_tableOut hF.1 hF.2.1 hd hout (q_tgt hex.1) (hX _ _ _ _ _ _ (ha hout) h1 h2 h3 h4 ad h5 h6 H locs lsA hl hP hS)
  · have hj : (x.toInt - lo).toNat < ts.toList.length := by omega
    have hget : ts.toList[(x.toInt - lo).toNat]? = some (ts.toList[(x.toInt - lo).toNat]) := List.getElem?_eq_getElem hj
    have ht := qTabs_get _ _ hb _ _ hget (by omega)
    have hnn := List.all_eq_true.mp hex.2.1 _ (List.getElem_mem hj)
    refine lv_tableIn (off := ts.toList[(x.toInt - lo).toNat] - pc) hF.1 hF.2.1 hd (fun q => hout (Or.inl q)) (fun q => hout (Or.inr q)) ?_ (q_tgt hnn) (hX _ _ _ _ _ _ ht h1 h2 h3 h4 ad h5 h6 H locs lsA hl hP hS)
    rw [← Array.getElem?_toList, Array.toList_map, List.getElem?_map, hget]
    rfl
theorem qLks_get {x : Int32} {Y : Nat → Prop} {dd : Int} {pc : Nat} : ∀ (ps : List (Int × Int)), qLks x Y dd ps → 0 ≤ dd → (∀ q ∈ ps, 0 ≤ q.2) → ∃ t : Int, 0 ≤ t ∧ Y t.toNat ∧ Op.lookupswitch.offset (ps.map (fun q => (q.1, q.2 - (pc : Int)))) (dd - pc) x.toInt = t - pc := by
  intro ps
  induction ps with
  | nil => intro h h0 _; exact ⟨dd, h0, h, rfl⟩
  | cons q r ih =>
    intro h h0 hq
    obtain ⟨k, t⟩ := q
    obtain ⟨ha, hb⟩ := h
    rw [List.map_cons, Op.lookupswitch.offset_cons]
    by_cases hx : x.toInt = k
    · refine ⟨t, hq _ List.mem_cons_self, ha hx, ?_⟩
      first | rw [if_pos hx] | rw [if_pos hx.symm]
    · obtain ⟨t', g1, g2, g3⟩ := ih (hb hx) h0 (fun z hz => hq z (List.mem_cons_of_mem _ hz))
      refine ⟨t', g1, g2, ?_⟩
      first | rw [if_neg hx] | rw [if_neg (fun z => hx z.symm)]
      exact g3
theorem qs_lookup {dd : Int} {ps : Array (Int × Int)} {len : Nat} (hF : qFr G T d p R s m args meth c) {X : qX} (hX : ∀ pc ls st uc us M, X pc ls st uc us M → qS G T ad0 n0 p l e R s m args below meth c Qf pc ls st uc us M) (hk : qChk T (pc, .lookupswitch dd ps, len) = true)
    (h : qI1 st fun x r => qLks x (fun t => X t ls r uc us M) dd ps.toList) : qS G T ad0 n0 p l e R s m args below meth c Qf pc ls st uc us M := by
  obtain ⟨raw, hr, hd, -, hex⟩ := q_dec hk
  have hraw : raw = .lookupswitch (dd - pc) (ps.map (fun q => (q.1, q.2 - pc))) := (Option.some.inj hr).symm
  subst hraw
  have hq := qI1_of h
  clear h
  obtain ⟨x, r, rfl, h⟩ := hq
  intro h1 h2 h3 h4 ad h5 h6 H locs lsA hl hP hS
  have hex : (decide (0 ≤ dd) && (ps.toList.all (fun q => decide (0 ≤ q.2)) && (ps.toList.zip (ps.toList.drop 1)).all (fun (a, next) => a.1 < next.1))) = true := hex
  simp only [Bool.and_eq_true] at hex
  obtain ⟨t, g1, g2, g3⟩ := qLks_get (pc := pc) _ h (of_decide_eq_true hex.1) (fun q hq => of_decide_eq_true (List.all_eq_true.mp hex.2.1 q hq))
  refine lv_lookup (off := t - pc) (tgt := t.toNat) hF.1 hF.2.1 hd ?_ (by rw [Array.toList_map]; exact g3) (q_tgt (decide_eq_true g1)) (hX _ _ _ _ _ _ g2 h1 h2 h3 h4 ad h5 h6 H locs lsA hl hP hS)
  rw [Array.toList_map, ← List.map_drop, List.zip_map, List.all_map]
  exact hex.2.2
end QNEW
end
section
section QCALL
variable {G : qCx} {T : qT} {ad0 : Nat → Nat} {n0 d : Nat} {p : Program} {l : Launch} {e : Env} {R : Room} {s : State} {m : MethodId} {args : Array Value} {below : List Frame} {meth : Method} {c : Code} {Qf : State → Prop}
variable {pc : Nat} {ls : List (Nat × Value)} {st : List Value} {uc us : Nat} {M : qM} {Q : qP}
theorem qTake_of : ∀ (n : Nat) (acc st : List Value) (k : List Value → List Value → Prop), qTake n acc st k → ∃ as st', st = as ++ st' ∧ as.length = n ∧ k (as.reverse ++ acc) st' := by
  intro n
  induction n with
  | zero => intro acc st k h; exact ⟨[], st, rfl, rfl, h⟩
  | succ n ih =>
    intro acc st k h
    cases st with
    | nil => exact h.elim
    | cons v r =>
      obtain ⟨as, st', h1, h2, h3⟩ := ih (v :: acc) r k h
      exact ⟨v :: as, st', by rw [h1]; rfl, by simp [h2], by simpa using h3⟩
/-- behind a call -/
theorem q_run {T' : qT} {Q' : qP} {ad : Nat → Nat} {n1 : Nat} {H : Heap} {locs : List Loc} {lsA : Array Slot} {st0 rest : List Value} {a : Array Value} (hr : va_Run p l e R s m args below meth c H locs uc us (qMc T') (qMs T') (F0 m pc lsA st0) rest (qQc G T' Q' ad n1 a) (qAr G)) (hS : va_S (qAr G) s.heap H locs)
    (kk : ∀ (v : Option Value) (M' : qM) (ad' : Nat → Nat) (H1 : Heap) (locs1 : List Loc), Q' v M' → (qPh T' = true → qStat M') → n1 ≤ M'.1 → (∀ k, k < n1 + 2 → ad' k = ad k) → (qMc T' = 0 → ad' = ad) → qRep G ad' M' H1 → va_S (qAr G) s.heap H1 locs1 → W p l e R s m args below meth c H1 locs1 (uc + qMc T') (us + qMs T') Qf (F0 m (pc + 3) lsA ((v.map (qV ad')).toList ++ rest))) :
    W p l e R s m args below meth c H locs uc us Qf (F0 m pc lsA st0) := by
  intro U hU X
  obtain ⟨v, st₀, t, T1, L, h0, X1, hL, e1, e2, ⟨⟨v', M', ad', hv, hq, g0, g1, g2, g3, g4⟩, hz, hk⟩, hst⟩ := hr U hU X
  have hv : v = v'.map (qV ad') := by cases hv; rfl
  subst hv
  rw [h0] at hz hk
  have hS1 : va_S (qAr G) s.heap T1.heap (locs ++ L) := by
    refine ⟨Nat.le_trans hS.1 (by rw [e1]; exact hz), fun q h1 h2 => ?_, fun q hq => ?_⟩
    · rw [e1, hk q (Nat.lt_of_lt_of_le h1 hS.1) h2]
      exact hS.2.1 q h1 h2
    · rcases List.mem_append.mp hq with h | h
      · exact hS.2.2 q h
      · exact hL q h
  obtain ⟨t2, a1, b1⟩ := kk v' M' ad' T1.heap (locs ++ L) hq g0 g1 g2 g3 (by rw [e1]; exact g4) hS1 T1 rfl X1
  exact ⟨t2, hst t2 a1, b1⟩
/-- a method's start, from where it is called -/
theorem q_pre {T' : qT} {ad : Nat → Nat} {as : List Value} {H : Heap} {locs : List Loc} (hF : qFr G T d p R s m args meth c) (hP : qRep G ad M H) (hS : va_S (qAr G) s.heap H locs) (hst : qPh T' = true → qStat M) : FrameBlind (qPc G T' ad as M) ∧ ∀ U : State, U.heap = H → s.WarmedH U.vm → qPc G T' ad as M (as.map (qV ad)).toArray U := by
  refine ⟨fun a U g mk q => ?_, fun U hU hW => ?_⟩
  · obtain ⟨q1, q2, q3, q4, q5⟩ := q
    exact ⟨q1, q2, qOn.same (s := U) (U := U.calling g mk a) rfl rfl q3, q4, q5⟩
  · refine ⟨rfl, by rw [hU]; exact hP, qOn.to hW (fun a h1 h2 => by rw [hU]; exact hS.2.1 a h1 h2) hF.2.2.2.2.2.2.2.2.1, hst, ?_⟩
    rw [hU]
    exact Nat.le_trans hF.2.2.2.2.2.2.2.2.2.2 hS.1
theorem qMake_of {T' : qT} {n : Nat} {k : Prop} (h : qMake T' n ls st k) : (qMc T' = 0 ∨ (qRefs n st ∧ qRefs n (ls.map Prod.snd))) ∧ k := by
  unfold qMake at h
  cases hb : Nat.beq (qMc T') 0 with
  | true =>
    rw [hb] at h
    exact ⟨Or.inl (Nat.eq_of_beq_eq_true hb), h⟩
  | false =>
    rw [hb] at h
    exact ⟨Or.inr h.1, h.2⟩
theorem qPhCall_of {T' : qT} {k : Prop} (hs : qPh T = true → qStat M) (h : qPhCall T T' M k) : (qPh T' = true → qStat M) ∧ k := by
  unfold qPhCall at h
  cases hb : (!(qPh T) && qPh T') with
  | true =>
    rw [hb] at h
    exact ⟨fun _ => h.1, h.2⟩
  | false =>
    rw [hb] at h
    refine ⟨fun h' => ?_, h⟩
    cases ht : qPh T with
    | true => exact hs ht
    | false => rw [ht, h'] at hb; cases hb
theorem qPhBack_of {T' : qT} {k : Prop} (h : qPhBack T T' M k) : (qPh T = true → qPh T' = false → qStat M) ∧ k := by
  unfold qPhBack at h
  cases hb : (qPh T && !(qPh T')) with
  | true =>
    rw [hb] at h
    exact ⟨fun _ _ => h.1, h.2⟩
  | false =>
    rw [hb] at h
    refine ⟨fun h1 h2 => ?_, h⟩
    rw [h1, h2] at hb
    cases hb
theorem q_lny {j : Nat} (h : j < 9990) : qLnY j = qY (qTab j) := by
  have key : ∀ n, 9990 ≤ n → Nat.beq j n = false := by
    intro n hn
    cases hb : Nat.beq j n with
    | true =>
      have := Nat.eq_of_beq_eq_true hb
      omega
    | false => rfl
  unfold qLnY
  rw [key 9999 (by omega), key 9998 (by omega), key 9991 (by omega), key 9992 (by omega), key 9993 (by omega)]
  rfl
theorem q_viF : ∀ j ∈ qViL, j < 9990 ∧ j ∈ qCoL ∧ qOc (qTab j) < 13 := by decide +kernel
theorem q_stF : ∀ j ∈ qStL, j < 9990 ∧ j ∈ qCoL := by decide +kernel
theorem q_spF : ∀ j ∈ qSpL, j < 9990 ∧ j ∈ qCoL ∧ (qY (qTab j)).name = "<init>" ∧ qRt (qTab j) = none := by decide +kernel
/-- what a method's own check gives of its name -/
theorem q_okf {T' : qT} (h : qOKm T' = true) : (qY T').cls = qCn (qOc T') ∧ plainName (qY T').cls = true ∧ (parseMethodDescriptor (qY T').desc).map (fun d => d.parameters.length) = some (qNa T') ∧ (qY T').cls ≠ "java/lang/invoke/MethodHandle" ∧ (qY T').cls ≠ "java/lang/invoke/VarHandle" ∧ qLo T' ≤ 21 := by
  unfold qOKm at h
  simp only [Bool.and_eq_true, decide_eq_true_eq, Nat.ble_eq] at h
  exact ⟨h.2.1, h.2.2.1, h.2.2.2.1, h.2.2.2.2.1, h.2.2.2.2.2.1, h.2.2.2.2.2.2⟩
/-- a call: what is common to all kinds -/
theorem qs_call {cs : qC} {j : Nat} {as rest st0 : List Value} {ad : Nat → Nat} {H : Heap} {locs : List Loc} {lsA : Array Slot} {X : qX} (hX : ∀ pc ls st uc us M, X pc ls st uc us M → qS G T ad0 n0 p l e R s m args below meth c Qf pc ls st uc us M) (hcs : qHc G l d cs)
    (h : qCall T cs j as ls rest M uc us (fun st2 uc2 us2 M2 => X (pc + 3) ls st2 uc2 us2 M2))
    (h3 : qPh T = true → qStat M) (h4 : n0 ≤ M.1) (h5 : ∀ k, k < n0 + 2 → ad k = ad0 k) (h6 : qMc T = 0 → ad = ad0) (hl : lv_has lsA (qLo T) (qLs ad ls)) (hS : va_S (qAr G) s.heap H locs)
    (hrun : ∀ Q2 : qP, Met l (qY (qTab j)) (qWs (qTab j)) (qRm (qTab j) d) (qPc G (qTab j) ad as M) (qQc G (qTab j) Q2 ad M.1) (qMc (qTab j)) (qMs (qTab j)) (qAr G) → qOKm (qTab j) = true → (qPh (qTab j) = true → qStat M) → qCat rest ≤ 8 → uc + qMc (qTab j) ≤ qMc T ∧ us + qMs (qTab j) ≤ qMs T →
      va_Run p l e R s m args below meth c H locs uc us (qMc (qTab j)) (qMs (qTab j)) (F0 m pc lsA st0) (rest.map (qV ad)) (qQc G (qTab j) Q2 ad M.1 (as.map (qV ad)).toArray) (qAr G)) :
    W p l e R s m args below meth c H locs uc us Qf (F0 m pc lsA st0) := by
  unfold qCall at h
  obtain ⟨hcat, hA⟩ := qIf_of h
  obtain ⟨hmk, hB⟩ := qMake_of hA
  obtain ⟨hph, hroom, hC⟩ := qPhCall_of h3 hB
  obtain ⟨hj, hM⟩ := hcs _ _ _ _ ad hC
  refine q_run (hrun _ hM (qTab_ok hj) hph (Nat.ble_eq.mp hcat) hroom) hS fun v M2 ad2 H1 locs1 hq g0 g1 g2 g3 hP1 hS1 => ?_
  obtain ⟨hst, hD⟩ := qPhBack_of hq
  have hsm : rest.map (qV ad2) = rest.map (qV ad) ∧ qLs ad2 ls = qLs ad ls := by
    rcases hmk with z | ⟨z1, z2⟩
    · rw [g3 z]; exact ⟨rfl, rfl⟩
    · exact ⟨qRefs_map (fun k hk => g2 k hk) rest z1, qRefs_ls (fun k hk => g2 k hk) ls z2⟩
  have hh := hX _ _ _ _ _ _ hD hroom.1 hroom.2 (fun hp => by
    cases hp2 : qPh (qTab j) with
    | true => exact g0 hp2
    | false => exact hst hp hp2) (Nat.le_trans h4 g1) ad2 (fun k hk => (g2 k (by omega)).trans (h5 k hk)) (fun hz => by rw [g3 (by omega), h6 hz]) H1 locs1 lsA (by rw [hsm.2]; exact hl) hP1 hS1
  rw [List.map_append, hsm.1] at hh
  have e1 : (v.toList).map (qV ad2) = (v.map (qV ad2)).toList := by cases v <;> rfl
  rw [e1] at hh
  exact hh
theorem qs_virtual {cs : qC} {j : Nat} {len : Nat} (hF : qFr G T d p R s m args meth c) {X : qX} (hX : ∀ pc ls st uc us M, X pc ls st uc us M → qS G T ad0 n0 p l e R s m args below meth c Qf pc ls st uc us M) (hcs : qHc G l d cs) (hk : qChk T (pc, .invokevirtual j, len) = true)
    (h : qTake (qNa (qTab j)) [] st fun as st2 => qA1 st2 fun b rest => qIs b (qOc (qTab j)) (qIn (qPh T) b M (qCall T cs j (.ref b :: as) ls rest M uc us fun st3 uc2 us2 M2 => X (pc + len) ls st3 uc2 us2 M2))) : qS G T ad0 n0 p l e R s m args below meth c Qf pc ls st uc us M := by
  obtain ⟨raw, hr, hd, hl3, -⟩ := q_dec hk
  have hl3 : len = 3 := hl3
  subst hl3
  have hr2 : (bif qViL.elem j then (qIx qML (qOc T) j).map Instr.invokevirtual else none) = some raw := hr
  cases hv : qViL.elem j with
  | false => rw [hv] at hr2; cases hr2
  | true =>
    rw [hv] at hr2
    have hvi : j ∈ qViL := List.elem_iff.mp hv
    cases hx : qIx qML (qOc T) j with
    | none => rw [hx] at hr2; cases hr2
    | some x =>
      rw [hx] at hr2
      have hraw : raw = .invokevirtual x := (Option.some.inj hr2).symm
      subst hraw
      obtain ⟨lA, st2, hst, hln, hA⟩ := qTake_of _ _ _ _ h
      obtain ⟨b, rest, hst2, hB⟩ := qA1_of hA
      subst hst2
      subst hst
      obtain ⟨hkb, hC⟩ := qIs_of hB
      rw [List.append_nil] at hC
      intro h1 h2 h3 h4 ad h5 h6 H locs lsA hl hP hS
      obtain ⟨hlt, hD⟩ := qIn_of h3 hC
      obtain ⟨v1, v2, v3⟩ := q_viF j hvi
      refine qs_call hX hcs hD h3 h4 h5 h6 hl hS fun Q2 hM hok hph hcat hroom => ?_
      obtain ⟨o1, o2, o3, o4, o5, o6⟩ := q_okf hok
      have hts := hF.2.2.2.2.2.2.2.1
      have hR := hF.2.2.2.2.2.2.2.2.2.1
      have hOn := hF.2.2.2.2.2.2.2.2.1
      obtain ⟨c1, c2, c3, c4, c5, c6, c7⟩ := q_cls v3
      have he := qW_get (ad := ad) (F := qF G ad M) (qK_lo hkb (by omega)) hlt
      rw [qF_obj hkb v3] at he
      have hml := q_ml (qOc T, j, x) (qIx_mem _ _ _ _ hx)
      dsimp only at hml
      rw [q_lny v1] at hml
      have hgood : GoodIn qTbl (wsV (qCn (qOc T)) x (qY (qTab j)).cls (qY (qTab j)) (qWs (qTab j))) := by
        refine q_good fun w hw => ?_
        unfold wsV qWs at hw
        simp only [List.cons_append, List.nil_append, List.mem_cons] at hw
        rcases hw with rfl | rfl | rfl | rfl | rfl | hw
        · exact hml
        · exact q_vi j hvi
        · exact q_vs j hvi
        · exact q_mi j v2
        · exact q_co j v2
        · exact hw
      have hrec := va_recv hOn.1 hP.1 c1 he
      rw [c7, ← o1] at hrec
      have hpre := q_pre (T' := qTab j) (ad := ad) (as := .ref b :: lA.reverse) hF hP hS hph
      exact va_runV (As := (lA.reverse).map (qV ad)) (rest := rest.map (qV ad)) (b := ad b) (g := F0 m pc lsA ((lA ++ .ref b :: rest).map (qV ad))) ⟨hF.1, hF.2.1, hF.2.2.1, hF.2.2.2.2.2.2.1, hts⟩ hM (cwV (qNa (qTab j)) hts hgood rfl rfl rfl ⟨rfl, o4, o5, o3⟩ ⟨by show d + 1 ≤ _; omega, by show 8 + (qLo (qTab j) + 11) + 40 * d ≤ _; omega⟩) ⟨hpre.1, hrec, hpre.2⟩ rfl (by simp [hln]) hl.1 (by simp [qV]) (lv_room (by rw [qCat_sum]; exact hcat)) hd ⟨by omega, by omega⟩
theorem qs_static {cs : qC} {j : Nat} {len : Nat} (hj9 : Nat.ble 9990 j = false) (hF : qFr G T d p R s m args meth c) {X : qX} (hX : ∀ pc ls st uc us M, X pc ls st uc us M → qS G T ad0 n0 p l e R s m args below meth c Qf pc ls st uc us M) (hcs : qHc G l d cs) (hk : qChk T (pc, .invokestatic j, len) = true)
    (h : qTake (qNa (qTab j)) [] st fun as rest => qCall T cs j as ls rest M uc us fun st3 uc2 us2 M2 => X (pc + len) ls st3 uc2 us2 M2) : qS G T ad0 n0 p l e R s m args below meth c Qf pc ls st uc us M := by
  obtain ⟨raw, hr, hd, hl3, -⟩ := q_dec hk
  have hl3 : len = 3 := hl3
  subst hl3
  have hr2 : (bif (Nat.ble 9990 j || qStL.elem j) then (qIx qML (qOc T) j).map Instr.invokestatic else none) = some raw := hr
  rw [hj9, Bool.false_or] at hr2
  cases hv : qStL.elem j with
  | false => rw [hv] at hr2; cases hr2
  | true =>
    rw [hv] at hr2
    have hvi : j ∈ qStL := List.elem_iff.mp hv
    cases hx : qIx qML (qOc T) j with
    | none => rw [hx] at hr2; cases hr2
    | some x =>
      rw [hx] at hr2
      have hraw : raw = .invokestatic x := (Option.some.inj hr2).symm
      subst hraw
      obtain ⟨lA, rest, hst, hln, hA⟩ := qTake_of _ _ _ _ h
      subst hst
      rw [List.append_nil] at hA
      intro h1 h2 h3 h4 ad h5 h6 H locs lsA hl hP hS
      obtain ⟨v1, v2⟩ := q_stF j hvi
      refine qs_call hX hcs hA h3 h4 h5 h6 hl hS fun Q2 hM hok hph hcat hroom => ?_
      obtain ⟨o1, o2, o3, o4, o5, o6⟩ := q_okf hok
      have hts := hF.2.2.2.2.2.2.2.1
      have hR := hF.2.2.2.2.2.2.2.2.2.1
      have hml := q_ml (qOc T, j, x) (qIx_mem _ _ _ _ hx)
      dsimp only at hml
      rw [q_lny v1] at hml
      have hgood : GoodIn qTbl (va_wsS (qCn (qOc T)) x (qY (qTab j)) (qWs (qTab j))) := by
        refine q_good fun w hw => ?_
        unfold va_wsS qWs at hw
        simp only [List.cons_append, List.nil_append, List.mem_cons] at hw
        rcases hw with rfl | rfl | rfl | rfl | hw
        · exact hml
        · exact q_st j hvi
        · exact q_mi j v2
        · exact q_co j v2
        · exact hw
      have hpre := q_pre (T' := qTab j) (ad := ad) (as := lA.reverse) hF hP hS hph
      exact va_runS (As := (lA.reverse).map (qV ad)) (rest := rest.map (qV ad)) (g := F0 m pc lsA ((lA ++ rest).map (qV ad))) ⟨hF.1, hF.2.1, hF.2.2.1, hF.2.2.2.2.2.2.1, hts⟩ hM (va_cwS (qNa (qTab j)) hts hgood rfl rfl rfl ⟨o4, o5, o3⟩ ⟨by show d + 1 ≤ _; omega, by show 8 + (qLo (qTab j) + 11) + 40 * d ≤ _; omega⟩) hpre rfl (by simp [hln]) hl.1 (by simp) (lv_room (by rw [qCat_sum]; exact hcat)) hd ⟨by omega, by omega⟩
theorem qs_special {cs : qC} {j : Nat} {len : Nat} (hj9 : Nat.beq j 9999 = false) (hF : qFr G T d p R s m args meth c) {X : qX} (hX : ∀ pc ls st uc us M, X pc ls st uc us M → qS G T ad0 n0 p l e R s m args below meth c Qf pc ls st uc us M) (hcs : qHc G l d cs) (hk : qChk T (pc, .invokespecial j, len) = true)
    (h : qTake (qNa (qTab j)) [] st fun as st2 => qA1 st2 fun b rest => qCall T cs j (.ref b :: as) ls rest M uc us fun st3 uc2 us2 M2 => X (pc + len) ls st3 uc2 us2 M2) : qS G T ad0 n0 p l e R s m args below meth c Qf pc ls st uc us M := by
  obtain ⟨raw, hr, hd, hl3, -⟩ := q_dec hk
  have hl3 : len = 3 := hl3
  subst hl3
  have hr2 : (bif (Nat.beq j 9999 || qSpL.elem j) then ((match qIx qMN (qOc T) j with | some x => some x | none => qIx qML (qOc T) j).map Instr.invokespecial) else none) = some raw := hr
  rw [hj9, Bool.false_or] at hr2
  cases hv : qSpL.elem j with
  | false => rw [hv] at hr2; cases hr2
  | true =>
    rw [hv] at hr2
    have hvi : j ∈ qSpL := List.elem_iff.mp hv
    obtain ⟨lA, st2, hst, hln, hA⟩ := qTake_of _ _ _ _ h
    obtain ⟨b, rest, hst2, hB⟩ := qA1_of hA
    subst hst2
    subst hst
    rw [List.append_nil] at hB
    intro h1 h2 h3 h4 ad h5 h6 H locs lsA hl hP hS
    obtain ⟨v1, v2, v3, v4⟩ := q_spF j hvi
    refine qs_call hX hcs hB h3 h4 h5 h6 hl hS fun Q2 hM hok hph hcat hroom => ?_
    obtain ⟨o1, o2, o3, o4, o5, o6⟩ := q_okf hok
    have hts := hF.2.2.2.2.2.2.2.1
    have hR := hF.2.2.2.2.2.2.2.2.2.1
    have hOn := hF.2.2.2.2.2.2.2.2.1
    have hpre := q_pre (T' := qTab j) (ad := ad) (as := .ref b :: lA.reverse) hF hP hS hph
    have hcw : qWs (qTab j) = Cond.code (qY (qTab j)) (qB (qTab j)) (qLo (qTab j)) none :: qTbl := by
      unfold qWs
      rw [v4]
    have hgood : GoodIn qTbl (qWs (qTab j)) := by
      refine q_good fun w hw => ?_
      unfold qWs at hw
      rcases List.mem_cons.mp hw with rfl | hw
      · exact q_co j v2
      · exact hw
    have hrr : d + 1 ≤ R.frames ∧ 8 + (qLo (qTab j) + 11) + 40 * d ≤ R.locals := ⟨by omega, by omega⟩
    cases hxn : qIx qMN (qOc T) j with
    | some x =>
      rw [hxn] at hr2
      have hraw : raw = .invokespecial x := (Option.some.inj hr2).symm
      subst hraw
      have hml := hOn.2.2.2.2.1 (qOc T, j, x) (qIx_mem _ _ _ _ hxn)
      dsimp only at hml
      rw [q_lny v1] at hml
      exact va_runIN (As := (lA.reverse).map (qV ad)) (rest := rest.map (qV ad)) (b := ad b) (g := F0 m pc lsA ((lA ++ .ref b :: rest).map (qV ad))) ⟨hF.1, hF.2.1, hF.2.2.1, hF.2.2.2.2.2.2.1, hts⟩ hM ⟨va_cnB (qNa (qTab j)) hts hgood hcw rfl rfl hml (hts _ (q_mi j v2)) ⟨o4, o5, o3⟩ hrr, v3, hts _ (q_sp j hvi)⟩ hpre rfl (by simp [hln]) hl.1 (by simp [qV]) (lv_room (by rw [qCat_sum]; exact hcat)) hd ⟨by omega, by omega⟩
    | none =>
      rw [hxn] at hr2
      cases hx : qIx qML (qOc T) j with
      | none => rw [hx] at hr2; cases hr2
      | some x =>
        rw [hx] at hr2
        have hraw : raw = .invokespecial x := (Option.some.inj hr2).symm
        subst hraw
        have hml := q_ml (qOc T, j, x) (qIx_mem _ _ _ _ hx)
        dsimp only at hml
        rw [q_lny v1] at hml
        exact va_runI (As := (lA.reverse).map (qV ad)) (rest := rest.map (qV ad)) (b := ad b) (g := F0 m pc lsA ((lA ++ .ref b :: rest).map (qV ad))) ⟨hF.1, hF.2.1, hF.2.2.1, hF.2.2.2.2.2.2.1, hts⟩ hM (cwI (qNa (qTab j)) hts hgood hcw rfl rfl (hts _ (q_mi j v2)) (hts _ hml) (hts _ (q_sp j hvi)) v3 ⟨o4, o5, o3⟩ hrr) hpre rfl (by simp [hln]) hl.1 (by simp [qV]) (lv_room (by rw [qCat_sum]; exact hcat)) hd ⟨by omega, by omega⟩
end QCALL
end
section
section QMAIN
variable {G : qCx} {T : qT} {ad0 : Nat → Nat} {n0 d : Nat} {p : Program} {l : Launch} {e : Env} {R : Room} {s : State} {m : MethodId} {args : Array Value} {below : List Frame} {meth : Method} {c : Code} {Qf : State → Prop}
variable {pc : Nat} {ls : List (Nat × Value)} {st : List Value} {uc us : Nat} {M : qM} {Q : qP}
/-- ONE INSTRUCTION -/
theorem q_step {cs : qC} (hF : qFr G T d p R s m args meth c) (hT : qOKm T = true) (hR : qRet G T Q ad0 n0 p l e R s m args below meth c Qf) (hcs : qHc G l d cs) {X : qX} (hX : ∀ pc ls st uc us M, X pc ls st uc us M → qS G T ad0 n0 p l e R s m args below meth c Qf pc ls st uc us M)
    (h : qStep T cs Q X pc ls st uc us M) : qS G T ad0 n0 p l e R s m args below meth c Qf pc ls st uc us M := by
  unfold qStep at h
  cases hq : qFindB (qBl T) pc with
  | none => rw [hq] at h; exact h.elim
  | some il =>
    obtain ⟨ins, len⟩ := il
    rw [hq] at h
    have hk := q_chk hT hq
    dsimp only at h
    cases ins with
    | iconst k => exact qs_iconst hF hX hk h
    | bipush k => exact qs_bipush hF hX hk h
    | sipush k => exact qs_sipush hF hX hk h
    | lconst k => exact qs_lconst hF hX hk h
    | ldc k => exact qs_ldc hF hX hk h
    | ldc_w k => exact qs_ldc_w hF hX hk h
    | ldc2_w k => exact qs_ldc2_w hF hX hk h
    | iload k => exact qs_iload hF hX hk h
    | iload_n k => exact qs_iload_n hF hX hk h
    | lload k => exact qs_lload hF hX hk h
    | lload_n k => exact qs_lload_n hF hX hk h
    | aload k => exact qs_aload hF hX hk h
    | aload_n k => exact qs_aload_n hF hX hk h
    | istore k => exact qs_istore hF hX hk h
    | istore_n k => exact qs_istore_n hF hX hk h
    | lstore k => exact qs_lstore hF hX hk h
    | lstore_n k => exact qs_lstore_n hF hX hk h
    | astore k => exact qs_astore hF hX hk h
    | astore_n k => exact qs_astore_n hF hX hk h
    | goto k => exact qs_goto hF hX hk h
    | ifnull k => exact qs_ifnull hF hX hk h
    | ifnonnull k => exact qs_ifnonnull hF hX hk h
    | getstatic k => exact qs_getstatic hF hX hk h
    | getfield k => exact qs_getfield hF hX hk h
    | putfield k => exact qs_putfield hF hX hk h
    | new k => exact qs_new hF hX hk h
    | anewarray k => exact qs_anewarray hF hX hk h
    | iadd => exact qs_iadd hF hX hk h
    | isub => exact qs_isub hF hX hk h
    | imul => exact qs_imul hF hX hk h
    | iand => exact qs_iand hF hX hk h
    | ior => exact qs_ior hF hX hk h
    | ixor => exact qs_ixor hF hX hk h
    | ishl => exact qs_ishl hF hX hk h
    | ishr => exact qs_ishr hF hX hk h
    | iushr => exact qs_iushr hF hX hk h
    | idiv => exact qs_idiv hF hX hk h
    | ineg => exact qs_ineg hF hX hk h
    | ladd => exact qs_ladd hF hX hk h
    | lsub => exact qs_lsub hF hX hk h
    | land => exact qs_land hF hX hk h
    | lor => exact qs_lor hF hX hk h
    | ldiv => exact qs_ldiv hF hX hk h
    | lrem => exact qs_lrem hF hX hk h
    | lneg => exact qs_lneg hF hX hk h
    | lshl => exact qs_lshl hF hX hk h
    | lshr => exact qs_lshr hF hX hk h
    | lushr => exact qs_lushr hF hX hk h
    | lcmp => exact qs_lcmp hF hX hk h
    | i2l => exact qs_i2l hF hX hk h
    | l2i => exact qs_l2i hF hX hk h
    | i2b => exact qs_i2b hF hX hk h
    | iaload => exact qs_iaload hF hX hk h
    | baload => exact qs_baload hF hX hk h
    | laload => exact qs_laload hF hX hk h
    | aaload => exact qs_aaload hF hX hk h
    | iastore => exact qs_iastore hF hX hk h
    | bastore => exact qs_bastore hF hX hk h
    | lastore => exact qs_lastore hF hX hk h
    | aastore => exact qs_aastore hF hX hk h
    | aconst_null => exact qs_null hF hX hk h
    | arraylength => exact qs_alen hF hX hk h
    | iinc k n => exact qs_iinc hF hX hk h
    | dup => cases st with
      | nil => exact h.elim
      | cons v r => exact qs_dup hF hX hk h
    | pop => cases st with
      | nil => exact h.elim
      | cons v r => exact qs_pop hF hX hk h
    | ifCond cd t => cases cd with
      | eq => exact qs_if_eq hF hX hk h
      | ne => exact qs_if_ne hF hX hk h
      | lt => exact qs_if_lt hF hX hk h
      | ge => exact qs_if_ge hF hX hk h
      | gt => exact qs_if_gt hF hX hk h
      | le => exact qs_if_le hF hX hk h
    | if_icmp cd t => cases cd with
      | eq => exact qs_icmp_eq hF hX hk h
      | ne => exact qs_icmp_ne hF hX hk h
      | lt => exact qs_icmp_lt hF hX hk h
      | ge => exact qs_icmp_ge hF hX hk h
      | gt => exact qs_icmp_gt hF hX hk h
      | le => exact qs_icmp_le hF hX hk h
    | tableswitch a b c2 d2 => exact qs_table hF hX hk h
    | lookupswitch a b => exact qs_lookup hF hX hk h
    | newarray ty => exact qs_newarray hF hX h hk
    | invokevirtual j => exact qs_virtual hF hX hcs hk h
    | invokestatic j =>
      dsimp only at h
      cases hb : Nat.beq j 9998 with
      | true =>
        rw [hb] at h
        have := Nat.eq_of_beq_eq_true hb
        subst this
        exact qs_copy hF hX hk h
      | false =>
        rw [hb] at h
        dsimp only at h
        cases h9 : Nat.ble 9990 j with
        | false =>
          rw [h9] at h
          exact qs_static h9 hF hX hcs hk h
        | true =>
          rw [h9] at h
          dsimp only at h
          unfold qMath at h
          cases h3 : Nat.beq j 9993 with
          | true =>
            rw [h3] at h
            have := Nat.eq_of_beq_eq_true h3
            subst this
            exact qs_mabs hF hX hk h
          | false =>
            rw [h3] at h
            dsimp only at h
            cases h2 : Nat.beq j 9992 with
            | true =>
              rw [h2] at h
              have := Nat.eq_of_beq_eq_true h2
              subst this
              exact qs_mmin hF hX hk h
            | false =>
              rw [h2] at h
              dsimp only at h
              cases h1 : Nat.beq j 9991 with
              | true =>
                rw [h1] at h
                have := Nat.eq_of_beq_eq_true h1
                subst this
                exact qs_mmax hF hX hk h
              | false => rw [h1] at h; exact h.elim
    | invokespecial j =>
      dsimp only at h
      cases hb : Nat.beq j 9999 with
      | true =>
        rw [hb] at h
        have := Nat.eq_of_beq_eq_true hb
        subst this
        exact qs_obj hF hX hk h
      | false =>
        rw [hb] at h
        exact qs_special hb hF hX hcs hk h
    | ireturn =>
      dsimp only at h
      split at h
      · split at h
        · rename_i ht
          exact qs_iret hF hX hR hk (Or.inl ht) h
        · rename_i ht
          exact qs_iret hF hX hR hk (Or.inr ⟨ht, h.1⟩) h.2
        · exact h.elim
      · exact h.elim
    | lreturn =>
      dsimp only at h
      split at h
      · exact qs_lret hF hX hR hk h
      · exact h.elim
    | areturn =>
      dsimp only at h
      split at h
      · exact qs_aretr hF hX hR hk h
      · exact qs_aretn hF hX hR hk h
      · exact h.elim
    | return_ =>
      dsimp only at h
      split at h
      · exact qs_vret hF hX hR hk h
      · exact h.elim
    | _ => exact h.elim
theorem q_runs {cs : qC} (hF : qFr G T d p R s m args meth c) (hT : qOKm T = true) (hR : qRet G T Q ad0 n0 p l e R s m args below meth c Qf) (hcs : qHc G l d cs) {X : qX} (hX : ∀ pc ls st uc us M, X pc ls st uc us M → qS G T ad0 n0 p l e R s m args below meth c Qf pc ls st uc us M) (cuts : List Nat) :
    ∀ (n : Nat) (pc : Nat) (ls : List (Nat × Value)) (st : List Value) (uc us : Nat) (M : qM), qRun T cs Q X cuts n pc ls st uc us M → qS G T ad0 n0 p l e R s m args below meth c Qf pc ls st uc us M := by
  intro n
  induction n with
  | zero => exact hX
  | succ n ih =>
    intro pc ls st uc us M h
    refine q_step hF hT hR hcs (X := fun pc ls st uc us M => match cuts.elem pc with
      | true => X pc ls st uc us M
      | false => qRun T cs Q X cuts n pc ls st uc us M) (fun pc ls st uc us M h2 => ?_) h
    split at h2
    · exact hX _ _ _ _ _ _ h2
    · exact ih _ _ _ _ _ _ h2
theorem q_js {cs : qC} (hF : qFr G T d p R s m args meth c) (hT : qOKm T = true) (hR : qRet G T Q ad0 n0 p l e R s m args below meth c Qf) (hcs : qHc G l d cs) (h : qJ T cs Q pc ls st uc us M) : qS G T ad0 n0 p l e R s m args below meth c Qf pc ls st uc us M :=
  h _ (fun cuts n pc ls st uc us M h2 => q_runs hF hT hR hcs (fun _ _ _ _ _ _ z => z) cuts (n + 1) pc ls st uc us M h2)
theorem q_args (ad : Nat → Nat) : ∀ (as : List Value) (i : Nat), lv_args i (as.map (qV ad)) = qLs ad (lv_args i as) := by
  intro as
  induction as with
  | nil => intro i; rfl
  | cons v r ih =>
    intro i
    simp only [List.map_cons, lv_args, qV_cat]
    rw [ih]
    rfl
end QMAIN
/-- EVERY METHOD: what the plain machine says of a call holds of the given one -/
theorem q_met (G : qCx) (l : Launch) : ∀ d : Nat, qHc G l d (qWP d) := by
  intro d
  induction d with
  | zero => intro j as M Q ad h; exact h.elim
  | succ d ih =>
    intro j as M Q ad h
    obtain ⟨hj, hcat, hJ⟩ := h
    refine ⟨hj, ?_⟩
    have hok := qTab_ok hj
    obtain ⟨o1, o2, o3, o4, o5, o6⟩ := q_okf hok
    generalize qTab j = T at hcat hJ hok o1 o2 o3 o4 o5 o6 ⊢
    refine Met.ofW (cc := qB T) (maxL := qLo T) (ret := qRt T) o2 rfl ?_
    intro p e s m args below meth c s₁ B hml hv
    obtain ⟨rfl, hP, hOn, hst, hs0⟩ := hv
    have hown : s.vm.findClass (qY T).cls = some m.cls := findClass_of_methodNamed B.named
    have hts := atoms_spec (ws := qWs T) B.pre
    have hlocks := B.notSynchronized
    have hF : qFr G T d p (headSpec (qWs T) (qRm T (d + 1))).room s m (as.map (qV ad)).toArray meth c := ⟨B.exec, B.bytes, hml, B.returns, B.notSynchronized, fun hn => (name_of_methodNamed B.named B.method).1.trans hn, by rw [← o1]; exact hown, fun w hw => hts w (List.mem_cons_of_mem _ hw), hOn, ⟨Nat.le_refl _, Nat.le_refl _, Nat.le_refl _, Nat.le_refl _⟩, hs0⟩
    have hR : qRet G T Q ad M.1 p l e (headSpec (qWs T) (qRm T (d + 1))).room s m (as.map (qV ad)).toArray below meth c (MQ below (qQc G T Q ad M.1) (as.map (qV ad)).toArray s (qMc T) (qMs T) (qAr G)) := by
      intro pc ins v M2 ad2 H locs lsA hd hrk hq g1 g0 g2 g3 hP2 hS
      have hQ : ∀ t : State, t.heap = H → s.WarmedH t.vm → qQc G T Q ad M.1 (as.map (qV ad)).toArray s (.returned (v.map (qV ad2))) t := fun t ht _ => ⟨⟨v, M2, ad2, rfl, hq, g0, g1, g2, g3, by rw [ht]; exact hP2⟩, hS.F ht⟩
      rcases hrk with ⟨x, rfl, rfl, hx⟩ | ⟨x, rfl, rfl, hx⟩ | ⟨w, rfl, rfl, hw, C, hC⟩ | ⟨rfl, rfl, hx⟩
      · rcases hx with hx | ⟨hx, hz⟩
        · exact W.iret B.exec B.bytes (by rw [B.returns]; exact hx) hQ hS.2.2 hd hlocks
        · exact W.zret (ty := .boolean) B.exec B.bytes (by rw [B.returns]; exact hx) (q_narb hz) hQ hS.2.2 hd hlocks
      · exact W.lret B.exec B.bytes (by rw [B.returns]; exact hx) hQ hS.2.2 hd hlocks
      · refine W.aret B.exec B.bytes (rt := .object C) (by rw [B.returns]; exact hC) (Or.inl ⟨C, rfl⟩) ?_ hQ hS.2.2 hd hlocks
        rcases hw with rfl | ⟨a, rfl⟩
        · exact Or.inl rfl
        · exact Or.inr ⟨ad2 a, rfl⟩
      · exact W.vret B.exec B.bytes (by rw [B.returns]; exact hx) hQ hS.2.2 hd hlocks
    have hl := lv_entry (as.map (qV ad)) (n := qLo T) (by rw [qCat_sl]; exact Nat.le_of_ble_eq_true hcat)
    rw [q_args] at hl
    rw [lg_entry_eq]
    exact q_js hF hok hR ih hJ (Nat.zero_le _) (Nat.zero_le _) hst (Nat.le_refl _) ad (fun _ _ => rfl) (fun _ => rfl) s.heap [] _ hl hP va_S.rf
end
section
/-! THE CLAIM OUT OF ONE WALK OF THE LAW'S BODY. Your part is whole_start (and what it stands on); all else here is the same for every law, but numbers. -/
def R_law : String := "InscribedStonesLaw"
def lw_P (b : Addr) (xs : List Int32) (args : Array Value) (s : State) : Prop := args = #[.ref b] ∧ s.IntsAt b xs ∧ xs.length ≤ 3584 ∧ (Jvm.Cond.and given_1 narrow_1).before args s = true
def lw_Q (_ : Array Value) (s : State) (o : Outcome) (t : State) : Prop := o = .returned (some (.int 1)) ∧ Framed s o t [] 600000 7302250
def lw_Z (below : List Frame) (a : Array Value) (s : State) : State → Prop := fun t => ∃ o, t.status = .running ∧ Ended t below o ∧ lw_Q a s o t
/-- the law's own end, with 1 on the stack, nothing written that was there before, its room as the claim has it -/
theorem lw_ret {p : Program} {l : Launch} {e : Env} {s : State} {m : MethodId} {below : List Frame} {meth : Method} {c : Code} {b : Nat} (hx : p.tables.exec = Jvm.exec) (hb : c.code = code) (hr : meth.sig.returnType = ret) (hlocks : meth.locks = false) {pc : Nat} {H : Heap} {ls : Array Slot} (hdg : decode code pc = .ok (.ireturn, 1)) : W p l e room_1 s m #[Value.ref b] below meth c H [] 600000 7302250 (lw_Z below #[Value.ref b] s) (F0 m pc ls [.int 1]) := by
  intro T hT X
  obtain ⟨fs, hret, hrun, hended, hW, hframe⟩ := X.leave (v := some (.int 1)) (hlocks := hlocks) (fun h => by rw [hr] at h; cases h)
  have hmeth' : T.vm.method? m = some meth := X.method'
  refine ⟨T.setFrames fs, ?_, .returned (some (.int 1)), hrun, hended, rfl, ⟨_, rfl⟩, hW, hframe⟩
  jvm_step X.here [X.here.top, hx, hb, hdg, hmeth', hr, ret, narrow_b1]
  (try refine ⟨rfl, ?_⟩); (try refine ⟨rfl, ?_⟩)
  first | (intro acts; rw [hret _ acts rfl rfl rfl]) | rw [hret _ _ rfl rfl rfl]
  exact Steps.refl _
/-- what holds at the law's entry: the machine, the code, the tables' words (any of lw_tbl by 'hts w (by decide +kernel)'), the script of L ints xs at the cell b, what the Statement gives of the start (any of its parts by flat_of_before) -/
def lw_At (p : Program) (s : State) (m : MethodId) (meth : Method) (c : Code) (b L : Nat) (xs : Nat → Int32) : Prop :=
  p.tables.exec = Jvm.exec ∧ c.code = code ∧ meth.sig.returnType = ret ∧ c.maxLocals = 4 ∧ s.vm.findClass R_law = some m.cls ∧ (∀ w ∈ lw_tbl, w.before #[Value.ref b] s = true) ∧ va_X b L xs s s.heap ∧ b < s.heap.size ∧ meth.locks = false ∧ (Jvm.Cond.and given_1 narrow_1).before #[Value.ref b] s = true
/-- the memory at the law's start: the script and the table -/
def qM0 (L : Nat) (xs : Nat → Int32) : qM := (0, fun k => if k = 0 then L else 0, fun k => if k = 0 then xs else if k = 1 then qKA else fun _ => 0, fun _ _ => 0, fun _ _ => none)
/-- THE CLAIM IN THE PLAIN MACHINE: the law answers 1 -/
def qGoal : Prop := ∀ (L : Nat) (xs : Nat → Int32), L ≤ 3584 → ∃ d : Nat, d ≤ 2000 ∧ qWP d qLaw [.ref 0] (qM0 L xs) (fun v _ => v = some (.int 1))
theorem q_arr {s : State} {A : Array Value} {ty : FieldType} (hp : ∀ C, ty ≠ .object C) (h : (Cond.arrayClass ty).before A s = true) : ∃ cA : ClassId, ArrOfT s cA ty ∧ va_RA s cA ty := by
  obtain ⟨cB, kB, comp, hcB, hkB, hkind⟩ := Cond.arrayClass_spec h
  refine ⟨cB, fun n z => ⟨fun k h => (by cases h), kB, hkB, comp, hkind⟩, ?_⟩
  cases ty <;> first | exact absurd rfl (hp _) | exact hcB
theorem q_arrO {s : State} {C : String} (h : va_AO C s) : ∃ cA : ClassId, ArrOfT s cA (.object C) ∧ va_RA s cA (.object C) := by
  obtain ⟨comp, c, k, h1, h2, h3, h4, h5⟩ := Cond.arrayOver_spec h
  exact ⟨c, fun n z => ⟨fun k h => (by cases h), k, h3, comp, h4⟩, k, comp, h3, h4, h1, h5⟩
set_option maxRecDepth 100000 in
theorem whole_start_of (hGoal : qGoal) {p : Program} {e : Env} {s : State} {m : MethodId} {below : List Frame} {meth : Method} {c : Code} (l : Launch) {b L : Nat} {xs : Nat → Int32} (hL : L ≤ 3584) (C0 : lw_At p s m meth c b L xs) : W p l e room_1 s m #[Value.ref b] below meth c s.heap [] 0 0 (lw_Z below #[Value.ref b] s) (entryFrame m ([Value.ref b] : List Value).toArray 4) := by
  obtain ⟨hx, hb, hr, hml, hown, hts0, hX, hbl, hlocks, hgv⟩ := C0
  have hts : ∀ w ∈ qTbl, w.before #[Value.ref b] s = true := fun w hw => hts0 w (List.mem_filter.mp hw).1
  have hs := flat_of_before _ hgv
  have hA : ∀ a : Nat, a < s.heap.size → ¬ (fun q : Nat => s.heap.size ≤ q) a := fun a h1 h2 => by
    have h2 : s.heap.size ≤ a := h2
    omega
  have harr : (Cond.arrayOf (.static "InscribedStones" "KIND_ABOVE" "[I") .int).before #[Value.ref b] s = true := hs _ (by decide +kernel)
  have hlen := va_eqt (hs (Cond.eq (.length (.static "InscribedStones" "KIND_ABOVE" "[I")) (.int 6)) (by decide +kernel))
  have e0 := va_eqt (hs (Cond.eq (.elem (.static "InscribedStones" "KIND_ABOVE" "[I") (.int 0)) (.int (-1))) (by decide +kernel))
  have e1 := va_eqt (hs (Cond.eq (.elem (.static "InscribedStones" "KIND_ABOVE" "[I") (.int 1)) (.int 0)) (by decide +kernel))
  have e2 := va_eqt (hs (Cond.eq (.elem (.static "InscribedStones" "KIND_ABOVE" "[I") (.int 2)) (.int 0)) (by decide +kernel))
  have e3 := va_eqt (hs (Cond.eq (.elem (.static "InscribedStones" "KIND_ABOVE" "[I") (.int 3)) (.int 0)) (by decide +kernel))
  have e4 := va_eqt (hs (Cond.eq (.elem (.static "InscribedStones" "KIND_ABOVE" "[I") (.int 4)) (.int 3)) (by decide +kernel))
  have e5 := va_eqt (hs (Cond.eq (.elem (.static "InscribedStones" "KIND_ABOVE" "[I") (.int 5)) (.int 0)) (by decide +kernel))
  obtain ⟨t, ht, hT⟩ := va_Tof (N := 6) (f := fun j => .int (qKA j)) (A := fun q : Nat => s.heap.size ≤ q) (by decide) harr hlen (fun j hj => by
    match j, hj with
    | 0, _ => exact e0
    | 1, _ => exact e1
    | 2, _ => exact e2
    | 3, _ => exact e3
    | 4, _ => exact e4
    | 5, _ => exact e5) hA
  have hZ := va_Zref (hts0 _ (q_two (.laysStatic "InscribedStones" "KIND_ABOVE" "[I") (by decide +kernel))) (hts _ (q_one (.initialized "InscribedStones") (by decide +kernel))) ht hA
  have hXT : va_T .int b L (fun j => .int (xs j)) (fun q : Nat => s.heap.size ≤ q) s s.heap := by
    obtain ⟨scr, g1, g2, g3, g4, g5⟩ := hX
    exact ⟨scr, g1, g2, g3, by omega, by rw [g4], g5, hA b hbl⟩
  have hcls : ∀ ci : Nat, ∃ q : ClassId × (Nat → Nat), ci < 13 → u_Kn s (qCls ci).1 (qCls ci).2.1 (qCls ci).2.2 q.1 q.2 := by
    intro ci
    by_cases hc : ci < 13
    · obtain ⟨c1, c2, -⟩ := q_cls hc
      have hk13 : ci ∈ qC13 := by
        have : ∀ k, k < 13 → k ∈ qC13 := by decide +kernel
        exact this ci hc
      obtain ⟨cC, iS, hKn⟩ := u_known (C := (qCls ci).1) (T := (qCls ci).2.1) (N := (qCls ci).2.2) (n := (qCls ci).2.2) hts c2 (hts _ (q_cn ci hk13))
      exact ⟨(cC, iS), fun _ => hKn⟩
    · exact ⟨(0, fun _ => 0), fun h => absurd h hc⟩
  obtain ⟨fD, hfD⟩ := Classical.axiomOfChoice hcls
  have hAO : va_AO RX9 s := va_AO.of (A := #[Value.ref b]) (hts0 _ (q_two (.arrayOver (.object RX9)) (by decide +kernel)))
  obtain ⟨a13, k13⟩ := q_arr (ty := .byte) (fun C h => by cases h) (hts _ (q_one (.arrayClass .byte) (by decide +kernel)))
  obtain ⟨a14, k14⟩ := q_arr (ty := .int) (fun C h => by cases h) (hts _ (q_one (.arrayClass .int) (by decide +kernel)))
  obtain ⟨a15, k15⟩ := q_arr (ty := .long) (fun C h => by cases h) (hts _ (q_one (.arrayClass .long) (by decide +kernel)))
  obtain ⟨a16, k16⟩ := q_arr (ty := .boolean) (fun C h => by cases h) (hts _ (q_one (.arrayClass .boolean) (by decide +kernel)))
  obtain ⟨a17, k17⟩ := q_arrO hAO
  obtain ⟨G, hG⟩ : ∃ G : qCx, G = ((fun k => (fD k).1, fun k => (fD k).2), (fun k => if k = 13 then a13 else if k = 14 then a14 else if k = 15 then a15 else if k = 16 then a16 else a17), s.heap.size, b, t, L, xs) := ⟨_, rfl⟩
  have hK : va_K G.1 vwCl (qTys G) s := by
    subst hG
    refine ⟨fun ci q hq => ?_, fun k q hq => ?_⟩
    · have hc : ci < 13 := (List.getElem?_eq_some_iff.mp hq).1
      have e1 : q = qCls ci := Option.some.inj (hq.symm.trans (q_cls hc).1)
      rw [e1]
      exact hfD ci hc
    · have hk5 : k < 5 := (List.getElem?_eq_some_iff.mp hq).1
      match k, hk5, hq with
      | 0, _, hq => cases hq; exact k13
      | 1, _, hq => cases hq; exact k14
      | 2, _, hq => cases hq; exact k15
      | 3, _, hq => cases hq; exact k16
      | 4, _, hq => cases hq; exact k17
  have hOn : qOn G s := by
    refine ⟨hK, ?_, ?_, ?_, fun e he => va_Nw.of rfl (hts0 _ (q_mn e he)), va_Nw.of rfl (hts0 _ (q_two (.fieldLinkNest RX5 29 "InscribedStones" "KIND_ABOVE" "[I" "InscribedStones") (by decide +kernel))), hAO⟩
    · subst hG; exact hXT
    · subst hG; exact hT
    · subst hG; exact hZ
  obtain ⟨d, hd, hWP⟩ := hGoal L xs hL
  cases d with
  | zero => exact hWP.elim
  | succ d =>
    obtain ⟨hj, hcat, hJ⟩ := hWP
    have hTe : qTab qLaw = m_L_law := rfl
    rw [hTe] at hJ
    have hF : qFr G m_L_law d p room_1 s m #[Value.ref b] meth c := ⟨hx, hb, hml, hr, hlocks, fun h => absurd h (by decide +kernel), hown, hts, hOn, ⟨by show d + 1 ≤ 2048; omega, by show 40 * (d + 1) ≤ 84000; omega, Nat.le_refl _, Nat.le_refl _⟩, by subst hG; exact Nat.le_refl _⟩
    have hR : qRet G m_L_law (fun v _ => v = some (.int 1)) (fun k => if k = 0 then b else t) 0 p l e room_1 s m #[Value.ref b] below meth c (lw_Z below #[Value.ref b] s) := by
      intro pc ins v M2 ad2 H locs lsA hd2 hrk hq g1 g0 g2 g3 hP2 hS
      subst hq
      rcases hrk with ⟨x, rfl, hv, hx2⟩ | ⟨x, rfl, hv, hx2⟩ | ⟨w, rfl, hv, hw, C, hC⟩ | ⟨rfl, hv, hx2⟩
      · refine va_forget (fun q hq => by subst hG; exact hS.2.2 q hq) ?_
        exact lw_ret hx hb hr hlocks hd2
      · cases hv
      · rw [show qRt m_L_law = some .boolean from rfl] at hC
        cases hC
      · cases hv
    have hl := lv_entry ([.ref b]) (n := 4) (Nat.le_of_ble_eq_true rfl)
    rw [lg_entry_eq]
    refine q_js hF ok_L_law hR (q_met G l d) hJ (Nat.zero_le _) (Nat.zero_le _) (fun h => by cases h) (Nat.le_refl _) (fun k => if k = 0 then b else t) (fun _ _ => rfl) (fun h => rfl) s.heap [] _ hl ?_ va_S.rf
    subst hG
    exact ⟨fun k q h => by simp [qW, qM0] at h, ⟨fun i j x y h => by simp [qW, qM0] at h, fun k q h => by simp [qW, qM0] at h⟩, rfl, rfl, rfl, rfl, rfl, fun k f x h => by cases h⟩
end
section
/-! THE RULES OF THE PLAIN MACHINE: more is left of what is asked, the steps fold -/
theorem qI1_mono {st : List Value} {f g : Int32 → List Value → Prop} (h : ∀ x r, f x r → g x r) (hf : qI1 st f) : qI1 st g := by
  unfold qI1 at hf ⊢
  split at hf <;> first | exact h _ _ hf | exact h _ _ _ hf | exact h _ _ _ _ hf | exact h _ _ _ _ _ _ hf | exact hf.elim
theorem qI2_mono {st : List Value} {f g : Int32 → Int32 → List Value → Prop} (h : ∀ x y r, f x y r → g x y r) (hf : qI2 st f) : qI2 st g := by
  unfold qI2 at hf ⊢
  split at hf <;> first | exact h _ _ hf | exact h _ _ _ hf | exact h _ _ _ _ hf | exact h _ _ _ _ _ _ hf | exact hf.elim
theorem qL1_mono {st : List Value} {f g : Int64 → List Value → Prop} (h : ∀ x r, f x r → g x r) (hf : qL1 st f) : qL1 st g := by
  unfold qL1 at hf ⊢
  split at hf <;> first | exact h _ _ hf | exact h _ _ _ hf | exact h _ _ _ _ hf | exact h _ _ _ _ _ _ hf | exact hf.elim
theorem qL2_mono {st : List Value} {f g : Int64 → Int64 → List Value → Prop} (h : ∀ x y r, f x y r → g x y r) (hf : qL2 st f) : qL2 st g := by
  unfold qL2 at hf ⊢
  split at hf <;> first | exact h _ _ hf | exact h _ _ _ hf | exact h _ _ _ _ hf | exact h _ _ _ _ _ _ hf | exact hf.elim
theorem qLI_mono {st : List Value} {f g : Int64 → Int32 → List Value → Prop} (h : ∀ x y r, f x y r → g x y r) (hf : qLI st f) : qLI st g := by
  unfold qLI at hf ⊢
  split at hf <;> first | exact h _ _ hf | exact h _ _ _ hf | exact h _ _ _ _ hf | exact h _ _ _ _ _ _ hf | exact hf.elim
theorem qA1_mono {st : List Value} {f g : Nat → List Value → Prop} (h : ∀ a r, f a r → g a r) (hf : qA1 st f) : qA1 st g := by
  unfold qA1 at hf ⊢
  split at hf <;> first | exact h _ _ hf | exact h _ _ _ hf | exact h _ _ _ _ hf | exact h _ _ _ _ _ _ hf | exact hf.elim
theorem qAI_mono {st : List Value} {f g : Nat → Int32 → List Value → Prop} (h : ∀ a i r, f a i r → g a i r) (hf : qAI st f) : qAI st g := by
  unfold qAI at hf ⊢
  split at hf <;> first | exact h _ _ hf | exact h _ _ _ hf | exact h _ _ _ _ hf | exact h _ _ _ _ _ _ hf | exact hf.elim
theorem qAII_mono {st : List Value} {f g : Nat → Int32 → Int32 → List Value → Prop} (h : ∀ a i x r, f a i x r → g a i x r) (hf : qAII st f) : qAII st g := by
  unfold qAII at hf ⊢
  split at hf <;> first | exact h _ _ hf | exact h _ _ _ hf | exact h _ _ _ _ hf | exact h _ _ _ _ _ _ hf | exact hf.elim
theorem qAIL_mono {st : List Value} {f g : Nat → Int32 → Int64 → List Value → Prop} (h : ∀ a i x r, f a i x r → g a i x r) (hf : qAIL st f) : qAIL st g := by
  unfold qAIL at hf ⊢
  split at hf <;> first | exact h _ _ hf | exact h _ _ _ hf | exact h _ _ _ _ hf | exact h _ _ _ _ _ _ hf | exact hf.elim
theorem qAIA_mono {st : List Value} {f g : Nat → Int32 → Option Nat → List Value → Prop} (h : ∀ a i v r, f a i v r → g a i v r) (hf : qAIA st f) : qAIA st g := by
  unfold qAIA at hf ⊢
  split at hf <;> first | exact h _ _ hf | exact h _ _ _ hf | exact h _ _ _ _ hf | exact h _ _ _ _ _ _ hf | exact hf.elim
theorem qIA_mono {st : List Value} {f g : Nat → Int32 → List Value → Prop} (h : ∀ a x r, f a x r → g a x r) (hf : qIA st f) : qIA st g := by
  unfold qIA at hf ⊢
  split at hf <;> first | exact h _ _ hf | exact h _ _ _ hf | exact h _ _ _ _ hf | exact h _ _ _ _ _ _ hf | exact hf.elim
theorem qVA_mono {st : List Value} {f g : Nat → Option Nat → List Value → Prop} (h : ∀ a v r, f a v r → g a v r) (hf : qVA st f) : qVA st g := by
  unfold qVA at hf ⊢
  split at hf <;> first | exact h _ _ hf | exact h _ _ _ hf | exact h _ _ _ _ hf | exact h _ _ _ _ _ _ hf | exact hf.elim
theorem qCp_mono {st : List Value} {f g : Nat → Int32 → Nat → Int32 → Int32 → List Value → Prop} (h : ∀ s sp d dp n r, f s sp d dp n r → g s sp d dp n r) (hf : qCp st f) : qCp st g := by
  unfold qCp at hf ⊢
  split at hf <;> first | exact h _ _ hf | exact h _ _ _ hf | exact h _ _ _ _ hf | exact h _ _ _ _ _ _ hf | exact hf.elim
theorem qLdI_mono {ls : List (Nat × Value)} {k : Nat} {f g : Int32 → Prop} (h : ∀ x, f x → g x) (hf : qLdI ls k f) : qLdI ls k g := by
  unfold qLdI at hf ⊢
  split at hf <;> first | exact h _ hf | exact hf.elim
theorem qLdL_mono {ls : List (Nat × Value)} {k : Nat} {f g : Int64 → Prop} (h : ∀ x, f x → g x) (hf : qLdL ls k f) : qLdL ls k g := by
  unfold qLdL at hf ⊢
  split at hf <;> first | exact h _ hf | exact hf.elim
theorem qLdA_mono {ls : List (Nat × Value)} {k : Nat} {f g : Value → Prop} (h : ∀ x, f x → g x) (hf : qLdA ls k f) : qLdA ls k g := by
  unfold qLdA at hf ⊢
  split at hf <;> first | exact h _ hf | exact hf.elim
theorem qAn_mono {st : List Value} {g g' : List Value → Prop} {f f' : Nat → List Value → Prop} (hg : ∀ r, g r → g' r) (h : ∀ a r, f a r → f' a r) (hf : qAn st g f) : qAn st g' f' := by
  unfold qAn at hf ⊢
  split at hf <;> first | exact h _ _ hf | exact hg _ hf | exact hf.elim
theorem qIs_mono {a ci : Nat} {k k' : Prop} (h : k → k') (hk : qIs a ci k) : qIs a ci k' := by
  unfold qIs at hk ⊢
  split at hk <;> first | exact h hk | exact hk.elim
theorem qIf_mono {b : Bool} {k k' : Prop} (h : k → k') (hk : qIf b k) : qIf b k' := by
  unfold qIf at hk ⊢
  split at hk <;> first | exact h hk | exact hk.elim
theorem qIn_mono {ph : Bool} {a : Nat} {M : qM} {k k' : Prop} (h : k → k') (hk : qIn ph a M k) : qIn ph a M k' := by
  unfold qIn at hk ⊢
  split at hk <;> first | exact h hk | exact ⟨hk.1, h hk.2⟩
theorem qTake_mono : ∀ (n : Nat) (acc st : List Value) {k k' : List Value → List Value → Prop}, (∀ a b, k a b → k' a b) → qTake n acc st k → qTake n acc st k' := by
  intro n
  induction n with
  | zero => intro acc st k k' h hk; exact h _ _ hk
  | succ n ih =>
    intro acc st k k' h hk
    cases st with
    | nil => exact hk.elim
    | cons v r => exact ih _ _ h hk
theorem qTabs_mono {x : Int32} {X X' : Nat → Prop} (h : ∀ t, X t → X' t) : ∀ (ts : List Int) (lo : Int), qTabs x X lo ts → qTabs x X' lo ts := by
  intro ts
  induction ts with
  | nil => intro lo _; exact trivial
  | cons t r ih => intro lo hk; exact ⟨fun e => h _ (hk.1 e), ih _ hk.2⟩
theorem qLks_mono {x : Int32} {X X' : Nat → Prop} {d : Int} (h : ∀ t, X t → X' t) : ∀ ps : List (Int × Int), qLks x X d ps → qLks x X' d ps := by
  intro ps
  induction ps with
  | nil => intro hk; exact h _ hk
  | cons q r ih =>
    obtain ⟨k, t⟩ := q
    intro hk
    exact ⟨fun e => h _ (hk.1 e), fun e => ih (hk.2 e)⟩
theorem qPhCall_mono {T T' : qT} {M : qM} {k k' : Prop} (h : k → k') (hk : qPhCall T T' M k) : qPhCall T T' M k' := by
  unfold qPhCall at hk ⊢
  split at hk <;> first | exact ⟨hk.1, h hk.2⟩ | exact h hk
theorem qPhBack_mono {T T' : qT} {M : qM} {k k' : Prop} (h : k → k') (hk : qPhBack T T' M k) : qPhBack T T' M k' := by
  unfold qPhBack at hk ⊢
  split at hk <;> first | exact ⟨hk.1, h hk.2⟩ | exact h hk
theorem qMake_mono {T' : qT} {m : Nat} {ls : List (Nat × Value)} {st : List Value} {k k' : Prop} (h : k → k') (hk : qMake T' m ls st k) : qMake T' m ls st k' := by
  unfold qMake at hk ⊢
  split at hk <;> first | exact h hk | exact ⟨hk.1, h hk.2⟩
def qCM (cs : qC) : Prop := ∀ (j : Nat) (as : List Value) (M : qM) (K K' : qP), (∀ v M, K v M → K' v M) → cs j as M K → cs j as M K'
theorem qCall_mono {T : qT} {cs : qC} (hc : qCM cs) {j : Nat} {as : List Value} {ls : List (Nat × Value)} {rest : List Value} {M : qM} {uc us : Nat} {X X' : List Value → Nat → Nat → qM → Prop} (h : ∀ a b c d, X a b c d → X' a b c d) (hk : qCall T cs j as ls rest M uc us X) : qCall T cs j as ls rest M uc us X' := by
  unfold qCall at hk ⊢
  exact qIf_mono (qMake_mono (qPhCall_mono (fun z => ⟨z.1, hc _ _ _ _ _ (fun v M h2 => qPhBack_mono (h _ _ _ _) h2) z.2⟩))) hk
theorem qMath_mono {j : Nat} {st : List Value} {k k' : Int32 → List Value → Prop} (h : ∀ x r, k x r → k' x r) (hk : qMath j st k) : qMath j st k' := by
  unfold qMath at hk ⊢
  split at hk
  · exact qI1_mono (fun _ _ => qIf_mono (h _ _)) hk
  · split at hk
    · exact qI2_mono (fun _ _ _ => qIf_mono (h _ _)) hk
    · split at hk
      · exact qI2_mono (fun _ _ _ => qIf_mono (h _ _)) hk
      · exact hk.elim
set_option maxHeartbeats 4000000 in
theorem qStep_mono {T : qT} {cs : qC} {Q Q' : qP} {X X' : qX} (hc : qCM cs) (hQ : ∀ v M, Q v M → Q' v M) (hX : ∀ pc ls st uc us M, X pc ls st uc us M → X' pc ls st uc us M) {pc : Nat} {ls : List (Nat × Value)} {st : List Value} {uc us : Nat} {M : qM}
    (h : qStep T cs Q X pc ls st uc us M) : qStep T cs Q' X' pc ls st uc us M := by
  unfold qStep at h ⊢
  cases hq : qFindB (qBl T) pc with
  | none => rw [hq] at h; exact h.elim
  | some il =>
    obtain ⟨ins, len⟩ := il
    rw [hq] at h
    dsimp only at h ⊢
    have hX1 : ∀ {pc ls st uc us M}, X pc ls st uc us M → X' pc ls st uc us M := fun h => hX _ _ _ _ _ _ h
    cases ins with
    | dup => cases st with
      | nil => exact h.elim
      | cons v r => exact qIf_mono hX1 h
    | pop => cases st with
      | nil => exact h.elim
      | cons v r => exact qIf_mono hX1 h
    | ifCond cd t => cases cd <;> exact qI1_mono (fun _ _ z => ⟨fun e => hX1 (z.1 e), fun e => hX1 (z.2 e)⟩) h
    | if_icmp cd t => cases cd <;> exact qI2_mono (fun _ _ _ z => ⟨fun e => hX1 (z.1 e), fun e => hX1 (z.2 e)⟩) h
    | astore k => exact qAn_mono (fun _ => hX1) (fun _ _ => hX1) h
    | astore_n k => exact qAn_mono (fun _ => hX1) (fun _ _ => hX1) h
    | ifnull t => exact qAn_mono (fun _ => hX1) (fun _ _ => hX1) h
    | ifnonnull t => exact qAn_mono (fun _ => hX1) (fun _ _ => hX1) h
    | tableswitch a b c2 d2 => exact qI1_mono (fun _ _ z => ⟨fun e => hX1 (z.1 e), qTabs_mono (fun _ => hX1) _ _ z.2⟩) h
    | lookupswitch a b => exact qI1_mono (fun _ _ z => qLks_mono (fun _ => hX1) _ z) h
    | idiv => exact qI2_mono (fun _ _ _ z => ⟨z.1, hX1 z.2⟩) h
    | ldiv => exact qL2_mono (fun _ _ _ z => ⟨z.1, hX1 z.2⟩) h
    | lrem => exact qL2_mono (fun _ _ _ z => ⟨z.1, hX1 z.2⟩) h
    | getfield k =>
      refine qA1_mono (fun _ _ => qIs_mono (qIn_mono fun z => ?_)) h
      split at z
      · split at z
        · exact hX1 z
        · obtain ⟨v, hv, z⟩ := z; exact ⟨v, hv, hX1 z⟩
      · exact hX1 z
    | putfield k =>
      dsimp only at h ⊢
      split at h
      · exact qVA_mono (fun _ _ _ => qIs_mono (qIn_mono (qIf_mono fun z => ⟨z.1, hX1 z.2⟩))) h
      · exact qIA_mono (fun _ _ _ => qIs_mono (qIn_mono fun z => ⟨z.1, hX1 z.2⟩)) h
      · exact qIA_mono (fun _ _ _ => qIs_mono (qIn_mono hX1)) h
    | arraylength =>
      refine qA1_mono (fun _ _ z => ?_) h
      split at z
      · exact hX1 z
      · exact qIf_mono (qIn_mono hX1) z
    | iaload =>
      refine qAI_mono (fun _ _ _ z => ?_) h
      split at z
      · exact ⟨z.1, hX1 z.2⟩
      · exact qIs_mono (qIn_mono fun z => ⟨z.1, hX1 z.2⟩) z
    | baload =>
      refine qAI_mono (fun _ _ _ z => ?_) h
      split at z
      · exact qIn_mono (fun z => ⟨z.1, hX1 z.2⟩) z
      · exact qIs_mono (qIn_mono fun z => ⟨z.1, hX1 z.2⟩) z
    | laload => exact qAI_mono (fun _ _ _ => qIs_mono (qIn_mono fun z => ⟨z.1, hX1 z.2⟩)) h
    | aaload => exact qAI_mono (fun _ _ _ => qIs_mono (qIn_mono fun z => ⟨z.1, z.2.elim fun v w => ⟨v, w.1, hX1 w.2⟩⟩)) h
    | iastore => exact qAII_mono (fun _ _ _ _ => qIs_mono (qIn_mono fun z => ⟨z.1, hX1 z.2⟩)) h
    | bastore =>
      refine qAII_mono (fun _ _ _ _ z => ?_) h
      split at z
      · exact qIn_mono (fun z => ⟨z.1, hX1 z.2⟩) z
      · exact qIs_mono (qIn_mono fun z => ⟨z.1, hX1 z.2⟩) z
    | lastore => exact qAIL_mono (fun _ _ _ _ => qIs_mono (qIn_mono fun z => ⟨z.1, hX1 z.2⟩)) h
    | aastore => exact qAIA_mono (fun _ _ _ _ => qIs_mono (qIn_mono fun z => ⟨z.1, z.2.1, hX1 z.2.2⟩)) h
    | new c => exact qIf_mono (qIs_mono fun z => ⟨z.1, hX1 z.2⟩) h
    | newarray ty => exact qIf_mono (qI1_mono fun _ _ => qIs_mono fun z => ⟨z.1, hX1 z.2⟩) h
    | anewarray k => exact qIf_mono (qI1_mono fun _ _ => qIs_mono fun z => ⟨z.1, hX1 z.2⟩) h
    | invokevirtual j => exact qTake_mono _ _ _ (fun _ _ => qA1_mono fun _ _ => qIs_mono (qIn_mono (qCall_mono hc fun _ _ _ _ => hX1))) h
    | invokestatic j =>
      dsimp only at h ⊢
      split at h
      · exact qCp_mono (fun _ _ _ _ _ _ => qIs_mono (qIs_mono (qIn_mono (qIn_mono (qIf_mono fun z => ⟨z.1, hX1 z.2⟩))))) h
      · split at h
        · exact qMath_mono (fun _ _ => hX1) h
        · exact qTake_mono _ _ _ (fun _ _ => qCall_mono hc fun _ _ _ _ => hX1) h
    | invokespecial j =>
      dsimp only at h ⊢
      split at h
      · exact qA1_mono (fun _ _ => qIf_mono hX1) h
      · exact qTake_mono _ _ _ (fun _ _ => qA1_mono fun _ _ => qCall_mono hc fun _ _ _ _ => hX1) h
    | ireturn =>
      dsimp only at h ⊢
      split at h
      · split at h
        · exact hQ _ _ h
        · exact ⟨h.1, hQ _ _ h.2⟩
        · exact h.elim
      · exact h.elim
    | lreturn =>
      dsimp only at h ⊢
      split at h
      · exact hQ _ _ h
      · exact h.elim
    | areturn =>
      dsimp only at h ⊢
      split at h
      · exact hQ _ _ h
      · exact hQ _ _ h
      · exact h.elim
    | return_ =>
      dsimp only at h ⊢
      split at h
      · exact hQ _ _ h
      · exact h.elim
    | _ => first
      | exact hX1 h
      | exact qI1_mono (fun _ _ => hX1) h
      | exact qI2_mono (fun _ _ _ => hX1) h
      | exact qL1_mono (fun _ _ => hX1) h
      | exact qL2_mono (fun _ _ _ => hX1) h
      | exact qLI_mono (fun _ _ _ => hX1) h
      | exact qLdI_mono (fun _ => hX1) h
      | exact qLdL_mono (fun _ => hX1) h
      | exact qLdA_mono (fun _ => hX1) h
      | exact h.elim
theorem qRun_mono {T : qT} {cs : qC} {Q Q' : qP} {X X' : qX} (hc : qCM cs) (hQ : ∀ v M, Q v M → Q' v M) (hX : ∀ pc ls st uc us M, X pc ls st uc us M → X' pc ls st uc us M) (cuts : List Nat) : ∀ (n pc : Nat) (ls : List (Nat × Value)) (st : List Value) (uc us : Nat) (M : qM), qRun T cs Q X cuts n pc ls st uc us M → qRun T cs Q' X' cuts n pc ls st uc us M := by
  intro n
  induction n with
  | zero => exact hX
  | succ n ih =>
    intro pc ls st uc us M h
    refine qStep_mono hc hQ (fun pc ls st uc us M z => ?_) h

    split at z
    · exact hX _ _ _ _ _ _ z
    · exact ih _ _ _ _ _ _ z
/-- FOLD: some steps, then such places -/
theorem qJ_run {T : qT} {cs : qC} {Q : qP} (hc : qCM cs) (cuts : List Nat) (n : Nat) {pc : Nat} {ls : List (Nat × Value)} {st : List Value} {uc us : Nat} {M : qM} (h : qRun T cs Q (qJ T cs Q) cuts (n + 1) pc ls st uc us M) : qJ T cs Q pc ls st uc us M :=
  fun X hX => hX cuts n _ _ _ _ _ _ (qRun_mono hc (fun _ _ z => z) (fun _ _ _ _ _ _ z => z X hX) cuts _ _ _ _ _ _ _ h)
theorem qJ_mono {T : qT} {cs : qC} {Q Q' : qP} (hc : qCM cs) (hQ : ∀ v M, Q v M → Q' v M) {pc : Nat} {ls : List (Nat × Value)} {st : List Value} {uc us : Nat} {M : qM} (h : qJ T cs Q pc ls st uc us M) : qJ T cs Q' pc ls st uc us M :=
  fun X hX => h X fun cuts n _ _ _ _ _ _ z => hX cuts n _ _ _ _ _ _ (qRun_mono hc hQ (fun _ _ _ _ _ _ w => w) cuts _ _ _ _ _ _ _ z)
theorem qWP_mono : ∀ d : Nat, qCM (qWP d) := by
  intro d
  induction d with
  | zero => intro j as M K K' _ h; exact h.elim
  | succ d ih => intro j as M K K' hK h; exact ⟨h.1, h.2.1, qJ_mono ih hK h.2.2⟩
/-- the start of a method -/
theorem qWP_of {d j : Nat} {as : List Value} {M : qM} {Q : qP} (T : qT) (hT : qAll[j]? = some T) (hc : Nat.ble (qCat as) (qLo T) = true) (ls : List (Nat × Value)) (hls : lv_args 0 as = ls) (h : qJ T (qWP d) Q 0 ls [] 0 0 M) : qWP (d + 1) j as M Q := by
  have hj : j < qAll.length := (List.getElem?_eq_some_iff.mp hT).1
  have e : qTab j = T := by simp [qTab, List.getD_eq_getElem?_getD, hT]
  refine ⟨hj, by rw [e]; exact hc, ?_⟩
  rw [e, hls]
  exact h
end
section
/-! WHAT CLASS AND REFERENCE HAVE IN COMMON BETWEEN CALLS. The class's cells are 2 .. 64 and from 96 on, the reference's 65 .. 95. -/
/-- stones: how many, lines, places -/
def RSt (n n' : Int32) (l p l' p' : Nat → Int32) : Prop := n' = n ∧ 0 ≤ n ∧ n ≤ 12 ∧ ∀ x : Int32, 0 ≤ x → x < n → l' x.toNatClampNeg = l x.toNatClampNeg ∧ 1 ≤ l x.toNatClampNeg ∧ l x.toNatClampNeg ≤ 4 ∧ p' x.toNatClampNeg = p x.toNatClampNeg ∧ 1 ≤ p x.toNatClampNeg ∧ p x.toNatClampNeg ≤ 24
/-- hands: how many, ranks -/
def RHa (n n' : Int32) (r r' : Nat → Int32) : Prop := n' = n ∧ 0 ≤ n ∧ n ≤ 6 ∧ ∀ x : Int32, 0 ≤ x → x < n → r' x.toNatClampNeg = r x.toNatClampNeg ∧ 0 ≤ r x.toNatClampNeg ∧ r x.toNatClampNeg ≤ 9
/-- one reading: packed, and as kind (one above) and may -/
def rd1 (t k y : Int32) : Prop := (t = 0 ∧ k = 0) ∨ (1 ≤ k ∧ k ≤ 6 ∧ 0 ≤ y ∧ y ≤ 134217727 ∧ t = k * 134217728 + y ∧ ((k = 1 ∨ k = 2 ∨ k = 6) → ∃ v : Int32, 0 ≤ v ∧ v < 27 ∧ y = 1 <<< v))
def RTo (t k y : Nat → Int32) : Prop := ∀ x : Nat, x < 6912 → rd1 (t x) (k x) (y x)
/-- the tape -/
def RTp (n n' : Int32) (b b' : Nat → Int32) : Prop := n' = n ∧ 0 ≤ n ∧ n ≤ 200 ∧ ∀ x : Int32, 0 ≤ x → x < n → b' x.toNatClampNeg = b x.toNatClampNeg &&& 255 ∧ 0 ≤ b' x.toNatClampNeg ∧ b' x.toNatClampNeg ≤ 255
/-- edges and joins: a mark's place is one in both; neighbours 2s, 2s+1 are left, right of s -/
def REd (n : Int32) (l : Nat → Int32) (tl tl' : Int32) (mk mk' nb rt lf : Nat → Int32) : Prop :=
  tl' = tl ∧ 0 ≤ tl ∧ tl ≤ 3 ∧ (∀ j : Nat, j < 96 → mk' j = mk j ∧ 0 ≤ mk j ∧ mk j ≤ 9) ∧
  (∀ x : Int32, 0 ≤ x → x < n → nb (x * 2).toNatClampNeg = lf x.toNatClampNeg ∧ nb (x * 2 + 1).toNatClampNeg = rt x.toNatClampNeg ∧ -1 ≤ lf x.toNatClampNeg ∧ lf x.toNatClampNeg < n ∧ -1 ≤ rt x.toNatClampNeg ∧ rt x.toNatClampNeg < n ∧
    (0 ≤ rt x.toNatClampNeg → lf (rt x.toNatClampNeg).toNatClampNeg = x ∧ l (rt x.toNatClampNeg).toNatClampNeg = l x.toNatClampNeg) ∧ (0 ≤ lf x.toNatClampNeg → rt (lf x.toNatClampNeg).toNatClampNeg = x)) ∧
  (∀ x : Int32, n ≤ x → x < 12 → nb (x * 2).toNatClampNeg = -1 ∧ nb (x * 2 + 1).toNatClampNeg = -1) ∧
  ∃ ch : Nat → Nat, ∀ x : Int32, 0 ≤ x → x < n → 0 ≤ rt x.toNatClampNeg → ch x.toNatClampNeg = ch (rt x.toNatClampNeg).toNatClampNeg + 1
/-- years and bounds -/
def RDa (n b b' : Int32) (ls ms ls' ms' ba bb bd ba' bb' bd' : Nat → Int32) : Prop :=
  b' = b ∧ 0 ≤ b ∧ b ≤ 20 ∧ (∀ x : Int32, 0 ≤ x → x < n → ls' x.toNatClampNeg = ls x.toNatClampNeg ∧ ms' x.toNatClampNeg = ms x.toNatClampNeg ∧ -999 ≤ ls x.toNatClampNeg ∧ ls x.toNatClampNeg ≤ ms x.toNatClampNeg ∧ ms x.toNatClampNeg ≤ 999) ∧
  (∀ x : Int32, n ≤ x → x < 12 → ls x.toNatClampNeg = -999 ∧ ms x.toNatClampNeg = 999) ∧
  (∀ x : Int32, 0 ≤ x → x < b → ba' x.toNatClampNeg = ba x.toNatClampNeg ∧ bb' x.toNatClampNeg = bb x.toNatClampNeg ∧ bd' x.toNatClampNeg = bd x.toNatClampNeg ∧ 0 ≤ ba x.toNatClampNeg ∧ ba x.toNatClampNeg < n ∧ 0 ≤ bb x.toNatClampNeg ∧ bb x.toNatClampNeg < n ∧ -200 ≤ bd x.toNatClampNeg ∧ bd x.toNatClampNeg ≤ 200)
/-- persons -/
def RPe (n p p' : Int32) (nm fa nm' fa' : Nat → Int64) (st st' : Nat → Int32) : Prop :=
  p' = p ∧ 0 ≤ p ∧ p ≤ 12 ∧ ∀ x : Int32, 0 ≤ x → x < p → nm' x.toNatClampNeg = nm x.toNatClampNeg ∧ fa' x.toNatClampNeg = fa x.toNatClampNeg ∧ ¬ nm x.toNatClampNeg = 0 ∧ st' x.toNatClampNeg = st x.toNatClampNeg ∧ 0 ≤ st x.toNatClampNeg ∧ st x.toNatClampNeg < n
/-- trays -/
def RTr (sz sz' by_ by_' : Nat → Int32) : Prop :=
  (∀ x : Int32, 0 ≤ x → x < 4 → sz' x.toNatClampNeg = sz x.toNatClampNeg ∧ -1 ≤ sz x.toNatClampNeg ∧ sz x.toNatClampNeg ≤ 40) ∧ ∀ j : Nat, j < 160 → by_' j = by_ j &&& 255 ∧ 0 ≤ by_' j ∧ by_' j ≤ 255
/-- a text: two longs of twelve letters of five bits, and a size with its letters -/
def tx5 (h : Int64) (k : Nat) : Nat := (h.toInt.toNat / 2 ^ (5 * (11 - k))) % 32
def txt1 (h t : Int64) (sz : Int32) (le : Nat → Int32) : Prop :=
  0 ≤ h ∧ h.toInt < 2 ^ 60 ∧ 0 ≤ t ∧ t.toInt < 2 ^ 60 ∧ 0 ≤ sz ∧ sz ≤ 24 ∧ ∀ k : Nat, k < 24 → (if k < 12 then tx5 h k else tx5 t (k - 12)) = (if nI k < sz then (le k).toInt.toNat + 1 else 0) ∧ (nI k < sz → 0 ≤ le k ∧ le k ≤ 26)
/-- formulas and their texts -/
def RTx (z : Nat) (N : Nat → Nat) (I : Nat → Nat → Int32) (L : Nat → Nat → Int64) (R : Nat → Nat → Option Nat) : Prop :=
  I 65 2 = I 2 5 ∧ 0 ≤ I 2 5 ∧ I 2 5 ≤ 8 ∧ z = 94 + 2 * (I 2 5).toNatClampNeg ∧
  ∀ f : Nat, f < (I 2 5).toNatClampNeg → R 39 f = some (96 + 2 * f) ∧ I 76 f = I (96 + 2 * f) 1 ∧ 0 ≤ I 76 f ∧ I 76 f ≤ 200 ∧ N (97 + 2 * f) = 2 * (I 76 f).toNatClampNeg ∧
    ∀ i : Nat, i < (I 76 f).toNatClampNeg → txt1 (L (97 + 2 * f) (2 * i)) (L (97 + 2 * f) (2 * i + 1)) (I 75 (200 * f + i)) (fun k => I 74 (24 * (200 * f + i) + k))
/-- the maker's sets: five rows and the spare one in some order, five alls, the word's -/
def RMk (N : Nat → Nat) (R : Nat → Nat → Option Nat) : Prop :=
  (∀ i : Nat, i < 5 → R 13 i = some (21 + 4 * i)) ∧ (∃ g : Nat → Nat, (∀ i : Nat, i < 5 → R 12 i = some (g i)) ∧ R 11 4 = some (g 5) ∧ (∀ i, i < 6 → g i ∈ [17, 19, 23, 27, 31, 35]) ∧ ∀ i j, i < 6 → j < 6 → g i = g j → i = j) ∧
  N 16 = 2 ∧ ∀ k ∈ [17, 19, 23, 27, 31, 35, 21, 25, 29, 33, 37], N (k + 1) = 400
def qInv (M : qM) : Prop :=
  qStat M ∧ RSt (M.2.2.1 3 2) (M.2.2.1 65 0) (M.2.2.1 4) (M.2.2.1 5) (M.2.2.1 66) (M.2.2.1 67) ∧ RHa (M.2.2.1 6 2) (M.2.2.1 65 1) (M.2.2.1 7) (M.2.2.1 68) ∧ RTo (M.2.2.1 8) (M.2.2.1 70) (M.2.2.1 71) ∧ RTp (M.2.2.1 9 1) (M.2.2.1 65 6) (M.2.2.1 10) (M.2.2.1 69) ∧
  REd (M.2.2.1 3 2) (M.2.2.1 4) (M.2.2.1 43 3) (M.2.2.1 65 5) (M.2.2.1 44) (M.2.2.1 77) (M.2.2.1 45) (M.2.2.1 78) (M.2.2.1 79) ∧
  RDa (M.2.2.1 3 2) (M.2.2.1 46 7) (M.2.2.1 65 4) (M.2.2.1 47) (M.2.2.1 48) (M.2.2.1 80) (M.2.2.1 81) (M.2.2.1 51) (M.2.2.1 52) (M.2.2.1 53) (M.2.2.1 84) (M.2.2.1 85) (M.2.2.1 86) ∧
  RPe (M.2.2.1 3 2) (M.2.2.1 54 5) (M.2.2.1 65 3) (M.2.2.2.1 55) (M.2.2.2.1 56) (M.2.2.2.1 87) (M.2.2.2.1 88) (M.2.2.1 57) (M.2.2.1 89) ∧
  RTr (M.2.2.1 64) (M.2.2.1 94) (M.2.2.1 63) (M.2.2.1 95) ∧ RTx M.1 M.2.1 M.2.2.1 M.2.2.2.1 M.2.2.2.2 ∧ RMk M.2.1 M.2.2.2.2 ∧ M.2.2.1 1 = qKA
/-- a call of the class, then the same of the reference: both answer alike, and what they have in common holds again -/
def qOp (j1 j2 : Nat) (as : List Value) (M : qM) : Prop :=
  qWP 30 j1 (.ref 2 :: as) M (fun v M1 => ∃ r : Int32, v = some (.int r) ∧ (M1.2.2.1 0 = M.2.2.1 0 ∧ M1.2.1 0 = M.2.1 0 ∧ qStat M1) ∧ qWP 30 j2 (.ref 65 :: as) M1 (fun v2 M2 => v2 = some (.int r) ∧ (M2.2.2.1 0 = M.2.2.1 0 ∧ M2.2.1 0 = M.2.1 0) ∧ qInv M2))
end
section
theorem fa_lt (a b : Int32) : a < b ↔ a.toInt < b.toInt := Int32.lt_iff_toInt_lt
theorem fa_le (a b : Int32) : a ≤ b ↔ a.toInt ≤ b.toInt := Int32.le_iff_toInt_le
end
section
/-! rows of the memory, and loops that count up -/
def uI {α : Type} (f : Nat → α) (j : Nat) (v : α) : Nat → α := fun i => if i = j then v else f i
theorem uI_at {α : Type} {f : Nat → α} {j : Nat} {v : α} : uI f j v j = v := by simp [uI]
theorem uI_nj {α : Type} {f : Nat → α} {j i : Nat} {v : α} (h : i ≠ j) : uI f j v i = f i := by simp [uI, h]
theorem uI_if {α : Type} {f : Nat → α} {j i : Nat} {v : α} : uI f j v i = if i = j then v else f i := rfl
theorem q2_r1 {α : Type} {f : Nat → Nat → α} {a j : Nat} {v : α} : q2 f a j v a = uI (f a) j v := by
  funext i; simp [q2, uI]
theorem q2_qRow {α : Type} {f : Nat → Nat → α} {a j : Nat} {g : Nat → α} {v : α} : q2 (qRow f a g) a j v = qRow f a (uI g j v) := by
  funext b i; by_cases h : b = a <;> simp [q2, uI, qRow, h]
theorem q2_qRow2 {α : Type} {f : Nat → Nat → α} {a b j : Nat} {g g' : Nat → α} {v : α} (h : a ≠ b) : q2 (qRow (qRow f a g) b g') a j v = qRow (qRow f a (uI g j v)) b g' := by
  funext c i
  by_cases hb : c = b
  · subst hb; simp [q2, qRow, Ne.symm h]
  · by_cases ha : c = a <;> simp [q2, uI, qRow, ha, hb, h]
theorem qRow_self {α : Type} {f : Nat → Nat → α} {a : Nat} : qRow f a (f a) = f := by
  funext b i; by_cases h : b = a <;> simp [qRow, h]
theorem qRow_qRow {α : Type} {f : Nat → Nat → α} {a : Nat} {g g' : Nat → α} : qRow (qRow f a g) a g' = qRow f a g' := by
  funext b i; by_cases h : b = a <;> simp [qRow, h]
theorem q2_q2 {α : Type} {f : Nat → Nat → α} {a j : Nat} {v : α} : q2 f a j v = qRow f a (uI (f a) j v) := by
  funext b i; by_cases h : b = a <;> simp [q2, uI, qRow, h]
/-- how far it is from k up to n -/
def dn (n k : Int32) : Nat := (n.toInt - k.toInt).toNat
theorem s1 {n k : Int32} (h : k < n) : (k + 1).toInt = k.toInt + 1 := by
  have h1 := Int32.lt_iff_toInt_lt.mp h
  have h2 := Int32.toInt_lt n
  have h3 := Int32.le_toInt k
  rw [Int32.toInt_add, show (1 : Int32).toInt = 1 from rfl]
  exact Int.bmod_eq_of_le (by omega) (by omega)
theorem dn_s {n k : Int32} (h : k < n) : dn n k = dn n (k + 1) + 1 := by
  have h1 := Int32.lt_iff_toInt_lt.mp h
  unfold dn
  rw [s1 h]
  omega
theorem up_ind (n : Int32) {P : Int32 → Prop} (hs : ∀ k, (k < n → P (k + 1)) → P k) (k : Int32) : P k := by
  have h : ∀ (m : Nat) (k : Int32), dn n k ≤ m → P k := by
    intro m
    induction m with
    | zero => exact fun k hk => hs k fun hl => by rw [dn_s hl] at hk; omega
    | succ m ih => exact fun k hk => hs k fun hl => ih _ (by rw [dn_s hl] at hk; omega)
  exact h _ k (Nat.le_refl _)
def upR {σ α : Type} (g : Int32 → σ → Sum σ α) (e : σ → α) : Nat → Int32 → σ → α
  | 0, _, x => e x
  | m + 1, k, x => match g k x with
    | .inl y => upR g e m (k + 1) y
    | .inr a => a
/-- a loop from k up to n, that may end early -/
def upS {σ α : Type} (n : Int32) (g : Int32 → σ → Sum σ α) (e : σ → α) (k : Int32) (x : σ) : α := upR g e (dn n k) k x
theorem dn_0 {n k : Int32} (h : ¬ k < n) : dn n k = 0 := by
  have h1 : ¬ k.toInt < n.toInt := fun h2 => h (Int32.lt_iff_toInt_lt.mpr h2)
  unfold dn
  omega
theorem upS_ge {σ α : Type} {n : Int32} {g : Int32 → σ → Sum σ α} {e : σ → α} {k : Int32} {x : σ} (h : ¬ k < n) : upS n g e k x = e x := by
  unfold upS
  rw [dn_0 h]
  rfl
theorem upS_on {σ α : Type} {n : Int32} {g : Int32 → σ → Sum σ α} {e : σ → α} {k : Int32} {x y : σ} (h : k < n) (hg : g k x = .inl y) : upS n g e k x = upS n g e (k + 1) y := by
  unfold upS
  rw [dn_s h]
  simp only [upR, hg]
theorem upS_out {σ α : Type} {n : Int32} {g : Int32 → σ → Sum σ α} {e : σ → α} {k : Int32} {x : σ} {a : α} (h : k < n) (hg : g k x = .inr a) : upS n g e k x = a := by
  unfold upS
  rw [dn_s h]
  simp only [upR, hg]
/-- a loop from k up to n to its end -/
def upF {σ : Type} (n : Int32) (g : Int32 → σ → σ) (k : Int32) (x : σ) : σ := upS n (fun k x => (.inl (g k x) : Sum σ σ)) id k x
theorem upF_ge {σ : Type} {n : Int32} {g : Int32 → σ → σ} {k : Int32} {x : σ} (h : ¬ k < n) : upF n g k x = x := upS_ge h
theorem upF_on {σ : Type} {n : Int32} {g : Int32 → σ → σ} {k : Int32} {x : σ} (h : k < n) : upF n g k x = upF n g (k + 1) (g k x) := upS_on h rfl
/-- two loops, side by side -/
theorem upS_rel {σ τ α β : Type} {n : Int32} {g : Int32 → σ → Sum σ α} {e : σ → α} {g' : Int32 → τ → Sum τ β} {e' : τ → β} (P : Int32 → σ → τ → Prop) (E : α → β → Prop)
    (he : ∀ k x y, ¬ k < n → P k x y → E (e x) (e' y))
    (hg : ∀ k x y, k < n → P k x y → match g k x, g' k y with
      | .inl x', .inl y' => P (k + 1) x' y'
      | .inr a, .inr b => E a b
      | .inl x', .inr b => ∀ m, (∀ a, a = upS n g e m x' → m = k + 1 → E a b)
      | .inr a, .inl y' => ∀ m, (∀ b, b = upS n g' e' m y' → m = k + 1 → E a b)) (k : Int32) : ∀ x y, P k x y → E (upS n g e k x) (upS n g' e' k y) := by
  refine up_ind n (P := fun k => ∀ x y, P k x y → E (upS n g e k x) (upS n g' e' k y)) (fun k ih x y h => ?_) k
  by_cases hk : k < n
  · have h1 := hg k x y hk h
    cases h2 : g k x with
    | inl x' => cases h3 : g' k y with
      | inl y' =>
        rw [h2, h3] at h1
        rw [upS_on hk h2, upS_on hk h3]
        exact ih hk _ _ h1
      | inr b =>
        rw [h2, h3] at h1
        rw [upS_on hk h2, upS_out hk h3]
        exact h1 _ _ rfl rfl
    | inr a => cases h3 : g' k y with
      | inl y' =>
        rw [h2, h3] at h1
        rw [upS_out hk h2, upS_on hk h3]
        exact h1 _ _ rfl rfl
      | inr b =>
        rw [h2, h3] at h1
        rw [upS_out hk h2, upS_out hk h3]
        exact h1
  · rw [upS_ge hk, upS_ge hk]
    exact he k x y hk h
end
section
/-! THE ORDER OF THE LOCALS DOES NOT MATTER -/
abbrev qLv : Type := List (Nat × Value)
theorem qRm1_eq (k : Nat) : ∀ ls : qLv, qRm1 k ls = ls.filter fun p => !(Nat.beq p.1 k || (Nat.beq (p.1 + 1) k && qC2 p.2)) := by
  intro ls
  induction ls with
  | nil => rfl
  | cons a r ih =>
    obtain ⟨i, v⟩ := a
    simp only [qRm1, List.filter_cons, ih]
    cases (Nat.beq i k || (Nat.beq (i + 1) k && qC2 v)) <;> rfl
theorem qRm2_eq (k : Nat) : ∀ ls : qLv, qRm2 k ls = ls.filter fun p => !(Nat.beq p.1 k || (Nat.beq p.1 (k + 1) || (Nat.beq (p.1 + 1) k && qC2 p.2))) := by
  intro ls
  induction ls with
  | nil => rfl
  | cons a r ih =>
    obtain ⟨i, v⟩ := a
    simp only [qRm2, List.filter_cons, ih]
    cases (Nat.beq i k || (Nat.beq i (k + 1) || (Nat.beq (i + 1) k && qC2 v))) <;> rfl
def qNr (v : Value) : Bool := match v with
  | .ref _ => false
  | _ => true
/-- the second has all that the first has, and beside it no references -/
def qPm (ls ls' : qLv) : Prop := (∀ p, p ∈ ls → p ∈ ls') ∧ (ls'.map Prod.fst).Nodup ∧ ∀ p, p ∈ ls' → p ∈ ls ∨ qNr p.2 = true
theorem qLk_in : ∀ (ls : qLv) (k : Nat) (v : Value), qLk ls k = some v → (k, v) ∈ ls := by
  intro ls
  induction ls with
  | nil => intro k v h; exact absurd h (by simp [qLk])
  | cons a r ih =>
    intro k v h
    obtain ⟨i, w⟩ := a
    simp only [qLk] at h
    cases h2 : Nat.beq i k with
    | true =>
      rw [h2] at h
      simp only [cond_true, Option.some.injEq] at h
      rw [Nat.eq_of_beq_eq_true h2, h]
      exact List.mem_cons_self
    | false =>
      rw [h2] at h
      exact List.mem_cons_of_mem _ (ih k v h)
theorem qLk_iff : ∀ (ls : qLv), (ls.map Prod.fst).Nodup → ∀ (k : Nat) (v : Value), qLk ls k = some v ↔ (k, v) ∈ ls := by
  intro ls
  induction ls with
  | nil => intro _ k v; simp [qLk]
  | cons a r ih =>
    intro hn k v
    obtain ⟨i, w⟩ := a
    simp only [List.map_cons, List.nodup_cons] at hn
    simp only [qLk, List.mem_cons, Prod.mk.injEq]
    cases h : Nat.beq i k with
    | true =>
      have e := Nat.eq_of_beq_eq_true h
      subst e
      simp only [cond_true, Option.some.injEq]
      constructor
      · intro h2; exact Or.inl ⟨trivial, h2.symm⟩
      · intro h2
        rcases h2 with h2 | h2
        · exact h2.2.symm
        · exact absurd (List.mem_map.mpr ⟨_, h2, rfl⟩) hn.1
    | false =>
      have e : ¬ k = i := fun e => by rw [e] at h; exact absurd h (by simp)
      simp only [cond_false, ih hn.2]
      constructor
      · exact Or.inr
      · intro h2
        rcases h2 with h2 | h2
        · exact absurd h2.1 e
        · exact h2
theorem qPm_lk {ls ls' : qLv} (h : qPm ls ls') (k : Nat) (v : Value) (e : qLk ls k = some v) : qLk ls' k = some v := (qLk_iff _ h.2.1 k v).mpr (h.1 _ (qLk_in _ _ _ e))
theorem qPm_fil {ls ls' : qLv} (h : qPm ls ls') (f : Nat × Value → Bool) : qPm (ls.filter f) (ls'.filter f) := by
  refine ⟨fun p hp => ?_, h.2.1.sublist (List.filter_sublist.map Prod.fst), fun p hp => ?_⟩
  · rw [List.mem_filter] at hp ⊢
    exact ⟨h.1 p hp.1, hp.2⟩
  · rw [List.mem_filter] at hp
    rcases h.2.2 p hp.1 with h1 | h1
    · exact Or.inl (List.mem_filter.mpr ⟨h1, hp.2⟩)
    · exact Or.inr h1
theorem qPm_cons {ls ls' : qLv} (h : qPm ls ls') (k : Nat) (v : Value) (hk : ∀ p ∈ ls', p.1 ≠ k) : qPm ((k, v) :: ls) ((k, v) :: ls') := by
  refine ⟨fun p hp => ?_, ?_, fun p hp => ?_⟩
  · rcases List.mem_cons.mp hp with h1 | h1
    · exact h1 ▸ List.mem_cons_self
    · exact List.mem_cons_of_mem _ (h.1 p h1)
  · simp only [List.map_cons, List.nodup_cons]
    refine ⟨fun hm => ?_, h.2.1⟩
    obtain ⟨p, h3, h4⟩ := List.mem_map.mp hm
    exact hk p h3 h4
  · rcases List.mem_cons.mp hp with h1 | h1
    · exact Or.inl (h1 ▸ List.mem_cons_self)
    · rcases h.2.2 p h1 with h2 | h2
      · exact Or.inl (List.mem_cons_of_mem _ h2)
      · exact Or.inr h2
theorem qPm_r1 {ls ls' : qLv} (h : qPm ls ls') (k : Nat) (v : Value) : qPm ((k, v) :: qRm1 k ls) ((k, v) :: qRm1 k ls') := by
  rw [qRm1_eq, qRm1_eq]
  refine qPm_cons (qPm_fil h _) k v fun p hp e => ?_
  have h5 := (List.mem_filter.mp hp).2
  subst e
  simp at h5
theorem qPm_r2 {ls ls' : qLv} (h : qPm ls ls') (k : Nat) (v : Value) : qPm ((k, v) :: qRm2 k ls) ((k, v) :: qRm2 k ls') := by
  rw [qRm2_eq, qRm2_eq]
  refine qPm_cons (qPm_fil h _) k v fun p hp e => ?_
  have h5 := (List.mem_filter.mp hp).2
  subst e
  simp at h5
theorem qRefs_iff (m : Nat) : ∀ l : List Value, qRefs m l ↔ ∀ a : Nat, Value.ref a ∈ l → a < m := by
  intro l
  induction l with
  | nil => simp [qRefs]
  | cons v r ih => cases v <;> simp [qRefs, ih]
theorem qPm_refs {ls ls' : qLv} (h : qPm ls ls') {m : Nat} (hr : qRefs m (ls.map Prod.snd)) : qRefs m (ls'.map Prod.snd) := by
  rw [qRefs_iff] at hr ⊢
  intro a ha
  obtain ⟨p, hp, e⟩ := List.mem_map.mp ha
  rcases h.2.2 p hp with h1 | h1
  · exact hr a (List.mem_map.mpr ⟨p, h1, e⟩)
  · rw [e] at h1; exact absurd h1 (by simp [qNr])
theorem qPm_make {ls ls' : qLv} (h : qPm ls ls') {T' : qT} {m : Nat} {st : List Value} {k k' : Prop} (hk : k → k') (z : qMake T' m ls st k) : qMake T' m ls' st k' := by
  unfold qMake at z ⊢
  split at z
  · exact hk z
  · exact ⟨⟨z.1.1, qPm_refs h z.1.2⟩, hk z.2⟩
theorem qPm_call {T : qT} {cs : qC} (hc : qCM cs) {j : Nat} {as : List Value} {ls ls' : qLv} (hp : qPm ls ls') {rest : List Value} {M : qM} {uc us : Nat} {X X' : List Value → Nat → Nat → qM → Prop} (h : ∀ a b c d, X a b c d → X' a b c d) (hk : qCall T cs j as ls rest M uc us X) : qCall T cs j as ls' rest M uc us X' := by
  unfold qCall at hk ⊢
  exact qIf_mono (qPm_make hp (qPhCall_mono (fun z => ⟨z.1, hc _ _ _ _ _ (fun v M h2 => qPhBack_mono (h _ _ _ _) h2) z.2⟩))) hk
theorem qPm_ldI {ls ls' : qLv} {k : Nat} (e : ∀ v, qLk ls k = some v → qLk ls' k = some v) {f g : Int32 → Prop} (h : ∀ x, f x → g x) (z : qLdI ls k f) : qLdI ls' k g := by
  unfold qLdI at z ⊢
  cases h1 : qLk ls k with
  | none => rw [h1] at z; exact z.elim
  | some v =>
    rw [h1] at z
    rw [e _ h1]
    cases v <;> first | exact h _ z | exact z.elim
theorem qPm_ldL {ls ls' : qLv} {k : Nat} (e : ∀ v, qLk ls k = some v → qLk ls' k = some v) {f g : Int64 → Prop} (h : ∀ x, f x → g x) (z : qLdL ls k f) : qLdL ls' k g := by
  unfold qLdL at z ⊢
  cases h1 : qLk ls k with
  | none => rw [h1] at z; exact z.elim
  | some v =>
    rw [h1] at z
    rw [e _ h1]
    cases v <;> first | exact h _ z | exact z.elim
theorem qPm_ldA {ls ls' : qLv} {k : Nat} (e : ∀ v, qLk ls k = some v → qLk ls' k = some v) {f g : Value → Prop} (h : ∀ x, f x → g x) (z : qLdA ls k f) : qLdA ls' k g := by
  unfold qLdA at z ⊢
  cases h1 : qLk ls k with
  | none => rw [h1] at z; exact z.elim
  | some v =>
    rw [h1] at z
    rw [e _ h1]
    cases v <;> first | exact h _ z | exact z.elim
set_option maxHeartbeats 4000000 in
theorem qStep_perm {T : qT} {cs : qC} {Q : qP} {X X' : qX} (hc : qCM cs) (hX : ∀ pc ls ls' st uc us M, qPm ls ls' → X pc ls st uc us M → X' pc ls' st uc us M) {pc : Nat} {ls ls' : qLv} (hp : qPm ls ls') {st : List Value} {uc us : Nat} {M : qM}
    (h : qStep T cs Q X pc ls st uc us M) : qStep T cs Q X' pc ls' st uc us M := by
  unfold qStep at h ⊢
  cases hq : qFindB (qBl T) pc with
  | none => rw [hq] at h; exact h.elim
  | some il =>
    obtain ⟨ins, len⟩ := il
    rw [hq] at h
    dsimp only at h ⊢
    have hX1 : ∀ {pc st uc us M}, X pc ls st uc us M → X' pc ls' st uc us M := fun h => hX _ _ _ _ _ _ _ hp h
    have hQ : ∀ v M, Q v M → Q v M := fun _ _ z => z
    have hk := qPm_lk hp
    cases ins with
    | iload k => exact qPm_ldI (hk _) (fun _ => hX1) h
    | iload_n k => exact qPm_ldI (hk _) (fun _ => hX1) h
    | lload k => exact qPm_ldL (hk _) (fun _ => hX1) h
    | lload_n k => exact qPm_ldL (hk _) (fun _ => hX1) h
    | aload k => exact qPm_ldA (hk _) (fun _ => hX1) h
    | aload_n k => exact qPm_ldA (hk _) (fun _ => hX1) h
    | iinc k n => exact qPm_ldI (hk _) (fun _ => hX _ _ _ _ _ _ _ (qPm_r1 hp _ _)) h
    | istore k => exact qI1_mono (fun _ _ => hX _ _ _ _ _ _ _ (qPm_r1 hp _ _)) h
    | istore_n k => exact qI1_mono (fun _ _ => hX _ _ _ _ _ _ _ (qPm_r1 hp _ _)) h
    | lstore k => exact qL1_mono (fun _ _ => hX _ _ _ _ _ _ _ (qPm_r2 hp _ _)) h
    | lstore_n k => exact qL1_mono (fun _ _ => hX _ _ _ _ _ _ _ (qPm_r2 hp _ _)) h
    | dup => cases st with
      | nil => exact h.elim
      | cons v r => exact qIf_mono hX1 h
    | pop => cases st with
      | nil => exact h.elim
      | cons v r => exact qIf_mono hX1 h
    | ifCond cd t => cases cd <;> exact qI1_mono (fun _ _ z => ⟨fun e => hX1 (z.1 e), fun e => hX1 (z.2 e)⟩) h
    | if_icmp cd t => cases cd <;> exact qI2_mono (fun _ _ _ z => ⟨fun e => hX1 (z.1 e), fun e => hX1 (z.2 e)⟩) h
    | astore k => exact qAn_mono (fun _ => hX _ _ _ _ _ _ _ (qPm_r1 hp _ _)) (fun _ _ => hX _ _ _ _ _ _ _ (qPm_r1 hp _ _)) h
    | astore_n k => exact qAn_mono (fun _ => hX _ _ _ _ _ _ _ (qPm_r1 hp _ _)) (fun _ _ => hX _ _ _ _ _ _ _ (qPm_r1 hp _ _)) h
    | ifnull t => exact qAn_mono (fun _ => hX1) (fun _ _ => hX1) h
    | ifnonnull t => exact qAn_mono (fun _ => hX1) (fun _ _ => hX1) h
    | tableswitch a b c2 d2 => exact qI1_mono (fun _ _ z => ⟨fun e => hX1 (z.1 e), qTabs_mono (fun _ => hX1) _ _ z.2⟩) h
    | lookupswitch a b => exact qI1_mono (fun _ _ z => qLks_mono (fun _ => hX1) _ z) h
    | idiv => exact qI2_mono (fun _ _ _ z => ⟨z.1, hX1 z.2⟩) h
    | ldiv => exact qL2_mono (fun _ _ _ z => ⟨z.1, hX1 z.2⟩) h
    | lrem => exact qL2_mono (fun _ _ _ z => ⟨z.1, hX1 z.2⟩) h
    | getfield k =>
      refine qA1_mono (fun _ _ => qIs_mono (qIn_mono fun z => ?_)) h
      split at z
      · split at z
        · exact hX1 z
        · obtain ⟨v, hv, z⟩ := z; exact ⟨v, hv, hX1 z⟩
      · exact hX1 z
    | putfield k =>
      dsimp only at h ⊢
      split at h
      · exact qVA_mono (fun _ _ _ => qIs_mono (qIn_mono (qIf_mono fun z => ⟨z.1, hX1 z.2⟩))) h
      · exact qIA_mono (fun _ _ _ => qIs_mono (qIn_mono fun z => ⟨z.1, hX1 z.2⟩)) h
      · exact qIA_mono (fun _ _ _ => qIs_mono (qIn_mono hX1)) h
    | arraylength =>
      refine qA1_mono (fun _ _ z => ?_) h
      split at z
      · exact hX1 z
      · exact qIf_mono (qIn_mono hX1) z
    | iaload =>
      refine qAI_mono (fun _ _ _ z => ?_) h
      split at z
      · exact ⟨z.1, hX1 z.2⟩
      · exact qIs_mono (qIn_mono fun z => ⟨z.1, hX1 z.2⟩) z
    | baload =>
      refine qAI_mono (fun _ _ _ z => ?_) h
      split at z
      · exact qIn_mono (fun z => ⟨z.1, hX1 z.2⟩) z
      · exact qIs_mono (qIn_mono fun z => ⟨z.1, hX1 z.2⟩) z
    | laload => exact qAI_mono (fun _ _ _ => qIs_mono (qIn_mono fun z => ⟨z.1, hX1 z.2⟩)) h
    | aaload => exact qAI_mono (fun _ _ _ => qIs_mono (qIn_mono fun z => ⟨z.1, z.2.elim fun v w => ⟨v, w.1, hX1 w.2⟩⟩)) h
    | iastore => exact qAII_mono (fun _ _ _ _ => qIs_mono (qIn_mono fun z => ⟨z.1, hX1 z.2⟩)) h
    | bastore =>
      refine qAII_mono (fun _ _ _ _ z => ?_) h
      split at z
      · exact qIn_mono (fun z => ⟨z.1, hX1 z.2⟩) z
      · exact qIs_mono (qIn_mono fun z => ⟨z.1, hX1 z.2⟩) z
    | lastore => exact qAIL_mono (fun _ _ _ _ => qIs_mono (qIn_mono fun z => ⟨z.1, hX1 z.2⟩)) h
    | aastore => exact qAIA_mono (fun _ _ _ _ => qIs_mono (qIn_mono fun z => ⟨z.1, z.2.1, hX1 z.2.2⟩)) h
    | new c => exact qIf_mono (qIs_mono fun z => ⟨⟨z.1.1, z.1.2.1, z.1.2.2.1, qPm_refs hp z.1.2.2.2⟩, hX1 z.2⟩) h
    | newarray ty => exact qIf_mono (qI1_mono fun _ _ => qIs_mono fun z => ⟨⟨z.1.1, z.1.2.1, z.1.2.2.1, z.1.2.2.2.1, z.1.2.2.2.2.1, z.1.2.2.2.2.2.1, qPm_refs hp z.1.2.2.2.2.2.2⟩, hX1 z.2⟩) h
    | anewarray k => exact qIf_mono (qI1_mono fun _ _ => qIs_mono fun z => ⟨⟨z.1.1, z.1.2.1, z.1.2.2.1, z.1.2.2.2.1, z.1.2.2.2.2.1, z.1.2.2.2.2.2.1, qPm_refs hp z.1.2.2.2.2.2.2⟩, hX1 z.2⟩) h
    | invokevirtual j => exact qTake_mono _ _ _ (fun _ _ => qA1_mono fun _ _ => qIs_mono (qIn_mono (qPm_call hc hp fun _ _ _ _ => hX1))) h
    | invokestatic j =>
      dsimp only at h ⊢
      split at h
      · exact qCp_mono (fun _ _ _ _ _ _ => qIs_mono (qIs_mono (qIn_mono (qIn_mono (qIf_mono fun z => ⟨z.1, hX1 z.2⟩))))) h
      · split at h
        · exact qMath_mono (fun _ _ => hX1) h
        · exact qTake_mono _ _ _ (fun _ _ => qPm_call hc hp fun _ _ _ _ => hX1) h
    | invokespecial j =>
      dsimp only at h ⊢
      split at h
      · exact qA1_mono (fun _ _ => qIf_mono hX1) h
      · exact qTake_mono _ _ _ (fun _ _ => qA1_mono fun _ _ => qPm_call hc hp fun _ _ _ _ => hX1) h
    | ireturn =>
      dsimp only at h ⊢
      split at h
      · split at h
        · exact hQ _ _ h
        · exact ⟨h.1, hQ _ _ h.2⟩
        · exact h.elim
      · exact h.elim
    | lreturn =>
      dsimp only at h ⊢
      split at h
      · exact hQ _ _ h
      · exact h.elim
    | areturn =>
      dsimp only at h ⊢
      split at h
      · exact hQ _ _ h
      · exact hQ _ _ h
      · exact h.elim
    | return_ =>
      dsimp only at h ⊢
      split at h
      · exact hQ _ _ h
      · exact h.elim
    | _ => first
      | exact hX1 h
      | exact qI1_mono (fun _ _ => hX1) h
      | exact qI2_mono (fun _ _ _ => hX1) h
      | exact qL1_mono (fun _ _ => hX1) h
      | exact qL2_mono (fun _ _ _ => hX1) h
      | exact qLI_mono (fun _ _ _ => hX1) h
      | exact h.elim
theorem qRun_perm {T : qT} {cs : qC} {Q : qP} {X X' : qX} (hc : qCM cs) (hX : ∀ pc ls ls' st uc us M, qPm ls ls' → X pc ls st uc us M → X' pc ls' st uc us M) (cuts : List Nat) : ∀ (n pc : Nat) (ls ls' : qLv) (st : List Value) (uc us : Nat) (M : qM), qPm ls ls' → qRun T cs Q X cuts n pc ls st uc us M → qRun T cs Q X' cuts n pc ls' st uc us M := by
  intro n
  induction n with
  | zero => exact hX
  | succ n ih =>
    intro pc ls ls' st uc us M hp h
    refine qStep_perm hc (fun pc ls ls' st uc us M hp z => ?_) hp h
    split at z
    · exact hX _ _ _ _ _ _ _ hp z
    · exact ih _ _ _ _ _ _ _ hp z
theorem qJ_perm {T : qT} {cs : qC} {Q : qP} (hc : qCM cs) {pc : Nat} {ls ls' : qLv} {st : List Value} {uc us : Nat} {M : qM} (hp : qPm ls ls') (h : qJ T cs Q pc ls st uc us M) : qJ T cs Q pc ls' st uc us M := by
  refine h (fun pc ls st uc us M => ∀ ls', qPm ls ls' → qJ T cs Q pc ls' st uc us M) (fun cuts n pc ls st uc us M hr ls' hp => ?_) ls' hp
  exact qJ_run hc cuts n (qRun_perm hc (fun _ _ _ _ _ _ _ hp z => z _ hp) cuts _ _ _ _ _ _ _ _ hp hr)
/-- sorted by number, the greatest first -/
def qIns (p : Nat × Value) : qLv → qLv
  | [] => [p]
  | q :: r => bif Nat.ble q.1 p.1 then p :: q :: r else q :: qIns p r
def qNm : qLv → qLv
  | [] => []
  | p :: r => qIns p (qNm r)
def qNd : qLv → Bool
  | [] => true
  | p :: r => !(r.any fun q => Nat.beq q.1 p.1) && qNd r
theorem qIns_perm (p : Nat × Value) : ∀ l : qLv, (p :: l).Perm (qIns p l) := by
  intro l
  induction l with
  | nil => exact List.Perm.refl _
  | cons q r ih =>
    simp only [qIns]
    cases Nat.ble q.1 p.1 with
    | true => exact List.Perm.refl _
    | false => exact (List.Perm.swap q p r).trans (ih.cons q)
theorem qNm_perm : ∀ l : qLv, l.Perm (qNm l) := by
  intro l
  induction l with
  | nil => exact List.Perm.refl _
  | cons p r ih => exact (ih.cons p).trans (qIns_perm p _)
theorem qNd_of : ∀ l : qLv, qNd l = true → (l.map Prod.fst).Nodup := by
  intro l
  induction l with
  | nil => intro _; exact List.nodup_nil
  | cons p r ih =>
    intro h
    simp only [qNd, Bool.and_eq_true, Bool.not_eq_true'] at h
    simp only [List.map_cons, List.nodup_cons]
    refine ⟨fun hm => ?_, ih h.2⟩
    obtain ⟨q, h3, h4⟩ := List.mem_map.mp hm
    have h5 := List.any_eq_false.mp h.1 q h3
    rw [h4] at h5
    exact h5 (Nat.beq_refl _)
/-- the locals in their order, without those that are of no use -/
theorem qJ_nm {T : qT} {cs : qC} {Q : qP} (hc : qCM cs) {pc : Nat} {ls' : qLv} (xs ls : qLv) {st : List Value} {uc us : Nat} {M : qM} (hd : qNd ls' = true) (he : qNm (xs ++ ls) = qNm ls') (hx : (xs.all fun p => qNr p.2) = true) (h : qJ T cs Q pc ls st uc us M) : qJ T cs Q pc ls' st uc us M := by
  have hp : (xs ++ ls).Perm ls' := (qNm_perm _).trans (he ▸ (qNm_perm ls').symm)
  refine qJ_perm hc ⟨fun p h => hp.mem_iff.mp (List.mem_append_right _ h), qNd_of _ hd, fun p h => ?_⟩ h
  rcases List.mem_append.mp (hp.mem_iff.mpr h) with h1 | h1
  · exact Or.inr (List.all_eq_true.mp hx p h1)
  · exact Or.inl h1
end
section
theorem vb {x : Int32} {N : Nat} (z : Int32) (hz : z.toInt = (N : Int)) (h0 : 0 ≤ x) (h1 : x < z) : vp_in x N := by
  rw [vp_in_iff, ← hz]
  exact ⟨by simpa using Int32.le_iff_toInt_le.mp h0, Int32.lt_iff_toInt_lt.mp h1⟩
theorem ql8 (N : Nat → Nat) : Int32.ofNat (qLen N 8) = 6912 := rfl
theorem ql39 (N : Nat → Nat) : Int32.ofNat (qLen N 39) = 8 := rfl
theorem ql44 (N : Nat → Nat) : Int32.ofNat (qLen N 44) = 96 := rfl
theorem ql45 (N : Nat → Nat) : Int32.ofNat (qLen N 45) = 24 := rfl
theorem ql60 (N : Nat → Nat) : Int32.ofNat (qLen N 60) = 72 := rfl
theorem ql61 (N : Nat → Nat) : Int32.ofNat (qLen N 61) = 24 := rfl
theorem qJ_id {T : qT} {cs : qC} {Q : qP} {pc : Nat} {ls : List (Nat × Value)} {st : List Value} {uc us : Nat} {M : qM} (h : qJ T cs Q pc ls st uc us M) : qJ T cs Q pc ls st uc us M := h
theorem tcn (x : Int32) : x.toNatClampNeg = x.toInt.toNat := rfl
theorem i0 {x : Int32} (h0 : 0 ≤ x) : 0 ≤ x.toInt := by simpa using Int32.le_iff_toInt_le.mp h0
theorem tn1 {k : Int32} (h0 : 0 ≤ k) (h1 : k < 1000000000) : (k + 1).toNatClampNeg = k.toNatClampNeg + 1 := by
  obtain ⟨j, hj, rfl⟩ := nI_of (x := k) (by grind)
  have h2 : nI j < nI 1000000000 := h1
  rw [nI_ltI hj (by decide)] at h2
  rw [nI_1, nI_clamp (by omega), nI_clamp (by omega)]
theorem kc_m999 : Int32.ofInt (-999) = -999 := by decide
theorem kc_m200 : Int32.ofInt (-200) = -200 := by decide
theorem kc_m20 : Int32.ofInt (-20) = -20 := by decide
theorem kc_m14 : Int32.ofInt (-14) = -14 := by decide
theorem kc_m13 : Int32.ofInt (-13) = -13 := by decide
theorem kc_m12 : Int32.ofInt (-12) = -12 := by decide
theorem kc_m11 : Int32.ofInt (-11) = -11 := by decide
theorem kc_m4 : Int32.ofInt (-4) = -4 := by decide
theorem kc_m3 : Int32.ofInt (-3) = -3 := by decide
theorem kc_m2 : Int32.ofInt (-2) = -2 := by decide
theorem kc_m1 : Int32.ofInt (-1) = -1 := by decide
theorem kc_0 : Int32.ofInt 0 = 0 := by decide
theorem kc_1 : Int32.ofInt 1 = 1 := by decide
theorem kc_2 : Int32.ofInt 2 = 2 := by decide
theorem kc_3 : Int32.ofInt 3 = 3 := by decide
theorem kc_4 : Int32.ofInt 4 = 4 := by decide
theorem kc_5 : Int32.ofInt 5 = 5 := by decide
theorem kc_6 : Int32.ofInt 6 = 6 := by decide
theorem kc_7 : Int32.ofInt 7 = 7 := by decide
theorem kc_8 : Int32.ofInt 8 = 8 := by decide
theorem kc_9 : Int32.ofInt 9 = 9 := by decide
theorem kc_10 : Int32.ofInt 10 = 10 := by decide
theorem kc_11 : Int32.ofInt 11 = 11 := by decide
theorem kc_12 : Int32.ofInt 12 = 12 := by decide
theorem kc_15 : Int32.ofInt 15 = 15 := by decide
theorem kc_16 : Int32.ofInt 16 = 16 := by decide
theorem kc_20 : Int32.ofInt 20 = 20 := by decide
theorem kc_24 : Int32.ofInt 24 = 24 := by decide
theorem kc_26 : Int32.ofInt 26 = 26 := by decide
theorem kc_27 : Int32.ofInt 27 = 27 := by decide
theorem kc_32 : Int32.ofInt 32 = 32 := by decide
theorem kc_35 : Int32.ofInt 35 = 35 := by decide
theorem kc_40 : Int32.ofInt 40 = 40 := by decide
theorem kc_41 : Int32.ofInt 41 = 41 := by decide
theorem kc_45 : Int32.ofInt 45 = 45 := by decide
theorem kc_46 : Int32.ofInt 46 = 46 := by decide
theorem kc_60 : Int32.ofInt 60 = 60 := by decide
theorem kc_62 : Int32.ofInt 62 = 62 := by decide
theorem kc_63 : Int32.ofInt 63 = 63 := by decide
theorem kc_72 : Int32.ofInt 72 = 72 := by decide
theorem kc_91 : Int32.ofInt 91 = 91 := by decide
theorem kc_93 : Int32.ofInt 93 = 93 := by decide
theorem kc_95 : Int32.ofInt 95 = 95 := by decide
theorem kc_96 : Int32.ofInt 96 = 96 := by decide
theorem kc_97 : Int32.ofInt 97 = 97 := by decide
theorem kc_122 : Int32.ofInt 122 = 122 := by decide
theorem kc_124 : Int32.ofInt 124 = 124 := by decide
theorem kc_127 : Int32.ofInt 127 = 127 := by decide
theorem kc_160 : Int32.ofInt 160 = 160 := by decide
theorem kc_200 : Int32.ofInt 200 = 200 := by decide
theorem kc_255 : Int32.ofInt 255 = 255 := by decide
theorem kc_999 : Int32.ofInt 999 = 999 := by decide
theorem kc_1600 : Int32.ofInt 1600 = 1600 := by decide
theorem kc_4000 : Int32.ofInt 4000 = 4000 := by decide
theorem kc_6912 : Int32.ofInt 6912 = 6912 := by decide
theorem qQ_id {Q : qP} {v : Option Value} {M : qM} (h : Q v M) : Q v M := h
theorem c_X6_has {d z : Nat} {N : Nat → Nat} {I : Nat → Nat → Int32} {L : Nat → Nat → Int64} {R : Nat → Nat → Option Nat} {Q : qP} {s : Int32} (hn : 0 ≤ I 3 2 ∧ I 3 2 ≤ 12) (h : ∀ v : Int32, (v = if 0 ≤ s ∧ s < I 3 2 then 1 else 0) → Q (some (.int v)) (z, N, I, L, R)) : qWP (d + 1) 79 [.ref 3, .int s] (z, N, I, L, R) Q := by
  refine qWP_of m_X6_has rfl rfl [(0, .ref 3), (1, .int s)] rfl ?_
  refine qJ_run (qWP_mono _) [] 400 ?_
  refine ⟨fun c1 => ?_, fun c1 => ?_⟩
  · first | exact h _ (by clear h; grind [q2, ql8, ql39, ql44, ql45, ql60, ql61]) | exact ⟨Or.inl rfl, h _ (by clear h; grind [q2, ql8, ql39, ql44, ql45, ql60, ql61])⟩ | exact ⟨Or.inr rfl, h _ (by clear h; grind [q2, ql8, ql39, ql44, ql45, ql60, ql61])⟩ | exact ⟨by grind, h _ (by clear h; grind [q2, ql8, ql39, ql44, ql45, ql60, ql61])⟩
  · refine ⟨fun c2 => ?_, fun c2 => ?_⟩
    · first | exact h _ (by clear h; grind [q2, ql8, ql39, ql44, ql45, ql60, ql61]) | exact ⟨Or.inl rfl, h _ (by clear h; grind [q2, ql8, ql39, ql44, ql45, ql60, ql61])⟩ | exact ⟨Or.inr rfl, h _ (by clear h; grind [q2, ql8, ql39, ql44, ql45, ql60, ql61])⟩ | exact ⟨by grind, h _ (by clear h; grind [q2, ql8, ql39, ql44, ql45, ql60, ql61])⟩
    · refine ⟨fun c3 => ?_, fun c3 => ?_⟩
      · first | exact h _ (by clear h; grind [q2, ql8, ql39, ql44, ql45, ql60, ql61]) | exact ⟨Or.inl rfl, h _ (by clear h; grind [q2, ql8, ql39, ql44, ql45, ql60, ql61])⟩ | exact ⟨Or.inr rfl, h _ (by clear h; grind [q2, ql8, ql39, ql44, ql45, ql60, ql61])⟩ | exact ⟨by grind, h _ (by clear h; grind [q2, ql8, ql39, ql44, ql45, ql60, ql61])⟩
      · first | exact h _ (by clear h; grind [q2, ql8, ql39, ql44, ql45, ql60, ql61]) | exact ⟨Or.inl rfl, h _ (by clear h; grind [q2, ql8, ql39, ql44, ql45, ql60, ql61])⟩ | exact ⟨Or.inr rfl, h _ (by clear h; grind [q2, ql8, ql39, ql44, ql45, ql60, ql61])⟩ | exact ⟨by grind, h _ (by clear h; grind [q2, ql8, ql39, ql44, ql45, ql60, ql61])⟩
theorem c_X6_hasLine {d z : Nat} {N : Nat → Nat} {I : Nat → Nat → Int32} {L : Nat → Nat → Int64} {R : Nat → Nat → Option Nat} {Q : qP} {s : Int32} {l : Int32} (hn : 0 ≤ I 3 2 ∧ I 3 2 ≤ 12) (h : ∀ v : Int32, (v = if (0 ≤ s ∧ s < I 3 2) ∧ 0 ≤ l ∧ l < I 4 s.toNatClampNeg then 1 else 0) → Q (some (.int v)) (z, N, I, L, R)) : qWP (d + 2) 80 [.ref 3, .int s, .int l] (z, N, I, L, R) Q := by
  refine qWP_of m_X6_hasLine rfl rfl [(0, .ref 3), (1, .int s), (2, .int l)] rfl ?_
  refine qJ_run (qWP_mono _) [] 400 ?_
  refine ⟨⟨Nat.le_refl _, Nat.le_refl _⟩, ?_⟩
  refine c_X6_has hn fun v hv => ?_
  refine ⟨fun c1 => ?_, fun c1 => ?_⟩
  · first | exact h _ (by clear h; grind [q2, ql8, ql39, ql44, ql45, ql60, ql61]) | exact ⟨Or.inl rfl, h _ (by clear h; grind [q2, ql8, ql39, ql44, ql45, ql60, ql61])⟩ | exact ⟨Or.inr rfl, h _ (by clear h; grind [q2, ql8, ql39, ql44, ql45, ql60, ql61])⟩ | exact ⟨by grind, h _ (by clear h; grind [q2, ql8, ql39, ql44, ql45, ql60, ql61])⟩
  · refine ⟨fun c2 => ?_, fun c2 => ?_⟩
    · first | exact h _ (by clear h; grind [q2, ql8, ql39, ql44, ql45, ql60, ql61]) | exact ⟨Or.inl rfl, h _ (by clear h; grind [q2, ql8, ql39, ql44, ql45, ql60, ql61])⟩ | exact ⟨Or.inr rfl, h _ (by clear h; grind [q2, ql8, ql39, ql44, ql45, ql60, ql61])⟩ | exact ⟨by grind, h _ (by clear h; grind [q2, ql8, ql39, ql44, ql45, ql60, ql61])⟩
    · refine ⟨?_, ?_⟩
      · exact vb (N := 12) 12 (by decide) (by clear h; grind [q2, ql8, ql39, ql44, ql45, ql60, ql61]) (by clear h; grind [q2, ql8, ql39, ql44, ql45, ql60, ql61])
      refine ⟨fun c3 => ?_, fun c3 => ?_⟩
      · first | exact h _ (by clear h; grind [q2, ql8, ql39, ql44, ql45, ql60, ql61]) | exact ⟨Or.inl rfl, h _ (by clear h; grind [q2, ql8, ql39, ql44, ql45, ql60, ql61])⟩ | exact ⟨Or.inr rfl, h _ (by clear h; grind [q2, ql8, ql39, ql44, ql45, ql60, ql61])⟩ | exact ⟨by grind, h _ (by clear h; grind [q2, ql8, ql39, ql44, ql45, ql60, ql61])⟩
      · first | exact h _ (by clear h; grind [q2, ql8, ql39, ql44, ql45, ql60, ql61]) | exact ⟨Or.inl rfl, h _ (by clear h; grind [q2, ql8, ql39, ql44, ql45, ql60, ql61])⟩ | exact ⟨Or.inr rfl, h _ (by clear h; grind [q2, ql8, ql39, ql44, ql45, ql60, ql61])⟩ | exact ⟨by grind, h _ (by clear h; grind [q2, ql8, ql39, ql44, ql45, ql60, ql61])⟩
theorem c_X6_hasPlace {d z : Nat} {N : Nat → Nat} {I : Nat → Nat → Int32} {L : Nat → Nat → Int64} {R : Nat → Nat → Option Nat} {Q : qP} {s : Int32} {l : Int32} {p : Int32} (hn : 0 ≤ I 3 2 ∧ I 3 2 ≤ 12) (h : ∀ v : Int32, (v = if ((0 ≤ s ∧ s < I 3 2) ∧ 0 ≤ l ∧ l < I 4 s.toNatClampNeg) ∧ 0 ≤ p ∧ p < I 5 s.toNatClampNeg then 1 else 0) → Q (some (.int v)) (z, N, I, L, R)) : qWP (d + 3) 81 [.ref 3, .int s, .int l, .int p] (z, N, I, L, R) Q := by
  refine qWP_of m_X6_hasPlace rfl rfl [(0, .ref 3), (1, .int s), (2, .int l), (3, .int p)] rfl ?_
  refine qJ_run (qWP_mono _) [] 400 ?_
  refine ⟨⟨Nat.le_refl _, Nat.le_refl _⟩, ?_⟩
  refine c_X6_hasLine hn fun v hv => ?_
  refine ⟨fun c1 => ?_, fun c1 => ?_⟩
  · first | exact h _ (by clear h; grind [q2, ql8, ql39, ql44, ql45, ql60, ql61]) | exact ⟨Or.inl rfl, h _ (by clear h; grind [q2, ql8, ql39, ql44, ql45, ql60, ql61])⟩ | exact ⟨Or.inr rfl, h _ (by clear h; grind [q2, ql8, ql39, ql44, ql45, ql60, ql61])⟩ | exact ⟨by grind, h _ (by clear h; grind [q2, ql8, ql39, ql44, ql45, ql60, ql61])⟩
  · refine ⟨fun c2 => ?_, fun c2 => ?_⟩
    · first | exact h _ (by clear h; grind [q2, ql8, ql39, ql44, ql45, ql60, ql61]) | exact ⟨Or.inl rfl, h _ (by clear h; grind [q2, ql8, ql39, ql44, ql45, ql60, ql61])⟩ | exact ⟨Or.inr rfl, h _ (by clear h; grind [q2, ql8, ql39, ql44, ql45, ql60, ql61])⟩ | exact ⟨by grind, h _ (by clear h; grind [q2, ql8, ql39, ql44, ql45, ql60, ql61])⟩
    · refine ⟨?_, ?_⟩
      · exact vb (N := 12) 12 (by decide) (by clear h; grind [q2, ql8, ql39, ql44, ql45, ql60, ql61]) (by clear h; grind [q2, ql8, ql39, ql44, ql45, ql60, ql61])
      refine ⟨fun c3 => ?_, fun c3 => ?_⟩
      · first | exact h _ (by clear h; grind [q2, ql8, ql39, ql44, ql45, ql60, ql61]) | exact ⟨Or.inl rfl, h _ (by clear h; grind [q2, ql8, ql39, ql44, ql45, ql60, ql61])⟩ | exact ⟨Or.inr rfl, h _ (by clear h; grind [q2, ql8, ql39, ql44, ql45, ql60, ql61])⟩ | exact ⟨by grind, h _ (by clear h; grind [q2, ql8, ql39, ql44, ql45, ql60, ql61])⟩
      · first | exact h _ (by clear h; grind [q2, ql8, ql39, ql44, ql45, ql60, ql61]) | exact ⟨Or.inl rfl, h _ (by clear h; grind [q2, ql8, ql39, ql44, ql45, ql60, ql61])⟩ | exact ⟨Or.inr rfl, h _ (by clear h; grind [q2, ql8, ql39, ql44, ql45, ql60, ql61])⟩ | exact ⟨by grind, h _ (by clear h; grind [q2, ql8, ql39, ql44, ql45, ql60, ql61])⟩
theorem c_X6_size {d z : Nat} {N : Nat → Nat} {I : Nat → Nat → Int32} {L : Nat → Nat → Int64} {R : Nat → Nat → Option Nat} {Q : qP}   (h : ∀ v : Int32, v = I 3 2 → Q (some (.int v)) (z, N, I, L, R)) : qWP (d + 1) 78 [.ref 3] (z, N, I, L, R) Q := by
  refine qWP_of m_X6_size rfl rfl [(0, .ref 3)] rfl ?_
  refine qJ_run (qWP_mono _) [] 400 ?_
  first | exact h _ (by clear h; grind [q2, ql8, ql39, ql44, ql45, ql60, ql61]) | exact ⟨Or.inl rfl, h _ (by clear h; grind [q2, ql8, ql39, ql44, ql45, ql60, ql61])⟩ | exact ⟨Or.inr rfl, h _ (by clear h; grind [q2, ql8, ql39, ql44, ql45, ql60, ql61])⟩ | exact ⟨by grind, h _ (by clear h; grind [q2, ql8, ql39, ql44, ql45, ql60, ql61])⟩
theorem c_X6_linesOf {d z : Nat} {N : Nat → Nat} {I : Nat → Nat → Int32} {L : Nat → Nat → Int64} {R : Nat → Nat → Option Nat} {Q : qP} {s : Int32} (hn : 0 ≤ I 3 2 ∧ I 3 2 ≤ 12) (h : ∀ v : Int32, (v = if 0 ≤ s ∧ s < I 3 2 then I 4 s.toNatClampNeg else 0) → Q (some (.int v)) (z, N, I, L, R)) : qWP (d + 2) 82 [.ref 3, .int s] (z, N, I, L, R) Q := by
  refine qWP_of m_X6_linesOf rfl rfl [(0, .ref 3), (1, .int s)] rfl ?_
  refine qJ_run (qWP_mono _) [] 400 ?_
  refine ⟨⟨Nat.le_refl _, Nat.le_refl _⟩, ?_⟩
  refine c_X6_has hn fun v hv => ?_
  refine ⟨fun c1 => ?_, fun c1 => ?_⟩
  · first | exact h _ (by clear h; grind [q2, ql8, ql39, ql44, ql45, ql60, ql61]) | exact ⟨Or.inl rfl, h _ (by clear h; grind [q2, ql8, ql39, ql44, ql45, ql60, ql61])⟩ | exact ⟨Or.inr rfl, h _ (by clear h; grind [q2, ql8, ql39, ql44, ql45, ql60, ql61])⟩ | exact ⟨by grind, h _ (by clear h; grind [q2, ql8, ql39, ql44, ql45, ql60, ql61])⟩
  · refine ⟨?_, ?_⟩
    · exact vb (N := 12) 12 (by decide) (by clear h; grind [q2, ql8, ql39, ql44, ql45, ql60, ql61]) (by clear h; grind [q2, ql8, ql39, ql44, ql45, ql60, ql61])
    first | exact h _ (by clear h; grind [q2, ql8, ql39, ql44, ql45, ql60, ql61]) | exact ⟨Or.inl rfl, h _ (by clear h; grind [q2, ql8, ql39, ql44, ql45, ql60, ql61])⟩ | exact ⟨Or.inr rfl, h _ (by clear h; grind [q2, ql8, ql39, ql44, ql45, ql60, ql61])⟩ | exact ⟨by grind, h _ (by clear h; grind [q2, ql8, ql39, ql44, ql45, ql60, ql61])⟩
theorem c_X6_placesOf {d z : Nat} {N : Nat → Nat} {I : Nat → Nat → Int32} {L : Nat → Nat → Int64} {R : Nat → Nat → Option Nat} {Q : qP} {s : Int32} (hn : 0 ≤ I 3 2 ∧ I 3 2 ≤ 12) (h : ∀ v : Int32, (v = if 0 ≤ s ∧ s < I 3 2 then I 5 s.toNatClampNeg else 0) → Q (some (.int v)) (z, N, I, L, R)) : qWP (d + 2) 83 [.ref 3, .int s] (z, N, I, L, R) Q := by
  refine qWP_of m_X6_placesOf rfl rfl [(0, .ref 3), (1, .int s)] rfl ?_
  refine qJ_run (qWP_mono _) [] 400 ?_
  refine ⟨⟨Nat.le_refl _, Nat.le_refl _⟩, ?_⟩
  refine c_X6_has hn fun v hv => ?_
  refine ⟨fun c1 => ?_, fun c1 => ?_⟩
  · first | exact h _ (by clear h; grind [q2, ql8, ql39, ql44, ql45, ql60, ql61]) | exact ⟨Or.inl rfl, h _ (by clear h; grind [q2, ql8, ql39, ql44, ql45, ql60, ql61])⟩ | exact ⟨Or.inr rfl, h _ (by clear h; grind [q2, ql8, ql39, ql44, ql45, ql60, ql61])⟩ | exact ⟨by grind, h _ (by clear h; grind [q2, ql8, ql39, ql44, ql45, ql60, ql61])⟩
  · refine ⟨?_, ?_⟩
    · exact vb (N := 12) 12 (by decide) (by clear h; grind [q2, ql8, ql39, ql44, ql45, ql60, ql61]) (by clear h; grind [q2, ql8, ql39, ql44, ql45, ql60, ql61])
    first | exact h _ (by clear h; grind [q2, ql8, ql39, ql44, ql45, ql60, ql61]) | exact ⟨Or.inl rfl, h _ (by clear h; grind [q2, ql8, ql39, ql44, ql45, ql60, ql61])⟩ | exact ⟨Or.inr rfl, h _ (by clear h; grind [q2, ql8, ql39, ql44, ql45, ql60, ql61])⟩ | exact ⟨by grind, h _ (by clear h; grind [q2, ql8, ql39, ql44, ql45, ql60, ql61])⟩
theorem c_X6_put {d z : Nat} {N : Nat → Nat} {I : Nat → Nat → Int32} {L : Nat → Nat → Int64} {R : Nat → Nat → Option Nat} {Q : qP} {l : Int32} {p : Int32} (hn : 0 ≤ I 3 2 ∧ I 3 2 ≤ 12) (h1 : I 3 2 = 12 → Q (some (.int (-4))) (z, N, I, L, R)) (h2 : I 3 2 < 12 → Q (some (.int (I 3 2 + 1 - 1))) (z, N, q2 (q2 (q2 I 4 (I 3 2).toNatClampNeg l) 5 (I 3 2).toNatClampNeg p) 3 2 (I 3 2 + 1), L, R)) : qWP (d + 1) 77 [.ref 3, .int l, .int p] (z, N, I, L, R) Q := by
  refine qWP_of m_X6_put rfl rfl [(0, .ref 3), (1, .int l), (2, .int p)] rfl ?_
  refine qJ_run (qWP_mono _) [] 400 ?_
  refine ⟨fun c1 => ?_, fun c1 => ?_⟩
  · first | exact h1 (by clear h1 h2; grind [q2, ql8, ql39, ql44, ql45, ql60, ql61]) | exact h2 (by clear h1 h2; grind [q2, ql8, ql39, ql44, ql45, ql60, ql61]) | exact absurd hn (by clear h1 h2; grind [q2, ql8, ql39, ql44, ql45, ql60, ql61])
  · refine ⟨fun c2 => ?_, fun c2 => ?_⟩
    · refine ⟨?_, ?_⟩
      · exact vb (N := 12) 12 (by decide) (by clear h1 h2; grind [q2, ql8, ql39, ql44, ql45, ql60, ql61]) (by clear h1 h2; grind [q2, ql8, ql39, ql44, ql45, ql60, ql61])
      refine ⟨?_, ?_⟩
      · exact vb (N := 12) 12 (by decide) (by clear h1 h2; grind [q2, ql8, ql39, ql44, ql45, ql60, ql61]) (by clear h1 h2; grind [q2, ql8, ql39, ql44, ql45, ql60, ql61])
      first | exact h1 (by clear h1 h2; grind [q2, ql8, ql39, ql44, ql45, ql60, ql61]) | exact h2 (by clear h1 h2; grind [q2, ql8, ql39, ql44, ql45, ql60, ql61]) | exact absurd hn (by clear h1 h2; grind [q2, ql8, ql39, ql44, ql45, ql60, ql61])
    · first | exact h1 (by clear h1 h2; grind [q2, ql8, ql39, ql44, ql45, ql60, ql61]) | exact h2 (by clear h1 h2; grind [q2, ql8, ql39, ql44, ql45, ql60, ql61]) | exact absurd hn (by clear h1 h2; grind [q2, ql8, ql39, ql44, ql45, ql60, ql61])
theorem in1_4 (k : Int32) : (0 ≤ k - Int32.ofInt 1 ∧ k - Int32.ofInt 1 < Int32.ofInt 4) ↔ (1 ≤ k ∧ k ≤ 4) := by
  constructor <;> intro h <;> grind
theorem in1_8 (k : Int32) : (0 ≤ k - Int32.ofInt 1 ∧ k - Int32.ofInt 1 < Int32.ofInt 8) ↔ (1 ≤ k ∧ k ≤ 8) := by
  constructor <;> intro h <;> grind
theorem in1_24 (k : Int32) : (0 ≤ k - Int32.ofInt 1 ∧ k - Int32.ofInt 1 < Int32.ofInt 24) ↔ (1 ≤ k ∧ k ≤ 24) := by
  constructor <;> intro h <;> grind
theorem c_X8_size {d z : Nat} {N : Nat → Nat} {I : Nat → Nat → Int32} {L : Nat → Nat → Int64} {R : Nat → Nat → Option Nat} {Q : qP}   (h : ∀ v : Int32, v = I 9 1 → Q (some (.int v)) (z, N, I, L, R)) : qWP (d + 1) 97 [.ref 9] (z, N, I, L, R) Q := by
  refine qWP_of m_X8_size rfl rfl [(0, .ref 9)] rfl ?_
  refine qJ_run (qWP_mono _) [] 400 ?_
  first | exact h _ (by clear h; grind [q2, ql8, ql39, ql44, ql45, ql60, ql61]) | exact ⟨Or.inl rfl, h _ (by clear h; grind [q2, ql8, ql39, ql44, ql45, ql60, ql61])⟩ | exact ⟨Or.inr rfl, h _ (by clear h; grind [q2, ql8, ql39, ql44, ql45, ql60, ql61])⟩ | exact ⟨by grind, h _ (by clear h; grind [q2, ql8, ql39, ql44, ql45, ql60, ql61])⟩
theorem c_X8_clear {d z : Nat} {N : Nat → Nat} {I : Nat → Nat → Int32} {L : Nat → Nat → Int64} {R : Nat → Nat → Option Nat} {Q : qP}  (h : Q none (z, N, q2 I 9 1 0, L, R)) : qWP (d + 1) 96 [.ref 9] (z, N, I, L, R) Q := by
  refine qWP_of m_X8_clear rfl rfl [(0, .ref 9)] rfl ?_
  refine qJ_run (qWP_mono _) [] 400 ?_
  exact h
theorem c_X8_byteAt {d z : Nat} {N : Nat → Nat} {I : Nat → Nat → Int32} {L : Nat → Nat → Int64} {R : Nat → Nat → Option Nat} {Q : qP} {a : Int32} (hn : 0 ≤ I 9 1 ∧ I 9 1 ≤ 200) (h : ∀ v : Int32, (v = if 0 ≤ a ∧ a < I 9 1 then I 10 a.toNatClampNeg &&& 255 else -1) → Q (some (.int v)) (z, N, I, L, R)) : qWP (d + 1) 98 [.ref 9, .int a] (z, N, I, L, R) Q := by
  refine qWP_of m_X8_byteAt rfl rfl [(0, .ref 9), (1, .int a)] rfl ?_
  refine qJ_run (qWP_mono _) [] 400 ?_
  refine ⟨fun c1 => ?_, fun c1 => ?_⟩
  · first | exact h _ (by clear h; grind [q2, ql8, ql39, ql44, ql45, ql60, ql61]) | exact ⟨Or.inl rfl, h _ (by clear h; grind [q2, ql8, ql39, ql44, ql45, ql60, ql61])⟩ | exact ⟨Or.inr rfl, h _ (by clear h; grind [q2, ql8, ql39, ql44, ql45, ql60, ql61])⟩ | exact ⟨by grind, h _ (by clear h; grind [q2, ql8, ql39, ql44, ql45, ql60, ql61])⟩
  · refine ⟨fun c2 => ?_, fun c2 => ?_⟩
    · first | exact h _ (by clear h; grind [q2, ql8, ql39, ql44, ql45, ql60, ql61]) | exact ⟨Or.inl rfl, h _ (by clear h; grind [q2, ql8, ql39, ql44, ql45, ql60, ql61])⟩ | exact ⟨Or.inr rfl, h _ (by clear h; grind [q2, ql8, ql39, ql44, ql45, ql60, ql61])⟩ | exact ⟨by grind, h _ (by clear h; grind [q2, ql8, ql39, ql44, ql45, ql60, ql61])⟩
    · refine ⟨fun c3 => ?_, fun c3 => ?_⟩
      · first | exact h _ (by clear h; grind [q2, ql8, ql39, ql44, ql45, ql60, ql61]) | exact ⟨Or.inl rfl, h _ (by clear h; grind [q2, ql8, ql39, ql44, ql45, ql60, ql61])⟩ | exact ⟨Or.inr rfl, h _ (by clear h; grind [q2, ql8, ql39, ql44, ql45, ql60, ql61])⟩ | exact ⟨by grind, h _ (by clear h; grind [q2, ql8, ql39, ql44, ql45, ql60, ql61])⟩
      · refine ⟨?_, ?_⟩
        · exact vb (N := 200) 200 (by decide) (by clear h; grind [q2, ql8, ql39, ql44, ql45, ql60, ql61]) (by clear h; grind [q2, ql8, ql39, ql44, ql45, ql60, ql61])
        first | exact h _ (by clear h; grind [q2, ql8, ql39, ql44, ql45, ql60, ql61]) | exact ⟨Or.inl rfl, h _ (by clear h; grind [q2, ql8, ql39, ql44, ql45, ql60, ql61])⟩ | exact ⟨Or.inr rfl, h _ (by clear h; grind [q2, ql8, ql39, ql44, ql45, ql60, ql61])⟩ | exact ⟨by grind, h _ (by clear h; grind [q2, ql8, ql39, ql44, ql45, ql60, ql61])⟩
theorem c_X8_letterOf {d z : Nat} {N : Nat → Nat} {I : Nat → Nat → Int32} {L : Nat → Nat → Int64} {R : Nat → Nat → Option Nat} {Q : qP} {b : Int32}  (h : ∀ v : Int32, (v = if 97 ≤ b ∧ b ≤ 122 then b - 97 else -1) → Q (some (.int v)) (z, N, I, L, R)) : qWP (d + 1) 100 [.int b] (z, N, I, L, R) Q := by
  refine qWP_of m_X8_letterOf rfl rfl [(0, .int b)] rfl ?_
  refine qJ_run (qWP_mono _) [] 400 ?_
  refine ⟨fun c1 => ?_, fun c1 => ?_⟩
  · first | exact h _ (by clear h; grind [q2, ql8, ql39, ql44, ql45, ql60, ql61]) | exact ⟨Or.inl rfl, h _ (by clear h; grind [q2, ql8, ql39, ql44, ql45, ql60, ql61])⟩ | exact ⟨Or.inr rfl, h _ (by clear h; grind [q2, ql8, ql39, ql44, ql45, ql60, ql61])⟩ | exact ⟨by grind, h _ (by clear h; grind [q2, ql8, ql39, ql44, ql45, ql60, ql61])⟩
  · refine ⟨fun c2 => ?_, fun c2 => ?_⟩
    · first | exact h _ (by clear h; grind [q2, ql8, ql39, ql44, ql45, ql60, ql61]) | exact ⟨Or.inl rfl, h _ (by clear h; grind [q2, ql8, ql39, ql44, ql45, ql60, ql61])⟩ | exact ⟨Or.inr rfl, h _ (by clear h; grind [q2, ql8, ql39, ql44, ql45, ql60, ql61])⟩ | exact ⟨by grind, h _ (by clear h; grind [q2, ql8, ql39, ql44, ql45, ql60, ql61])⟩
    · first | exact h _ (by clear h; grind [q2, ql8, ql39, ql44, ql45, ql60, ql61]) | exact ⟨Or.inl rfl, h _ (by clear h; grind [q2, ql8, ql39, ql44, ql45, ql60, ql61])⟩ | exact ⟨Or.inr rfl, h _ (by clear h; grind [q2, ql8, ql39, ql44, ql45, ql60, ql61])⟩ | exact ⟨by grind, h _ (by clear h; grind [q2, ql8, ql39, ql44, ql45, ql60, ql61])⟩
theorem c_X5_hands {d z : Nat} {N : Nat → Nat} {I : Nat → Nat → Int32} {L : Nat → Nat → Int64} {R : Nat → Nat → Option Nat} {Q : qP}   (h : ∀ v : Int32, v = I 6 2 → Q (some (.int v)) (z, N, I, L, R)) : qWP (d + 1) 68 [.ref 6] (z, N, I, L, R) Q := by
  refine qWP_of m_X5_hands rfl rfl [(0, .ref 6)] rfl ?_
  refine qJ_run (qWP_mono _) [] 400 ?_
  first | exact h _ (by clear h; grind [q2, ql8, ql39, ql44, ql45, ql60, ql61]) | exact ⟨Or.inl rfl, h _ (by clear h; grind [q2, ql8, ql39, ql44, ql45, ql60, ql61])⟩ | exact ⟨Or.inr rfl, h _ (by clear h; grind [q2, ql8, ql39, ql44, ql45, ql60, ql61])⟩ | exact ⟨by grind, h _ (by clear h; grind [q2, ql8, ql39, ql44, ql45, ql60, ql61])⟩
theorem c_X5_hasHand {d z : Nat} {N : Nat → Nat} {I : Nat → Nat → Int32} {L : Nat → Nat → Int64} {R : Nat → Nat → Option Nat} {Q : qP} {s : Int32} (hn : 0 ≤ I 6 2 ∧ I 6 2 ≤ 6) (h : ∀ v : Int32, (v = if 0 ≤ s ∧ s < I 6 2 then 1 else 0) → Q (some (.int v)) (z, N, I, L, R)) : qWP (d + 1) 69 [.ref 6, .int s] (z, N, I, L, R) Q := by
  refine qWP_of m_X5_hasHand rfl rfl [(0, .ref 6), (1, .int s)] rfl ?_
  refine qJ_run (qWP_mono _) [] 400 ?_
  refine ⟨fun c1 => ?_, fun c1 => ?_⟩
  · first | exact h _ (by clear h; grind [q2, ql8, ql39, ql44, ql45, ql60, ql61]) | exact ⟨Or.inl rfl, h _ (by clear h; grind [q2, ql8, ql39, ql44, ql45, ql60, ql61])⟩ | exact ⟨Or.inr rfl, h _ (by clear h; grind [q2, ql8, ql39, ql44, ql45, ql60, ql61])⟩ | exact ⟨by grind, h _ (by clear h; grind [q2, ql8, ql39, ql44, ql45, ql60, ql61])⟩
  · refine ⟨fun c2 => ?_, fun c2 => ?_⟩
    · first | exact h _ (by clear h; grind [q2, ql8, ql39, ql44, ql45, ql60, ql61]) | exact ⟨Or.inl rfl, h _ (by clear h; grind [q2, ql8, ql39, ql44, ql45, ql60, ql61])⟩ | exact ⟨Or.inr rfl, h _ (by clear h; grind [q2, ql8, ql39, ql44, ql45, ql60, ql61])⟩ | exact ⟨by grind, h _ (by clear h; grind [q2, ql8, ql39, ql44, ql45, ql60, ql61])⟩
    · refine ⟨fun c3 => ?_, fun c3 => ?_⟩
      · first | exact h _ (by clear h; grind [q2, ql8, ql39, ql44, ql45, ql60, ql61]) | exact ⟨Or.inl rfl, h _ (by clear h; grind [q2, ql8, ql39, ql44, ql45, ql60, ql61])⟩ | exact ⟨Or.inr rfl, h _ (by clear h; grind [q2, ql8, ql39, ql44, ql45, ql60, ql61])⟩ | exact ⟨by grind, h _ (by clear h; grind [q2, ql8, ql39, ql44, ql45, ql60, ql61])⟩
      · first | exact h _ (by clear h; grind [q2, ql8, ql39, ql44, ql45, ql60, ql61]) | exact ⟨Or.inl rfl, h _ (by clear h; grind [q2, ql8, ql39, ql44, ql45, ql60, ql61])⟩ | exact ⟨Or.inr rfl, h _ (by clear h; grind [q2, ql8, ql39, ql44, ql45, ql60, ql61])⟩ | exact ⟨by grind, h _ (by clear h; grind [q2, ql8, ql39, ql44, ql45, ql60, ql61])⟩
theorem c_X5_putHand {d z : Nat} {N : Nat → Nat} {I : Nat → Nat → Int32} {L : Nat → Nat → Int64} {R : Nat → Nat → Option Nat} {Q : qP} {r : Int32} (hn : 0 ≤ I 6 2 ∧ I 6 2 ≤ 6) (h1 : I 6 2 = 6 → Q (some (.int (-4))) (z, N, I, L, R)) (h2 : I 6 2 < 6 → Q (some (.int (I 6 2 + 1 - 1))) (z, N, q2 (q2 I 7 (I 6 2).toNatClampNeg r) 6 2 (I 6 2 + 1), L, R)) : qWP (d + 1) 67 [.ref 6, .int r] (z, N, I, L, R) Q := by
  refine qWP_of m_X5_putHand rfl rfl [(0, .ref 6), (1, .int r)] rfl ?_
  refine qJ_run (qWP_mono _) [] 400 ?_
  refine ⟨fun c1 => ?_, fun c1 => ?_⟩
  · first | exact h1 (by clear h1 h2; grind [q2, ql8, ql39, ql44, ql45, ql60, ql61]) | exact h2 (by clear h1 h2; grind [q2, ql8, ql39, ql44, ql45, ql60, ql61]) | exact absurd hn (by clear h1 h2; grind [q2, ql8, ql39, ql44, ql45, ql60, ql61])
  · refine ⟨fun c2 => ?_, fun c2 => ?_⟩
    · refine ⟨?_, ?_⟩
      · exact vb (N := 6) 6 (by decide) (by clear h1 h2; grind [q2, ql8, ql39, ql44, ql45, ql60, ql61]) (by clear h1 h2; grind [q2, ql8, ql39, ql44, ql45, ql60, ql61])
      first | exact h1 (by clear h1 h2; grind [q2, ql8, ql39, ql44, ql45, ql60, ql61]) | exact h2 (by clear h1 h2; grind [q2, ql8, ql39, ql44, ql45, ql60, ql61]) | exact absurd hn (by clear h1 h2; grind [q2, ql8, ql39, ql44, ql45, ql60, ql61])
    · first | exact h1 (by clear h1 h2; grind [q2, ql8, ql39, ql44, ql45, ql60, ql61]) | exact h2 (by clear h1 h2; grind [q2, ql8, ql39, ql44, ql45, ql60, ql61]) | exact absurd hn (by clear h1 h2; grind [q2, ql8, ql39, ql44, ql45, ql60, ql61])
theorem c_X5_index {d z : Nat} {N : Nat → Nat} {I : Nat → Nat → Int32} {L : Nat → Nat → Int64} {R : Nat → Nat → Option Nat} {Q : qP} {a : Int32} {s : Int32} {l : Int32} {p : Int32}  (h : ∀ v : Int32, v = ((a * 12 + s) * 4 + l) * 24 + p → Q (some (.int v)) (z, N, I, L, R)) : qWP (d + 1) 70 [.ref 6, .int a, .int s, .int l, .int p] (z, N, I, L, R) Q := by
  refine qWP_of m_X5_index rfl rfl [(0, .ref 6), (1, .int a), (2, .int s), (3, .int l), (4, .int p)] rfl ?_
  refine qJ_run (qWP_mono _) [] 400 ?_
  first | exact h _ (by clear h; grind [q2, ql8, ql39, ql44, ql45, ql60, ql61]) | exact ⟨Or.inl rfl, h _ (by clear h; grind [q2, ql8, ql39, ql44, ql45, ql60, ql61])⟩ | exact ⟨Or.inr rfl, h _ (by clear h; grind [q2, ql8, ql39, ql44, ql45, ql60, ql61])⟩ | exact ⟨by grind, h _ (by clear h; grind [q2, ql8, ql39, ql44, ql45, ql60, ql61])⟩
theorem c_X5_at {d z : Nat} {N : Nat → Nat} {I : Nat → Nat → Int32} {L : Nat → Nat → Int64} {R : Nat → Nat → Option Nat} {Q : qP} {a : Int32} {s : Int32} {l : Int32} {p : Int32}  (h : ∀ v : Int32, (v = if 0 ≤ ((a * 12 + s) * 4 + l) * 24 + p ∧ ((a * 12 + s) * 4 + l) * 24 + p < 6912 then I 8 (((a * 12 + s) * 4 + l) * 24 + p).toNatClampNeg else 0) → Q (some (.int v)) (z, N, I, L, R)) : qWP (d + 2) 71 [.ref 6, .int a, .int s, .int l, .int p] (z, N, I, L, R) Q := by
  refine qWP_of m_X5_at rfl rfl [(0, .ref 6), (1, .int a), (2, .int s), (3, .int l), (4, .int p)] rfl ?_
  refine qJ_run (qWP_mono _) [] 400 ?_
  refine ⟨⟨Nat.le_refl _, Nat.le_refl _⟩, ?_⟩
  refine c_X5_index fun v hv => ?_
  subst hv
  refine ⟨fun c1 => ?_, fun c1 => ?_⟩
  · first | exact h _ (by clear h; grind [q2, ql8, ql39, ql44, ql45, ql60, ql61]) | exact ⟨Or.inl rfl, h _ (by clear h; grind [q2, ql8, ql39, ql44, ql45, ql60, ql61])⟩ | exact ⟨Or.inr rfl, h _ (by clear h; grind [q2, ql8, ql39, ql44, ql45, ql60, ql61])⟩ | exact ⟨by grind, h _ (by clear h; grind [q2, ql8, ql39, ql44, ql45, ql60, ql61])⟩
  · refine ⟨fun c2 => ?_, fun c2 => ?_⟩
    · first | exact h _ (by clear h; grind [q2, ql8, ql39, ql44, ql45, ql60, ql61]) | exact ⟨Or.inl rfl, h _ (by clear h; grind [q2, ql8, ql39, ql44, ql45, ql60, ql61])⟩ | exact ⟨Or.inr rfl, h _ (by clear h; grind [q2, ql8, ql39, ql44, ql45, ql60, ql61])⟩ | exact ⟨by grind, h _ (by clear h; grind [q2, ql8, ql39, ql44, ql45, ql60, ql61])⟩
    · refine ⟨?_, ?_⟩
      · exact vb (N := 6912) 6912 (by decide) (by clear h; grind [q2, ql8, ql39, ql44, ql45, ql60, ql61]) (by clear h; grind [q2, ql8, ql39, ql44, ql45, ql60, ql61])
      first | exact h _ (by clear h; grind [q2, ql8, ql39, ql44, ql45, ql60, ql61]) | exact ⟨Or.inl rfl, h _ (by clear h; grind [q2, ql8, ql39, ql44, ql45, ql60, ql61])⟩ | exact ⟨Or.inr rfl, h _ (by clear h; grind [q2, ql8, ql39, ql44, ql45, ql60, ql61])⟩ | exact ⟨by grind, h _ (by clear h; grind [q2, ql8, ql39, ql44, ql45, ql60, ql61])⟩
theorem c_X5_put {d z : Nat} {N : Nat → Nat} {I : Nat → Nat → Int32} {L : Nat → Nat → Int64} {R : Nat → Nat → Option Nat} {Q : qP} {a : Int32} {s : Int32} {l : Int32} {p : Int32} {t : Int32} (h1 : 0 ≤ ((a * 12 + s) * 4 + l) * 24 + p → ((a * 12 + s) * 4 + l) * 24 + p < 6912 → Q none (z, N, q2 I 8 (((a * 12 + s) * 4 + l) * 24 + p).toNatClampNeg t, L, R)) (h2 : ¬ (0 ≤ ((a * 12 + s) * 4 + l) * 24 + p ∧ ((a * 12 + s) * 4 + l) * 24 + p < 6912) → Q none (z, N, I, L, R)) : qWP (d + 2) 72 [.ref 6, .int a, .int s, .int l, .int p, .int t] (z, N, I, L, R) Q := by
  refine qWP_of m_X5_put rfl rfl [(0, .ref 6), (1, .int a), (2, .int s), (3, .int l), (4, .int p), (5, .int t)] rfl ?_
  refine qJ_run (qWP_mono _) [] 400 ?_
  refine ⟨⟨Nat.le_refl _, Nat.le_refl _⟩, ?_⟩
  refine c_X5_index fun v hv => ?_
  subst hv
  refine ⟨fun c1 => ?_, fun c1 => ?_⟩
  · first | exact h2 (by clear h1 h2; grind [q2, ql8, ql39, ql44, ql45, ql60, ql61]) | exact h1 (by clear h1 h2; grind [q2, ql8, ql39, ql44, ql45, ql60, ql61]) (by clear h1 h2; grind [q2, ql8, ql39, ql44, ql45, ql60, ql61])
  · refine ⟨fun c2 => ?_, fun c2 => ?_⟩
    · first | exact h2 (by clear h1 h2; grind [q2, ql8, ql39, ql44, ql45, ql60, ql61]) | exact h1 (by clear h1 h2; grind [q2, ql8, ql39, ql44, ql45, ql60, ql61]) (by clear h1 h2; grind [q2, ql8, ql39, ql44, ql45, ql60, ql61])
    · refine ⟨?_, ?_⟩
      · exact vb (N := 6912) 6912 (by decide) (by clear h1 h2; grind [q2, ql8, ql39, ql44, ql45, ql60, ql61]) (by clear h1 h2; grind [q2, ql8, ql39, ql44, ql45, ql60, ql61])
      first | exact h2 (by clear h1 h2; grind [q2, ql8, ql39, ql44, ql45, ql60, ql61]) | exact h1 (by clear h1 h2; grind [q2, ql8, ql39, ql44, ql45, ql60, ql61]) (by clear h1 h2; grind [q2, ql8, ql39, ql44, ql45, ql60, ql61])
theorem c_X1_allowance {d z : Nat} {N : Nat → Nat} {I : Nat → Nat → Int32} {L : Nat → Nat → Int64} {R : Nat → Nat → Option Nat} {Q : qP}   (h : ∀ v : Int32, v = I 43 3 → Q (some (.int v)) (z, N, I, L, R)) : qWP (d + 1) 12 [.ref 43] (z, N, I, L, R) Q := by
  refine qWP_of m_X1_allowance rfl rfl [(0, .ref 43)] rfl ?_
  refine qJ_run (qWP_mono _) [] 400 ?_
  first | exact h _ (by clear h; grind [q2, ql8, ql39, ql44, ql45, ql60, ql61]) | exact ⟨Or.inl rfl, h _ (by clear h; grind [q2, ql8, ql39, ql44, ql45, ql60, ql61])⟩ | exact ⟨Or.inr rfl, h _ (by clear h; grind [q2, ql8, ql39, ql44, ql45, ql60, ql61])⟩ | exact ⟨by grind, h _ (by clear h; grind [q2, ql8, ql39, ql44, ql45, ql60, ql61])⟩
theorem c_X1_mark {d z : Nat} {N : Nat → Nat} {I : Nat → Nat → Int32} {L : Nat → Nat → Int64} {R : Nat → Nat → Option Nat} {Q : qP} {s : Int32} {e : Int32} {l : Int32}  (h : ∀ v : Int32, (v = if 0 ≤ (s * 2 + e) * 4 + l ∧ (s * 2 + e) * 4 + l < 96 then I 44 ((s * 2 + e) * 4 + l).toNatClampNeg else 0) → Q (some (.int v)) (z, N, I, L, R)) : qWP (d + 1) 13 [.ref 43, .int s, .int e, .int l] (z, N, I, L, R) Q := by
  refine qWP_of m_X1_mark rfl rfl [(0, .ref 43), (1, .int s), (2, .int e), (3, .int l)] rfl ?_
  refine qJ_run (qWP_mono _) [] 400 ?_
  refine ⟨fun c1 => ?_, fun c1 => ?_⟩
  · first | exact h _ (by clear h; grind [q2, ql8, ql39, ql44, ql45, ql60, ql61]) | exact ⟨Or.inl rfl, h _ (by clear h; grind [q2, ql8, ql39, ql44, ql45, ql60, ql61])⟩ | exact ⟨Or.inr rfl, h _ (by clear h; grind [q2, ql8, ql39, ql44, ql45, ql60, ql61])⟩ | exact ⟨by grind, h _ (by clear h; grind [q2, ql8, ql39, ql44, ql45, ql60, ql61])⟩
  · refine ⟨fun c2 => ?_, fun c2 => ?_⟩
    · first | exact h _ (by clear h; grind [q2, ql8, ql39, ql44, ql45, ql60, ql61]) | exact ⟨Or.inl rfl, h _ (by clear h; grind [q2, ql8, ql39, ql44, ql45, ql60, ql61])⟩ | exact ⟨Or.inr rfl, h _ (by clear h; grind [q2, ql8, ql39, ql44, ql45, ql60, ql61])⟩ | exact ⟨by grind, h _ (by clear h; grind [q2, ql8, ql39, ql44, ql45, ql60, ql61])⟩
    · refine ⟨?_, ?_⟩
      · exact vb (N := 96) 96 (by decide) (by clear h; grind [q2, ql8, ql39, ql44, ql45, ql60, ql61]) (by clear h; grind [q2, ql8, ql39, ql44, ql45, ql60, ql61])
      first | exact h _ (by clear h; grind [q2, ql8, ql39, ql44, ql45, ql60, ql61]) | exact ⟨Or.inl rfl, h _ (by clear h; grind [q2, ql8, ql39, ql44, ql45, ql60, ql61])⟩ | exact ⟨Or.inr rfl, h _ (by clear h; grind [q2, ql8, ql39, ql44, ql45, ql60, ql61])⟩ | exact ⟨by grind, h _ (by clear h; grind [q2, ql8, ql39, ql44, ql45, ql60, ql61])⟩
theorem c_X1_neighbour {d z : Nat} {N : Nat → Nat} {I : Nat → Nat → Int32} {L : Nat → Nat → Int64} {R : Nat → Nat → Option Nat} {Q : qP} {s : Int32} {e : Int32}  (h : ∀ v : Int32, (v = if 0 ≤ s * 2 + e ∧ s * 2 + e < 24 then I 45 (s * 2 + e).toNatClampNeg else -1) → Q (some (.int v)) (z, N, I, L, R)) : qWP (d + 1) 14 [.ref 43, .int s, .int e] (z, N, I, L, R) Q := by
  refine qWP_of m_X1_neighbour rfl rfl [(0, .ref 43), (1, .int s), (2, .int e)] rfl ?_
  refine qJ_run (qWP_mono _) [] 400 ?_
  refine ⟨fun c1 => ?_, fun c1 => ?_⟩
  · first | exact h _ (by clear h; grind [q2, ql8, ql39, ql44, ql45, ql60, ql61]) | exact ⟨Or.inl rfl, h _ (by clear h; grind [q2, ql8, ql39, ql44, ql45, ql60, ql61])⟩ | exact ⟨Or.inr rfl, h _ (by clear h; grind [q2, ql8, ql39, ql44, ql45, ql60, ql61])⟩ | exact ⟨by grind, h _ (by clear h; grind [q2, ql8, ql39, ql44, ql45, ql60, ql61])⟩
  · refine ⟨fun c2 => ?_, fun c2 => ?_⟩
    · first | exact h _ (by clear h; grind [q2, ql8, ql39, ql44, ql45, ql60, ql61]) | exact ⟨Or.inl rfl, h _ (by clear h; grind [q2, ql8, ql39, ql44, ql45, ql60, ql61])⟩ | exact ⟨Or.inr rfl, h _ (by clear h; grind [q2, ql8, ql39, ql44, ql45, ql60, ql61])⟩ | exact ⟨by grind, h _ (by clear h; grind [q2, ql8, ql39, ql44, ql45, ql60, ql61])⟩
    · refine ⟨?_, ?_⟩
      · exact vb (N := 24) 24 (by decide) (by clear h; grind [q2, ql8, ql39, ql44, ql45, ql60, ql61]) (by clear h; grind [q2, ql8, ql39, ql44, ql45, ql60, ql61])
      first | exact h _ (by clear h; grind [q2, ql8, ql39, ql44, ql45, ql60, ql61]) | exact ⟨Or.inl rfl, h _ (by clear h; grind [q2, ql8, ql39, ql44, ql45, ql60, ql61])⟩ | exact ⟨Or.inr rfl, h _ (by clear h; grind [q2, ql8, ql39, ql44, ql45, ql60, ql61])⟩ | exact ⟨by grind, h _ (by clear h; grind [q2, ql8, ql39, ql44, ql45, ql60, ql61])⟩
theorem c_X1_setNeighbour {d z : Nat} {N : Nat → Nat} {I : Nat → Nat → Int32} {L : Nat → Nat → Int64} {R : Nat → Nat → Option Nat} {Q : qP} {s : Int32} {e : Int32} {w : Int32} (h1 : 0 ≤ s * 2 + e → s * 2 + e < 24 → Q none (z, N, q2 I 45 (s * 2 + e).toNatClampNeg w, L, R)) (h2 : ¬ (0 ≤ s * 2 + e ∧ s * 2 + e < 24) → Q none (z, N, I, L, R)) : qWP (d + 1) 15 [.ref 43, .int s, .int e, .int w] (z, N, I, L, R) Q := by
  refine qWP_of m_X1_setNeighbour rfl rfl [(0, .ref 43), (1, .int s), (2, .int e), (3, .int w)] rfl ?_
  refine qJ_run (qWP_mono _) [] 400 ?_
  refine ⟨fun c1 => ?_, fun c1 => ?_⟩
  · first | exact h2 (by clear h1 h2; grind [q2, ql8, ql39, ql44, ql45, ql60, ql61]) | exact h1 (by clear h1 h2; grind [q2, ql8, ql39, ql44, ql45, ql60, ql61]) (by clear h1 h2; grind [q2, ql8, ql39, ql44, ql45, ql60, ql61])
  · refine ⟨fun c2 => ?_, fun c2 => ?_⟩
    · first | exact h2 (by clear h1 h2; grind [q2, ql8, ql39, ql44, ql45, ql60, ql61]) | exact h1 (by clear h1 h2; grind [q2, ql8, ql39, ql44, ql45, ql60, ql61]) (by clear h1 h2; grind [q2, ql8, ql39, ql44, ql45, ql60, ql61])
    · refine ⟨?_, ?_⟩
      · exact vb (N := 24) 24 (by decide) (by clear h1 h2; grind [q2, ql8, ql39, ql44, ql45, ql60, ql61]) (by clear h1 h2; grind [q2, ql8, ql39, ql44, ql45, ql60, ql61])
      first | exact h2 (by clear h1 h2; grind [q2, ql8, ql39, ql44, ql45, ql60, ql61]) | exact h1 (by clear h1 h2; grind [q2, ql8, ql39, ql44, ql45, ql60, ql61]) (by clear h1 h2; grind [q2, ql8, ql39, ql44, ql45, ql60, ql61])
theorem c_X0_size {d z : Nat} {N : Nat → Nat} {I : Nat → Nat → Int32} {L : Nat → Nat → Int64} {R : Nat → Nat → Option Nat} {Q : qP}   (h : ∀ v : Int32, v = I 46 7 → Q (some (.int v)) (z, N, I, L, R)) : qWP (d + 1) 1 [.ref 46] (z, N, I, L, R) Q := by
  refine qWP_of m_X0_size rfl rfl [(0, .ref 46)] rfl ?_
  refine qJ_run (qWP_mono _) [] 400 ?_
  first | exact h _ (by clear h; grind [q2, ql8, ql39, ql44, ql45, ql60, ql61]) | exact ⟨Or.inl rfl, h _ (by clear h; grind [q2, ql8, ql39, ql44, ql45, ql60, ql61])⟩ | exact ⟨Or.inr rfl, h _ (by clear h; grind [q2, ql8, ql39, ql44, ql45, ql60, ql61])⟩ | exact ⟨by grind, h _ (by clear h; grind [q2, ql8, ql39, ql44, ql45, ql60, ql61])⟩
theorem c_X0_limit {d z : Nat} {N : Nat → Nat} {I : Nat → Nat → Int32} {L : Nat → Nat → Int64} {R : Nat → Nat → Option Nat} {Q : qP} {s : Int32} {a : Int32} {b : Int32} (h1 : 0 ≤ s → s < 12 → Q none (z, N, q2 (q2 I 47 s.toNatClampNeg a) 48 s.toNatClampNeg b, L, R)) (h2 : ¬ (0 ≤ s ∧ s < 12) → Q none (z, N, I, L, R)) : qWP (d + 1) 2 [.ref 46, .int s, .int a, .int b] (z, N, I, L, R) Q := by
  refine qWP_of m_X0_limit rfl rfl [(0, .ref 46), (1, .int s), (2, .int a), (3, .int b)] rfl ?_
  refine qJ_run (qWP_mono _) [] 400 ?_
  refine ⟨fun c1 => ?_, fun c1 => ?_⟩
  · first | exact h2 (by clear h1 h2; grind [q2, ql8, ql39, ql44, ql45, ql60, ql61]) | exact h1 (by clear h1 h2; grind [q2, ql8, ql39, ql44, ql45, ql60, ql61]) (by clear h1 h2; grind [q2, ql8, ql39, ql44, ql45, ql60, ql61])
  · refine ⟨fun c2 => ?_, fun c2 => ?_⟩
    · first | exact h2 (by clear h1 h2; grind [q2, ql8, ql39, ql44, ql45, ql60, ql61]) | exact h1 (by clear h1 h2; grind [q2, ql8, ql39, ql44, ql45, ql60, ql61]) (by clear h1 h2; grind [q2, ql8, ql39, ql44, ql45, ql60, ql61])
    · refine ⟨?_, ?_⟩
      · exact vb (N := 12) 12 (by decide) (by clear h1 h2; grind [q2, ql8, ql39, ql44, ql45, ql60, ql61]) (by clear h1 h2; grind [q2, ql8, ql39, ql44, ql45, ql60, ql61])
      refine ⟨?_, ?_⟩
      · exact vb (N := 12) 12 (by decide) (by clear h1 h2; grind [q2, ql8, ql39, ql44, ql45, ql60, ql61]) (by clear h1 h2; grind [q2, ql8, ql39, ql44, ql45, ql60, ql61])
      first | exact h2 (by clear h1 h2; grind [q2, ql8, ql39, ql44, ql45, ql60, ql61]) | exact h1 (by clear h1 h2; grind [q2, ql8, ql39, ql44, ql45, ql60, ql61]) (by clear h1 h2; grind [q2, ql8, ql39, ql44, ql45, ql60, ql61])
theorem c_X0_drop {d z : Nat} {N : Nat → Nat} {I : Nat → Nat → Int32} {L : Nat → Nat → Int64} {R : Nat → Nat → Option Nat} {Q : qP}  (hn : 0 ≤ I 46 7 ∧ I 46 7 ≤ 20) (h1 : I 46 7 = 0 → Q (some (.int (-3))) (z, N, I, L, R)) (h2 : 0 < I 46 7 → Q (some (.int (I 46 7 - 1))) (z, N, q2 I 46 7 (I 46 7 - 1), L, R)) : qWP (d + 1) 4 [.ref 46] (z, N, I, L, R) Q := by
  refine qWP_of m_X0_drop rfl rfl [(0, .ref 46)] rfl ?_
  refine qJ_run (qWP_mono _) [] 400 ?_
  refine ⟨fun c1 => ?_, fun c1 => ?_⟩
  · first | exact h1 (by clear h1 h2; grind [q2, ql8, ql39, ql44, ql45, ql60, ql61]) | exact h2 (by clear h1 h2; grind [q2, ql8, ql39, ql44, ql45, ql60, ql61])
  · first | exact h1 (by clear h1 h2; grind [q2, ql8, ql39, ql44, ql45, ql60, ql61]) | exact h2 (by clear h1 h2; grind [q2, ql8, ql39, ql44, ql45, ql60, ql61])
theorem c_X0_earliest {d z : Nat} {N : Nat → Nat} {I : Nat → Nat → Int32} {L : Nat → Nat → Int64} {R : Nat → Nat → Option Nat} {Q : qP} {s : Int32}  (h : ∀ v : Int32, (v = if 0 ≤ s ∧ s < 12 then I 49 s.toNatClampNeg else -999) → Q (some (.int v)) (z, N, I, L, R)) : qWP (d + 1) 8 [.ref 46, .int s] (z, N, I, L, R) Q := by
  refine qWP_of m_X0_earliest rfl rfl [(0, .ref 46), (1, .int s)] rfl ?_
  refine qJ_run (qWP_mono _) [] 400 ?_
  refine ⟨fun c1 => ?_, fun c1 => ?_⟩
  · first | exact h _ (by clear h; grind [q2, ql8, ql39, ql44, ql45, ql60, ql61]) | exact ⟨Or.inl rfl, h _ (by clear h; grind [q2, ql8, ql39, ql44, ql45, ql60, ql61])⟩ | exact ⟨Or.inr rfl, h _ (by clear h; grind [q2, ql8, ql39, ql44, ql45, ql60, ql61])⟩ | exact ⟨by grind, h _ (by clear h; grind [q2, ql8, ql39, ql44, ql45, ql60, ql61])⟩
  · refine ⟨fun c2 => ?_, fun c2 => ?_⟩
    · first | exact h _ (by clear h; grind [q2, ql8, ql39, ql44, ql45, ql60, ql61]) | exact ⟨Or.inl rfl, h _ (by clear h; grind [q2, ql8, ql39, ql44, ql45, ql60, ql61])⟩ | exact ⟨Or.inr rfl, h _ (by clear h; grind [q2, ql8, ql39, ql44, ql45, ql60, ql61])⟩ | exact ⟨by grind, h _ (by clear h; grind [q2, ql8, ql39, ql44, ql45, ql60, ql61])⟩
    · refine ⟨?_, ?_⟩
      · exact vb (N := 12) 12 (by decide) (by clear h; grind [q2, ql8, ql39, ql44, ql45, ql60, ql61]) (by clear h; grind [q2, ql8, ql39, ql44, ql45, ql60, ql61])
      first | exact h _ (by clear h; grind [q2, ql8, ql39, ql44, ql45, ql60, ql61]) | exact ⟨Or.inl rfl, h _ (by clear h; grind [q2, ql8, ql39, ql44, ql45, ql60, ql61])⟩ | exact ⟨Or.inr rfl, h _ (by clear h; grind [q2, ql8, ql39, ql44, ql45, ql60, ql61])⟩ | exact ⟨by grind, h _ (by clear h; grind [q2, ql8, ql39, ql44, ql45, ql60, ql61])⟩
theorem c_X0_latest {d z : Nat} {N : Nat → Nat} {I : Nat → Nat → Int32} {L : Nat → Nat → Int64} {R : Nat → Nat → Option Nat} {Q : qP} {s : Int32}  (h : ∀ v : Int32, (v = if 0 ≤ s ∧ s < 12 then I 50 s.toNatClampNeg else 999) → Q (some (.int v)) (z, N, I, L, R)) : qWP (d + 1) 9 [.ref 46, .int s] (z, N, I, L, R) Q := by
  refine qWP_of m_X0_latest rfl rfl [(0, .ref 46), (1, .int s)] rfl ?_
  refine qJ_run (qWP_mono _) [] 400 ?_
  refine ⟨fun c1 => ?_, fun c1 => ?_⟩
  · first | exact h _ (by clear h; grind [q2, ql8, ql39, ql44, ql45, ql60, ql61]) | exact ⟨Or.inl rfl, h _ (by clear h; grind [q2, ql8, ql39, ql44, ql45, ql60, ql61])⟩ | exact ⟨Or.inr rfl, h _ (by clear h; grind [q2, ql8, ql39, ql44, ql45, ql60, ql61])⟩ | exact ⟨by grind, h _ (by clear h; grind [q2, ql8, ql39, ql44, ql45, ql60, ql61])⟩
  · refine ⟨fun c2 => ?_, fun c2 => ?_⟩
    · first | exact h _ (by clear h; grind [q2, ql8, ql39, ql44, ql45, ql60, ql61]) | exact ⟨Or.inl rfl, h _ (by clear h; grind [q2, ql8, ql39, ql44, ql45, ql60, ql61])⟩ | exact ⟨Or.inr rfl, h _ (by clear h; grind [q2, ql8, ql39, ql44, ql45, ql60, ql61])⟩ | exact ⟨by grind, h _ (by clear h; grind [q2, ql8, ql39, ql44, ql45, ql60, ql61])⟩
    · refine ⟨?_, ?_⟩
      · exact vb (N := 12) 12 (by decide) (by clear h; grind [q2, ql8, ql39, ql44, ql45, ql60, ql61]) (by clear h; grind [q2, ql8, ql39, ql44, ql45, ql60, ql61])
      first | exact h _ (by clear h; grind [q2, ql8, ql39, ql44, ql45, ql60, ql61]) | exact ⟨Or.inl rfl, h _ (by clear h; grind [q2, ql8, ql39, ql44, ql45, ql60, ql61])⟩ | exact ⟨Or.inr rfl, h _ (by clear h; grind [q2, ql8, ql39, ql44, ql45, ql60, ql61])⟩ | exact ⟨by grind, h _ (by clear h; grind [q2, ql8, ql39, ql44, ql45, ql60, ql61])⟩
theorem c_X0_put {d z : Nat} {N : Nat → Nat} {I : Nat → Nat → Int32} {L : Nat → Nat → Int64} {R : Nat → Nat → Option Nat} {Q : qP} {a : Int32} {b : Int32} {g : Int32} (hn : 0 ≤ I 46 7 ∧ I 46 7 ≤ 20) (ha : 0 ≤ a ∧ a < 12) (hb : 0 ≤ b ∧ b < 12) (h1 : I 46 7 = 20 → Q (some (.int (-4))) (z, N, I, L, R)) (h2 : I 46 7 < 20 → Q (some (.int (I 46 7 + 1))) (z, N, q2 (q2 (q2 (q2 I 51 (I 46 7).toNatClampNeg a) 52 (I 46 7).toNatClampNeg b) 53 (I 46 7).toNatClampNeg g) 46 7 (I 46 7 + 1), L, R)) : qWP (d + 1) 3 [.ref 46, .int a, .int b, .int g] (z, N, I, L, R) Q := by
  refine qWP_of m_X0_put rfl rfl [(0, .ref 46), (1, .int a), (2, .int b), (3, .int g)] rfl ?_
  refine qJ_run (qWP_mono _) [] 400 ?_
  refine ⟨fun c1 => ?_, fun c1 => ?_⟩
  · refine ⟨fun c2 => ?_, fun c2 => ?_⟩
    · first | exact h1 (by clear h1 h2; grind [q2, ql8, ql39, ql44, ql45, ql60, ql61]) | exact h2 (by clear h1 h2; grind [q2, ql8, ql39, ql44, ql45, ql60, ql61]) | exact absurd hn (by clear h1 h2; grind [q2, ql8, ql39, ql44, ql45, ql60, ql61])
    · refine ⟨fun c3 => ?_, fun c3 => ?_⟩
      · first | exact h1 (by clear h1 h2; grind [q2, ql8, ql39, ql44, ql45, ql60, ql61]) | exact h2 (by clear h1 h2; grind [q2, ql8, ql39, ql44, ql45, ql60, ql61]) | exact absurd hn (by clear h1 h2; grind [q2, ql8, ql39, ql44, ql45, ql60, ql61])
      · refine ⟨fun c4 => ?_, fun c4 => ?_⟩
        · refine ⟨?_, ?_⟩
          · exact vb (N := 20) 20 (by decide) (by clear h1 h2; grind [q2, ql8, ql39, ql44, ql45, ql60, ql61]) (by clear h1 h2; grind [q2, ql8, ql39, ql44, ql45, ql60, ql61])
          refine ⟨?_, ?_⟩
          · exact vb (N := 20) 20 (by decide) (by clear h1 h2; grind [q2, ql8, ql39, ql44, ql45, ql60, ql61]) (by clear h1 h2; grind [q2, ql8, ql39, ql44, ql45, ql60, ql61])
          refine ⟨?_, ?_⟩
          · exact vb (N := 20) 20 (by decide) (by clear h1 h2; grind [q2, ql8, ql39, ql44, ql45, ql60, ql61]) (by clear h1 h2; grind [q2, ql8, ql39, ql44, ql45, ql60, ql61])
          first | exact h1 (by clear h1 h2; grind [q2, ql8, ql39, ql44, ql45, ql60, ql61]) | exact h2 (by clear h1 h2; grind [q2, ql8, ql39, ql44, ql45, ql60, ql61]) | exact absurd hn (by clear h1 h2; grind [q2, ql8, ql39, ql44, ql45, ql60, ql61])
        · first | exact h1 (by clear h1 h2; grind [q2, ql8, ql39, ql44, ql45, ql60, ql61]) | exact h2 (by clear h1 h2; grind [q2, ql8, ql39, ql44, ql45, ql60, ql61]) | exact absurd hn (by clear h1 h2; grind [q2, ql8, ql39, ql44, ql45, ql60, ql61])
  · refine ⟨fun c5 => ?_, fun c5 => ?_⟩
    · refine ⟨fun c6 => ?_, fun c6 => ?_⟩
      · first | exact h1 (by clear h1 h2; grind [q2, ql8, ql39, ql44, ql45, ql60, ql61]) | exact h2 (by clear h1 h2; grind [q2, ql8, ql39, ql44, ql45, ql60, ql61]) | exact absurd hn (by clear h1 h2; grind [q2, ql8, ql39, ql44, ql45, ql60, ql61])
      · refine ⟨fun c7 => ?_, fun c7 => ?_⟩
        · first | exact h1 (by clear h1 h2; grind [q2, ql8, ql39, ql44, ql45, ql60, ql61]) | exact h2 (by clear h1 h2; grind [q2, ql8, ql39, ql44, ql45, ql60, ql61]) | exact absurd hn (by clear h1 h2; grind [q2, ql8, ql39, ql44, ql45, ql60, ql61])
        · refine ⟨fun c8 => ?_, fun c8 => ?_⟩
          · refine ⟨?_, ?_⟩
            · exact vb (N := 20) 20 (by decide) (by clear h1 h2; grind [q2, ql8, ql39, ql44, ql45, ql60, ql61]) (by clear h1 h2; grind [q2, ql8, ql39, ql44, ql45, ql60, ql61])
            refine ⟨?_, ?_⟩
            · exact vb (N := 20) 20 (by decide) (by clear h1 h2; grind [q2, ql8, ql39, ql44, ql45, ql60, ql61]) (by clear h1 h2; grind [q2, ql8, ql39, ql44, ql45, ql60, ql61])
            refine ⟨?_, ?_⟩
            · exact vb (N := 20) 20 (by decide) (by clear h1 h2; grind [q2, ql8, ql39, ql44, ql45, ql60, ql61]) (by clear h1 h2; grind [q2, ql8, ql39, ql44, ql45, ql60, ql61])
            first | exact h1 (by clear h1 h2; grind [q2, ql8, ql39, ql44, ql45, ql60, ql61]) | exact h2 (by clear h1 h2; grind [q2, ql8, ql39, ql44, ql45, ql60, ql61]) | exact absurd hn (by clear h1 h2; grind [q2, ql8, ql39, ql44, ql45, ql60, ql61])
          · first | exact h1 (by clear h1 h2; grind [q2, ql8, ql39, ql44, ql45, ql60, ql61]) | exact h2 (by clear h1 h2; grind [q2, ql8, ql39, ql44, ql45, ql60, ql61]) | exact absurd hn (by clear h1 h2; grind [q2, ql8, ql39, ql44, ql45, ql60, ql61])
    · refine ⟨fun c9 => ?_, fun c9 => ?_⟩
      · refine ⟨fun c10 => ?_, fun c10 => ?_⟩
        · first | exact h1 (by clear h1 h2; grind [q2, ql8, ql39, ql44, ql45, ql60, ql61]) | exact h2 (by clear h1 h2; grind [q2, ql8, ql39, ql44, ql45, ql60, ql61]) | exact absurd hn (by clear h1 h2; grind [q2, ql8, ql39, ql44, ql45, ql60, ql61])
        · refine ⟨fun c11 => ?_, fun c11 => ?_⟩
          · first | exact h1 (by clear h1 h2; grind [q2, ql8, ql39, ql44, ql45, ql60, ql61]) | exact h2 (by clear h1 h2; grind [q2, ql8, ql39, ql44, ql45, ql60, ql61]) | exact absurd hn (by clear h1 h2; grind [q2, ql8, ql39, ql44, ql45, ql60, ql61])
          · refine ⟨fun c12 => ?_, fun c12 => ?_⟩
            · refine ⟨?_, ?_⟩
              · exact vb (N := 20) 20 (by decide) (by clear h1 h2; grind [q2, ql8, ql39, ql44, ql45, ql60, ql61]) (by clear h1 h2; grind [q2, ql8, ql39, ql44, ql45, ql60, ql61])
              refine ⟨?_, ?_⟩
              · exact vb (N := 20) 20 (by decide) (by clear h1 h2; grind [q2, ql8, ql39, ql44, ql45, ql60, ql61]) (by clear h1 h2; grind [q2, ql8, ql39, ql44, ql45, ql60, ql61])
              refine ⟨?_, ?_⟩
              · exact vb (N := 20) 20 (by decide) (by clear h1 h2; grind [q2, ql8, ql39, ql44, ql45, ql60, ql61]) (by clear h1 h2; grind [q2, ql8, ql39, ql44, ql45, ql60, ql61])
              first | exact h1 (by clear h1 h2; grind [q2, ql8, ql39, ql44, ql45, ql60, ql61]) | exact h2 (by clear h1 h2; grind [q2, ql8, ql39, ql44, ql45, ql60, ql61]) | exact absurd hn (by clear h1 h2; grind [q2, ql8, ql39, ql44, ql45, ql60, ql61])
            · first | exact h1 (by clear h1 h2; grind [q2, ql8, ql39, ql44, ql45, ql60, ql61]) | exact h2 (by clear h1 h2; grind [q2, ql8, ql39, ql44, ql45, ql60, ql61]) | exact absurd hn (by clear h1 h2; grind [q2, ql8, ql39, ql44, ql45, ql60, ql61])
      · refine ⟨fun c13 => ?_, fun c13 => ?_⟩
        · refine ⟨fun c14 => ?_, fun c14 => ?_⟩
          · first | exact h1 (by clear h1 h2; grind [q2, ql8, ql39, ql44, ql45, ql60, ql61]) | exact h2 (by clear h1 h2; grind [q2, ql8, ql39, ql44, ql45, ql60, ql61]) | exact absurd hn (by clear h1 h2; grind [q2, ql8, ql39, ql44, ql45, ql60, ql61])
          · refine ⟨fun c15 => ?_, fun c15 => ?_⟩
            · first | exact h1 (by clear h1 h2; grind [q2, ql8, ql39, ql44, ql45, ql60, ql61]) | exact h2 (by clear h1 h2; grind [q2, ql8, ql39, ql44, ql45, ql60, ql61]) | exact absurd hn (by clear h1 h2; grind [q2, ql8, ql39, ql44, ql45, ql60, ql61])
            · refine ⟨fun c16 => ?_, fun c16 => ?_⟩
              · refine ⟨?_, ?_⟩
                · exact vb (N := 20) 20 (by decide) (by clear h1 h2; grind [q2, ql8, ql39, ql44, ql45, ql60, ql61]) (by clear h1 h2; grind [q2, ql8, ql39, ql44, ql45, ql60, ql61])
                refine ⟨?_, ?_⟩
                · exact vb (N := 20) 20 (by decide) (by clear h1 h2; grind [q2, ql8, ql39, ql44, ql45, ql60, ql61]) (by clear h1 h2; grind [q2, ql8, ql39, ql44, ql45, ql60, ql61])
                refine ⟨?_, ?_⟩
                · exact vb (N := 20) 20 (by decide) (by clear h1 h2; grind [q2, ql8, ql39, ql44, ql45, ql60, ql61]) (by clear h1 h2; grind [q2, ql8, ql39, ql44, ql45, ql60, ql61])
                first | exact h1 (by clear h1 h2; grind [q2, ql8, ql39, ql44, ql45, ql60, ql61]) | exact h2 (by clear h1 h2; grind [q2, ql8, ql39, ql44, ql45, ql60, ql61]) | exact absurd hn (by clear h1 h2; grind [q2, ql8, ql39, ql44, ql45, ql60, ql61])
              · first | exact h1 (by clear h1 h2; grind [q2, ql8, ql39, ql44, ql45, ql60, ql61]) | exact h2 (by clear h1 h2; grind [q2, ql8, ql39, ql44, ql45, ql60, ql61]) | exact absurd hn (by clear h1 h2; grind [q2, ql8, ql39, ql44, ql45, ql60, ql61])
        · refine ⟨fun c17 => ?_, fun c17 => ?_⟩
          · first | exact h1 (by clear h1 h2; grind [q2, ql8, ql39, ql44, ql45, ql60, ql61]) | exact h2 (by clear h1 h2; grind [q2, ql8, ql39, ql44, ql45, ql60, ql61]) | exact absurd hn (by clear h1 h2; grind [q2, ql8, ql39, ql44, ql45, ql60, ql61])
          · refine ⟨fun c18 => ?_, fun c18 => ?_⟩
            · first | exact h1 (by clear h1 h2; grind [q2, ql8, ql39, ql44, ql45, ql60, ql61]) | exact h2 (by clear h1 h2; grind [q2, ql8, ql39, ql44, ql45, ql60, ql61]) | exact absurd hn (by clear h1 h2; grind [q2, ql8, ql39, ql44, ql45, ql60, ql61])
            · refine ⟨fun c19 => ?_, fun c19 => ?_⟩
              · refine ⟨?_, ?_⟩
                · exact vb (N := 20) 20 (by decide) (by clear h1 h2; grind [q2, ql8, ql39, ql44, ql45, ql60, ql61]) (by clear h1 h2; grind [q2, ql8, ql39, ql44, ql45, ql60, ql61])
                refine ⟨?_, ?_⟩
                · exact vb (N := 20) 20 (by decide) (by clear h1 h2; grind [q2, ql8, ql39, ql44, ql45, ql60, ql61]) (by clear h1 h2; grind [q2, ql8, ql39, ql44, ql45, ql60, ql61])
                refine ⟨?_, ?_⟩
                · exact vb (N := 20) 20 (by decide) (by clear h1 h2; grind [q2, ql8, ql39, ql44, ql45, ql60, ql61]) (by clear h1 h2; grind [q2, ql8, ql39, ql44, ql45, ql60, ql61])
                first | exact h1 (by clear h1 h2; grind [q2, ql8, ql39, ql44, ql45, ql60, ql61]) | exact h2 (by clear h1 h2; grind [q2, ql8, ql39, ql44, ql45, ql60, ql61]) | exact absurd hn (by clear h1 h2; grind [q2, ql8, ql39, ql44, ql45, ql60, ql61])
              · first | exact h1 (by clear h1 h2; grind [q2, ql8, ql39, ql44, ql45, ql60, ql61]) | exact h2 (by clear h1 h2; grind [q2, ql8, ql39, ql44, ql45, ql60, ql61]) | exact absurd hn (by clear h1 h2; grind [q2, ql8, ql39, ql44, ql45, ql60, ql61])
theorem c_X3_size {d z : Nat} {N : Nat → Nat} {I : Nat → Nat → Int32} {L : Nat → Nat → Int64} {R : Nat → Nat → Option Nat} {Q : qP}   (h : ∀ v : Int32, v = I 59 2 → Q (some (.int v)) (z, N, I, L, R)) : qWP (d + 1) 40 [.ref 59] (z, N, I, L, R) Q := by
  refine qWP_of m_X3_size rfl rfl [(0, .ref 59)] rfl ?_
  refine qJ_run (qWP_mono _) [] 400 ?_
  first | exact h _ (by clear h; grind [q2, ql8, ql39, ql44, ql45, ql60, ql61]) | exact ⟨Or.inl rfl, h _ (by clear h; grind [q2, ql8, ql39, ql44, ql45, ql60, ql61])⟩ | exact ⟨Or.inr rfl, h _ (by clear h; grind [q2, ql8, ql39, ql44, ql45, ql60, ql61])⟩ | exact ⟨by grind, h _ (by clear h; grind [q2, ql8, ql39, ql44, ql45, ql60, ql61])⟩
theorem c_X3_clear {d z : Nat} {N : Nat → Nat} {I : Nat → Nat → Int32} {L : Nat → Nat → Int64} {R : Nat → Nat → Option Nat} {Q : qP}  (h : Q none (z, N, q2 I 59 2 0, L, R)) : qWP (d + 1) 39 [.ref 59] (z, N, I, L, R) Q := by
  refine qWP_of m_X3_clear rfl rfl [(0, .ref 59)] rfl ?_
  refine qJ_run (qWP_mono _) [] 400 ?_
  exact h
theorem c_X3_byteAt {d z : Nat} {N : Nat → Nat} {I : Nat → Nat → Int32} {L : Nat → Nat → Int64} {R : Nat → Nat → Option Nat} {Q : qP} {a : Int32} (hn : 0 ≤ I 59 2 ∧ I 59 2 ≤ 72) (h : ∀ v : Int32, (v = if 0 ≤ a ∧ a < I 59 2 then I 60 a.toNatClampNeg else -1) → Q (some (.int v)) (z, N, I, L, R)) : qWP (d + 1) 41 [.ref 59, .int a] (z, N, I, L, R) Q := by
  refine qWP_of m_X3_byteAt rfl rfl [(0, .ref 59), (1, .int a)] rfl ?_
  refine qJ_run (qWP_mono _) [] 400 ?_
  refine ⟨fun c1 => ?_, fun c1 => ?_⟩
  · first | exact h _ (by clear h; grind [q2, ql8, ql39, ql44, ql45, ql60, ql61]) | exact ⟨Or.inl rfl, h _ (by clear h; grind [q2, ql8, ql39, ql44, ql45, ql60, ql61])⟩ | exact ⟨Or.inr rfl, h _ (by clear h; grind [q2, ql8, ql39, ql44, ql45, ql60, ql61])⟩ | exact ⟨by grind, h _ (by clear h; grind [q2, ql8, ql39, ql44, ql45, ql60, ql61])⟩
  · refine ⟨fun c2 => ?_, fun c2 => ?_⟩
    · first | exact h _ (by clear h; grind [q2, ql8, ql39, ql44, ql45, ql60, ql61]) | exact ⟨Or.inl rfl, h _ (by clear h; grind [q2, ql8, ql39, ql44, ql45, ql60, ql61])⟩ | exact ⟨Or.inr rfl, h _ (by clear h; grind [q2, ql8, ql39, ql44, ql45, ql60, ql61])⟩ | exact ⟨by grind, h _ (by clear h; grind [q2, ql8, ql39, ql44, ql45, ql60, ql61])⟩
    · refine ⟨fun c3 => ?_, fun c3 => ?_⟩
      · first | exact h _ (by clear h; grind [q2, ql8, ql39, ql44, ql45, ql60, ql61]) | exact ⟨Or.inl rfl, h _ (by clear h; grind [q2, ql8, ql39, ql44, ql45, ql60, ql61])⟩ | exact ⟨Or.inr rfl, h _ (by clear h; grind [q2, ql8, ql39, ql44, ql45, ql60, ql61])⟩ | exact ⟨by grind, h _ (by clear h; grind [q2, ql8, ql39, ql44, ql45, ql60, ql61])⟩
      · refine ⟨?_, ?_⟩
        · exact vb (N := 72) 72 (by decide) (by clear h; grind [q2, ql8, ql39, ql44, ql45, ql60, ql61]) (by clear h; grind [q2, ql8, ql39, ql44, ql45, ql60, ql61])
        first | exact h _ (by clear h; grind [q2, ql8, ql39, ql44, ql45, ql60, ql61]) | exact ⟨Or.inl rfl, h _ (by clear h; grind [q2, ql8, ql39, ql44, ql45, ql60, ql61])⟩ | exact ⟨Or.inr rfl, h _ (by clear h; grind [q2, ql8, ql39, ql44, ql45, ql60, ql61])⟩ | exact ⟨by grind, h _ (by clear h; grind [q2, ql8, ql39, ql44, ql45, ql60, ql61])⟩
theorem c_X3_parsedAt {d z : Nat} {N : Nat → Nat} {I : Nat → Nat → Int32} {L : Nat → Nat → Int64} {R : Nat → Nat → Option Nat} {Q : qP} {a : Int32}  (h : ∀ v : Int32, (v = if 0 ≤ a ∧ a < 24 then I 61 a.toNatClampNeg else 0) → Q (some (.int v)) (z, N, I, L, R)) : qWP (d + 1) 42 [.ref 59, .int a] (z, N, I, L, R) Q := by
  refine qWP_of m_X3_parsedAt rfl rfl [(0, .ref 59), (1, .int a)] rfl ?_
  refine qJ_run (qWP_mono _) [] 400 ?_
  refine ⟨fun c1 => ?_, fun c1 => ?_⟩
  · first | exact h _ (by clear h; grind [q2, ql8, ql39, ql44, ql45, ql60, ql61]) | exact ⟨Or.inl rfl, h _ (by clear h; grind [q2, ql8, ql39, ql44, ql45, ql60, ql61])⟩ | exact ⟨Or.inr rfl, h _ (by clear h; grind [q2, ql8, ql39, ql44, ql45, ql60, ql61])⟩ | exact ⟨by grind, h _ (by clear h; grind [q2, ql8, ql39, ql44, ql45, ql60, ql61])⟩
  · refine ⟨fun c2 => ?_, fun c2 => ?_⟩
    · first | exact h _ (by clear h; grind [q2, ql8, ql39, ql44, ql45, ql60, ql61]) | exact ⟨Or.inl rfl, h _ (by clear h; grind [q2, ql8, ql39, ql44, ql45, ql60, ql61])⟩ | exact ⟨Or.inr rfl, h _ (by clear h; grind [q2, ql8, ql39, ql44, ql45, ql60, ql61])⟩ | exact ⟨by grind, h _ (by clear h; grind [q2, ql8, ql39, ql44, ql45, ql60, ql61])⟩
    · refine ⟨?_, ?_⟩
      · exact vb (N := 24) 24 (by decide) (by clear h; grind [q2, ql8, ql39, ql44, ql45, ql60, ql61]) (by clear h; grind [q2, ql8, ql39, ql44, ql45, ql60, ql61])
      first | exact h _ (by clear h; grind [q2, ql8, ql39, ql44, ql45, ql60, ql61]) | exact ⟨Or.inl rfl, h _ (by clear h; grind [q2, ql8, ql39, ql44, ql45, ql60, ql61])⟩ | exact ⟨Or.inr rfl, h _ (by clear h; grind [q2, ql8, ql39, ql44, ql45, ql60, ql61])⟩ | exact ⟨by grind, h _ (by clear h; grind [q2, ql8, ql39, ql44, ql45, ql60, ql61])⟩
theorem c_X3_shown {d z : Nat} {N : Nat → Nat} {I : Nat → Nat → Int32} {L : Nat → Nat → Int64} {R : Nat → Nat → Option Nat} {Q : qP} {b : Int32}  (h : ∀ v : Int32, (v = if b = 26 then 95 else 97 + b) → Q (some (.int v)) (z, N, I, L, R)) : qWP (d + 1) 46 [.int b] (z, N, I, L, R) Q := by
  refine qWP_of m_X3_shown rfl rfl [(0, .int b)] rfl ?_
  refine qJ_run (qWP_mono _) [] 400 ?_
  refine ⟨fun c1 => ?_, fun c1 => ?_⟩
  · first | exact h _ (by clear h; grind [q2, ql8, ql39, ql44, ql45, ql60, ql61]) | exact ⟨Or.inl rfl, h _ (by clear h; grind [q2, ql8, ql39, ql44, ql45, ql60, ql61])⟩ | exact ⟨Or.inr rfl, h _ (by clear h; grind [q2, ql8, ql39, ql44, ql45, ql60, ql61])⟩ | exact ⟨by grind, h _ (by clear h; grind [q2, ql8, ql39, ql44, ql45, ql60, ql61])⟩
  · first | exact h _ (by clear h; grind [q2, ql8, ql39, ql44, ql45, ql60, ql61]) | exact ⟨Or.inl rfl, h _ (by clear h; grind [q2, ql8, ql39, ql44, ql45, ql60, ql61])⟩ | exact ⟨Or.inr rfl, h _ (by clear h; grind [q2, ql8, ql39, ql44, ql45, ql60, ql61])⟩ | exact ⟨by grind, h _ (by clear h; grind [q2, ql8, ql39, ql44, ql45, ql60, ql61])⟩
theorem c_X3_letterShown {d z : Nat} {N : Nat → Nat} {I : Nat → Nat → Int32} {L : Nat → Nat → Int64} {R : Nat → Nat → Option Nat} {Q : qP} {b : Int32}  (h : ∀ v : Int32, (v = if b = 95 then 26 else if 97 ≤ b ∧ b ≤ 122 then b - 97 else -1) → Q (some (.int v)) (z, N, I, L, R)) : qWP (d + 2) 47 [.int b] (z, N, I, L, R) Q := by
  refine qWP_of m_X3_letterShown rfl rfl [(0, .int b)] rfl ?_
  refine qJ_run (qWP_mono _) [] 400 ?_
  refine ⟨fun c1 => ?_, fun c1 => ?_⟩
  · refine ⟨⟨Nat.le_refl _, Nat.le_refl _⟩, ?_⟩
    refine c_X8_letterOf fun v hv => ?_
    first | exact h _ (by clear h; grind [q2, ql8, ql39, ql44, ql45, ql60, ql61]) | exact ⟨Or.inl rfl, h _ (by clear h; grind [q2, ql8, ql39, ql44, ql45, ql60, ql61])⟩ | exact ⟨Or.inr rfl, h _ (by clear h; grind [q2, ql8, ql39, ql44, ql45, ql60, ql61])⟩ | exact ⟨by grind, h _ (by clear h; grind [q2, ql8, ql39, ql44, ql45, ql60, ql61])⟩
  · first | exact h _ (by clear h; grind [q2, ql8, ql39, ql44, ql45, ql60, ql61]) | exact ⟨Or.inl rfl, h _ (by clear h; grind [q2, ql8, ql39, ql44, ql45, ql60, ql61])⟩ | exact ⟨Or.inr rfl, h _ (by clear h; grind [q2, ql8, ql39, ql44, ql45, ql60, ql61])⟩ | exact ⟨by grind, h _ (by clear h; grind [q2, ql8, ql39, ql44, ql45, ql60, ql61])⟩
theorem c_X10_has {d z : Nat} {N : Nat → Nat} {I : Nat → Nat → Int32} {L : Nat → Nat → Int64} {R : Nat → Nat → Option Nat} {Q : qP} {t : Int32}  (h : ∀ v : Int32, (v = if 0 ≤ t ∧ t < 4 then 1 else 0) → Q (some (.int v)) (z, N, I, L, R)) : qWP (d + 1) 115 [.int t] (z, N, I, L, R) Q := by
  refine qWP_of m_X10_has rfl rfl [(0, .int t)] rfl ?_
  refine qJ_run (qWP_mono _) [] 400 ?_
  refine ⟨fun c1 => ?_, fun c1 => ?_⟩
  · first | exact h _ (by clear h; grind [q2, ql8, ql39, ql44, ql45, ql60, ql61]) | exact ⟨Or.inl rfl, h _ (by clear h; grind [q2, ql8, ql39, ql44, ql45, ql60, ql61])⟩ | exact ⟨Or.inr rfl, h _ (by clear h; grind [q2, ql8, ql39, ql44, ql45, ql60, ql61])⟩ | exact ⟨by grind, h _ (by clear h; grind [q2, ql8, ql39, ql44, ql45, ql60, ql61])⟩
  · refine ⟨fun c2 => ?_, fun c2 => ?_⟩
    · first | exact h _ (by clear h; grind [q2, ql8, ql39, ql44, ql45, ql60, ql61]) | exact ⟨Or.inl rfl, h _ (by clear h; grind [q2, ql8, ql39, ql44, ql45, ql60, ql61])⟩ | exact ⟨Or.inr rfl, h _ (by clear h; grind [q2, ql8, ql39, ql44, ql45, ql60, ql61])⟩ | exact ⟨by grind, h _ (by clear h; grind [q2, ql8, ql39, ql44, ql45, ql60, ql61])⟩
    · first | exact h _ (by clear h; grind [q2, ql8, ql39, ql44, ql45, ql60, ql61]) | exact ⟨Or.inl rfl, h _ (by clear h; grind [q2, ql8, ql39, ql44, ql45, ql60, ql61])⟩ | exact ⟨Or.inr rfl, h _ (by clear h; grind [q2, ql8, ql39, ql44, ql45, ql60, ql61])⟩ | exact ⟨by grind, h _ (by clear h; grind [q2, ql8, ql39, ql44, ql45, ql60, ql61])⟩
theorem c_X10_sizeOf {d z : Nat} {N : Nat → Nat} {I : Nat → Nat → Int32} {L : Nat → Nat → Int64} {R : Nat → Nat → Option Nat} {Q : qP} {t : Int32}  (h : ∀ v : Int32, (v = if 0 ≤ t ∧ t < 4 then I 64 t.toNatClampNeg else -1) → Q (some (.int v)) (z, N, I, L, R)) : qWP (d + 2) 117 [.ref 62, .int t] (z, N, I, L, R) Q := by
  refine qWP_of m_X10_sizeOf rfl rfl [(0, .ref 62), (1, .int t)] rfl ?_
  refine qJ_run (qWP_mono _) [] 400 ?_
  refine ⟨⟨Nat.le_refl _, Nat.le_refl _⟩, ?_⟩
  refine c_X10_has fun v hv => ?_
  refine ⟨fun c1 => ?_, fun c1 => ?_⟩
  · first | exact h _ (by clear h; grind [q2, ql8, ql39, ql44, ql45, ql60, ql61]) | exact ⟨Or.inl rfl, h _ (by clear h; grind [q2, ql8, ql39, ql44, ql45, ql60, ql61])⟩ | exact ⟨Or.inr rfl, h _ (by clear h; grind [q2, ql8, ql39, ql44, ql45, ql60, ql61])⟩ | exact ⟨by grind, h _ (by clear h; grind [q2, ql8, ql39, ql44, ql45, ql60, ql61])⟩
  · refine ⟨?_, ?_⟩
    · exact vb (N := 4) 4 (by decide) (by clear h; grind [q2, ql8, ql39, ql44, ql45, ql60, ql61]) (by clear h; grind [q2, ql8, ql39, ql44, ql45, ql60, ql61])
    first | exact h _ (by clear h; grind [q2, ql8, ql39, ql44, ql45, ql60, ql61]) | exact ⟨Or.inl rfl, h _ (by clear h; grind [q2, ql8, ql39, ql44, ql45, ql60, ql61])⟩ | exact ⟨Or.inr rfl, h _ (by clear h; grind [q2, ql8, ql39, ql44, ql45, ql60, ql61])⟩ | exact ⟨by grind, h _ (by clear h; grind [q2, ql8, ql39, ql44, ql45, ql60, ql61])⟩
theorem c_X10_isMissing {d z : Nat} {N : Nat → Nat} {I : Nat → Nat → Int32} {L : Nat → Nat → Int64} {R : Nat → Nat → Option Nat} {Q : qP} {t : Int32}  (h : ∀ v : Int32, (v = if (if 0 ≤ t ∧ t < 4 then I 64 t.toNatClampNeg else -1) = -1 then 1 else 0) → Q (some (.int v)) (z, N, I, L, R)) : qWP (d + 3) 116 [.ref 62, .int t] (z, N, I, L, R) Q := by
  refine qWP_of m_X10_isMissing rfl rfl [(0, .ref 62), (1, .int t)] rfl ?_
  refine qJ_run (qWP_mono _) [] 400 ?_
  refine ⟨⟨Nat.le_refl _, Nat.le_refl _⟩, ?_⟩
  refine c_X10_sizeOf fun v hv => ?_
  refine ⟨fun c1 => ?_, fun c1 => ?_⟩
  · first | exact h _ (by clear h; grind [q2, ql8, ql39, ql44, ql45, ql60, ql61]) | exact ⟨Or.inl rfl, h _ (by clear h; grind [q2, ql8, ql39, ql44, ql45, ql60, ql61])⟩ | exact ⟨Or.inr rfl, h _ (by clear h; grind [q2, ql8, ql39, ql44, ql45, ql60, ql61])⟩ | exact ⟨by grind, h _ (by clear h; grind [q2, ql8, ql39, ql44, ql45, ql60, ql61])⟩
  · first | exact h _ (by clear h; grind [q2, ql8, ql39, ql44, ql45, ql60, ql61]) | exact ⟨Or.inl rfl, h _ (by clear h; grind [q2, ql8, ql39, ql44, ql45, ql60, ql61])⟩ | exact ⟨Or.inr rfl, h _ (by clear h; grind [q2, ql8, ql39, ql44, ql45, ql60, ql61])⟩ | exact ⟨by grind, h _ (by clear h; grind [q2, ql8, ql39, ql44, ql45, ql60, ql61])⟩
theorem c_X7_clear {d z : Nat} {N : Nat → Nat} {I : Nat → Nat → Int32} {L : Nat → Nat → Int64} {R : Nat → Nat → Option Nat} {Q : qP}  (h : Q none (z, N, q2 I 40 2 0, L, R)) : qWP (d + 1) 85 [.ref 40] (z, N, I, L, R) Q := by
  refine qWP_of m_X7_clear rfl rfl [(0, .ref 40)] rfl ?_
  refine qJ_run (qWP_mono _) [] 400 ?_
  exact h
theorem c_X7_add {d z : Nat} {N : Nat → Nat} {I : Nat → Nat → Int32} {L : Nat → Nat → Int64} {R : Nat → Nat → Option Nat} {Q : qP} {y : Int32} (hn : 0 ≤ I 40 2 ∧ I 40 2 ≤ 24) (h1 : I 40 2 = 24 → Q (some (.int 0)) (z, N, I, L, R)) (h2 : I 40 2 < 24 → Q (some (.int 1)) (z, N, q2 (q2 I 41 (I 40 2).toNatClampNeg y) 40 2 (I 40 2 + 1), L, R)) : qWP (d + 1) 86 [.ref 40, .int y] (z, N, I, L, R) Q := by
  refine qWP_of m_X7_add rfl rfl [(0, .ref 40), (1, .int y)] rfl ?_
  refine qJ_run (qWP_mono _) [] 400 ?_
  refine ⟨fun c1 => ?_, fun c1 => ?_⟩
  · first | exact ⟨Or.inl rfl, h1 (by clear h1 h2; grind [q2, ql8, ql39, ql44, ql45, ql60, ql61])⟩ | exact ⟨Or.inr rfl, h2 (by clear h1 h2; grind [q2, ql8, ql39, ql44, ql45, ql60, ql61])⟩ | exact absurd hn (by clear h1 h2; grind [q2, ql8, ql39, ql44, ql45, ql60, ql61])
  · refine ⟨fun c2 => ?_, fun c2 => ?_⟩
    · refine ⟨?_, ?_⟩
      · exact vb (N := 24) 24 (by decide) (by clear h1 h2; grind [q2, ql8, ql39, ql44, ql45, ql60, ql61]) (by clear h1 h2; grind [q2, ql8, ql39, ql44, ql45, ql60, ql61])
      first | exact ⟨Or.inl rfl, h1 (by clear h1 h2; grind [q2, ql8, ql39, ql44, ql45, ql60, ql61])⟩ | exact ⟨Or.inr rfl, h2 (by clear h1 h2; grind [q2, ql8, ql39, ql44, ql45, ql60, ql61])⟩ | exact absurd hn (by clear h1 h2; grind [q2, ql8, ql39, ql44, ql45, ql60, ql61])
    · first | exact ⟨Or.inl rfl, h1 (by clear h1 h2; grind [q2, ql8, ql39, ql44, ql45, ql60, ql61])⟩ | exact ⟨Or.inr rfl, h2 (by clear h1 h2; grind [q2, ql8, ql39, ql44, ql45, ql60, ql61])⟩ | exact absurd hn (by clear h1 h2; grind [q2, ql8, ql39, ql44, ql45, ql60, ql61])
theorem c_X7_carriedAt {d z : Nat} {N : Nat → Nat} {I : Nat → Nat → Int32} {L : Nat → Nat → Int64} {R : Nat → Nat → Option Nat} {Q : qP} {a : Int32} (hn : 0 ≤ I 40 2 ∧ I 40 2 ≤ 24) (h : ∀ v : Int32, (v = if 0 ≤ a ∧ a < I 40 2 ∧ a < 24 then I 42 a.toNatClampNeg else -1) → Q (some (.int v)) (z, N, I, L, R)) : qWP (d + 1) 93 [.ref 40, .int a] (z, N, I, L, R) Q := by
  refine qWP_of m_X7_carriedAt rfl rfl [(0, .ref 40), (1, .int a)] rfl ?_
  refine qJ_run (qWP_mono _) [] 400 ?_
  refine ⟨fun c1 => ?_, fun c1 => ?_⟩
  · first | exact h _ (by clear h; grind [q2, ql8, ql39, ql44, ql45, ql60, ql61]) | exact ⟨Or.inl rfl, h _ (by clear h; grind [q2, ql8, ql39, ql44, ql45, ql60, ql61])⟩ | exact ⟨Or.inr rfl, h _ (by clear h; grind [q2, ql8, ql39, ql44, ql45, ql60, ql61])⟩ | exact ⟨by grind, h _ (by clear h; grind [q2, ql8, ql39, ql44, ql45, ql60, ql61])⟩
  · refine ⟨fun c2 => ?_, fun c2 => ?_⟩
    · first | exact h _ (by clear h; grind [q2, ql8, ql39, ql44, ql45, ql60, ql61]) | exact ⟨Or.inl rfl, h _ (by clear h; grind [q2, ql8, ql39, ql44, ql45, ql60, ql61])⟩ | exact ⟨Or.inr rfl, h _ (by clear h; grind [q2, ql8, ql39, ql44, ql45, ql60, ql61])⟩ | exact ⟨by grind, h _ (by clear h; grind [q2, ql8, ql39, ql44, ql45, ql60, ql61])⟩
    · refine ⟨fun c3 => ?_, fun c3 => ?_⟩
      · first | exact h _ (by clear h; grind [q2, ql8, ql39, ql44, ql45, ql60, ql61]) | exact ⟨Or.inl rfl, h _ (by clear h; grind [q2, ql8, ql39, ql44, ql45, ql60, ql61])⟩ | exact ⟨Or.inr rfl, h _ (by clear h; grind [q2, ql8, ql39, ql44, ql45, ql60, ql61])⟩ | exact ⟨by grind, h _ (by clear h; grind [q2, ql8, ql39, ql44, ql45, ql60, ql61])⟩
      · refine ⟨?_, ?_⟩
        · exact vb (N := 24) 24 (by decide) (by clear h; grind [q2, ql8, ql39, ql44, ql45, ql60, ql61]) (by clear h; grind [q2, ql8, ql39, ql44, ql45, ql60, ql61])
        first | exact h _ (by clear h; grind [q2, ql8, ql39, ql44, ql45, ql60, ql61]) | exact ⟨Or.inl rfl, h _ (by clear h; grind [q2, ql8, ql39, ql44, ql45, ql60, ql61])⟩ | exact ⟨Or.inr rfl, h _ (by clear h; grind [q2, ql8, ql39, ql44, ql45, ql60, ql61])⟩ | exact ⟨by grind, h _ (by clear h; grind [q2, ql8, ql39, ql44, ql45, ql60, ql61])⟩
theorem c_X4_size {d z : Nat} {N : Nat → Nat} {I : Nat → Nat → Int32} {L : Nat → Nat → Int64} {R : Nat → Nat → Option Nat} {Q : qP}   (h : ∀ v : Int32, v = I 54 5 → Q (some (.int v)) (z, N, I, L, R)) : qWP (d + 1) 53 [.ref 54] (z, N, I, L, R) Q := by
  refine qWP_of m_X4_size rfl rfl [(0, .ref 54)] rfl ?_
  refine qJ_run (qWP_mono _) [] 400 ?_
  first | exact h _ (by clear h; grind [q2, ql8, ql39, ql44, ql45, ql60, ql61]) | exact ⟨Or.inl rfl, h _ (by clear h; grind [q2, ql8, ql39, ql44, ql45, ql60, ql61])⟩ | exact ⟨Or.inr rfl, h _ (by clear h; grind [q2, ql8, ql39, ql44, ql45, ql60, ql61])⟩ | exact ⟨by grind, h _ (by clear h; grind [q2, ql8, ql39, ql44, ql45, ql60, ql61])⟩
theorem c_X4_has {d z : Nat} {N : Nat → Nat} {I : Nat → Nat → Int32} {L : Nat → Nat → Int64} {R : Nat → Nat → Option Nat} {Q : qP} {s : Int32} (hn : 0 ≤ I 54 5 ∧ I 54 5 ≤ 12) (h : ∀ v : Int32, (v = if 0 ≤ s ∧ s < I 54 5 then 1 else 0) → Q (some (.int v)) (z, N, I, L, R)) : qWP (d + 1) 54 [.ref 54, .int s] (z, N, I, L, R) Q := by
  refine qWP_of m_X4_has rfl rfl [(0, .ref 54), (1, .int s)] rfl ?_
  refine qJ_run (qWP_mono _) [] 400 ?_
  refine ⟨fun c1 => ?_, fun c1 => ?_⟩
  · first | exact h _ (by clear h; grind [q2, ql8, ql39, ql44, ql45, ql60, ql61]) | exact ⟨Or.inl rfl, h _ (by clear h; grind [q2, ql8, ql39, ql44, ql45, ql60, ql61])⟩ | exact ⟨Or.inr rfl, h _ (by clear h; grind [q2, ql8, ql39, ql44, ql45, ql60, ql61])⟩ | exact ⟨by grind, h _ (by clear h; grind [q2, ql8, ql39, ql44, ql45, ql60, ql61])⟩
  · refine ⟨fun c2 => ?_, fun c2 => ?_⟩
    · first | exact h _ (by clear h; grind [q2, ql8, ql39, ql44, ql45, ql60, ql61]) | exact ⟨Or.inl rfl, h _ (by clear h; grind [q2, ql8, ql39, ql44, ql45, ql60, ql61])⟩ | exact ⟨Or.inr rfl, h _ (by clear h; grind [q2, ql8, ql39, ql44, ql45, ql60, ql61])⟩ | exact ⟨by grind, h _ (by clear h; grind [q2, ql8, ql39, ql44, ql45, ql60, ql61])⟩
    · refine ⟨fun c3 => ?_, fun c3 => ?_⟩
      · first | exact h _ (by clear h; grind [q2, ql8, ql39, ql44, ql45, ql60, ql61]) | exact ⟨Or.inl rfl, h _ (by clear h; grind [q2, ql8, ql39, ql44, ql45, ql60, ql61])⟩ | exact ⟨Or.inr rfl, h _ (by clear h; grind [q2, ql8, ql39, ql44, ql45, ql60, ql61])⟩ | exact ⟨by grind, h _ (by clear h; grind [q2, ql8, ql39, ql44, ql45, ql60, ql61])⟩
      · first | exact h _ (by clear h; grind [q2, ql8, ql39, ql44, ql45, ql60, ql61]) | exact ⟨Or.inl rfl, h _ (by clear h; grind [q2, ql8, ql39, ql44, ql45, ql60, ql61])⟩ | exact ⟨Or.inr rfl, h _ (by clear h; grind [q2, ql8, ql39, ql44, ql45, ql60, ql61])⟩ | exact ⟨by grind, h _ (by clear h; grind [q2, ql8, ql39, ql44, ql45, ql60, ql61])⟩
theorem c_X4_groupOf {d z : Nat} {N : Nat → Nat} {I : Nat → Nat → Int32} {L : Nat → Nat → Int64} {R : Nat → Nat → Option Nat} {Q : qP} {s : Int32} (hn : 0 ≤ I 54 5 ∧ I 54 5 ≤ 12) (h : ∀ v : Int32, (v = if 0 ≤ s ∧ s < I 54 5 then I 58 s.toNatClampNeg else -1) → Q (some (.int v)) (z, N, I, L, R)) : qWP (d + 2) 58 [.ref 54, .int s] (z, N, I, L, R) Q := by
  refine qWP_of m_X4_groupOf rfl rfl [(0, .ref 54), (1, .int s)] rfl ?_
  refine qJ_run (qWP_mono _) [] 400 ?_
  refine ⟨⟨Nat.le_refl _, Nat.le_refl _⟩, ?_⟩
  refine c_X4_has hn fun v hv => ?_
  refine ⟨fun c1 => ?_, fun c1 => ?_⟩
  · first | exact h _ (by clear h; grind [q2, ql8, ql39, ql44, ql45, ql60, ql61]) | exact ⟨Or.inl rfl, h _ (by clear h; grind [q2, ql8, ql39, ql44, ql45, ql60, ql61])⟩ | exact ⟨Or.inr rfl, h _ (by clear h; grind [q2, ql8, ql39, ql44, ql45, ql60, ql61])⟩ | exact ⟨by grind, h _ (by clear h; grind [q2, ql8, ql39, ql44, ql45, ql60, ql61])⟩
  · refine ⟨?_, ?_⟩
    · exact vb (N := 12) 12 (by decide) (by clear h; grind [q2, ql8, ql39, ql44, ql45, ql60, ql61]) (by clear h; grind [q2, ql8, ql39, ql44, ql45, ql60, ql61])
    first | exact h _ (by clear h; grind [q2, ql8, ql39, ql44, ql45, ql60, ql61]) | exact ⟨Or.inl rfl, h _ (by clear h; grind [q2, ql8, ql39, ql44, ql45, ql60, ql61])⟩ | exact ⟨Or.inr rfl, h _ (by clear h; grind [q2, ql8, ql39, ql44, ql45, ql60, ql61])⟩ | exact ⟨by grind, h _ (by clear h; grind [q2, ql8, ql39, ql44, ql45, ql60, ql61])⟩
theorem c_X4_put {d z : Nat} {N : Nat → Nat} {I : Nat → Nat → Int32} {L : Nat → Nat → Int64} {R : Nat → Nat → Option Nat} {Q : qP} {a : Int64} {b : Int64} {s : Int32} (hn : 0 ≤ I 54 5 ∧ I 54 5 ≤ 12) (h1 : I 54 5 = 12 → Q (some (.int (-4))) (z, N, I, L, R)) (h2 : I 54 5 < 12 → Q (some (.int (I 54 5 + 1 - 1))) (z, N, q2 (q2 I 57 (I 54 5).toNatClampNeg s) 54 5 (I 54 5 + 1), q2 (q2 L 55 (I 54 5).toNatClampNeg a) 56 (I 54 5).toNatClampNeg b, R)) : qWP (d + 1) 52 [.ref 54, .long a, .long b, .int s] (z, N, I, L, R) Q := by
  refine qWP_of m_X4_put rfl rfl [(0, .ref 54), (1, .long a), (3, .long b), (5, .int s)] rfl ?_
  refine qJ_run (qWP_mono _) [] 400 ?_
  refine ⟨fun c1 => ?_, fun c1 => ?_⟩
  · first | exact h1 (by clear h1 h2; grind [q2, ql8, ql39, ql44, ql45, ql60, ql61]) | exact h2 (by clear h1 h2; grind [q2, ql8, ql39, ql44, ql45, ql60, ql61]) | exact absurd hn (by clear h1 h2; grind [q2, ql8, ql39, ql44, ql45, ql60, ql61])
  · refine ⟨fun c2 => ?_, fun c2 => ?_⟩
    · refine ⟨?_, ?_⟩
      · exact vb (N := 12) 12 (by decide) (by clear h1 h2; grind [q2, ql8, ql39, ql44, ql45, ql60, ql61]) (by clear h1 h2; grind [q2, ql8, ql39, ql44, ql45, ql60, ql61])
      refine ⟨?_, ?_⟩
      · exact vb (N := 12) 12 (by decide) (by clear h1 h2; grind [q2, ql8, ql39, ql44, ql45, ql60, ql61]) (by clear h1 h2; grind [q2, ql8, ql39, ql44, ql45, ql60, ql61])
      refine ⟨?_, ?_⟩
      · exact vb (N := 12) 12 (by decide) (by clear h1 h2; grind [q2, ql8, ql39, ql44, ql45, ql60, ql61]) (by clear h1 h2; grind [q2, ql8, ql39, ql44, ql45, ql60, ql61])
      first | exact h1 (by clear h1 h2; grind [q2, ql8, ql39, ql44, ql45, ql60, ql61]) | exact h2 (by clear h1 h2; grind [q2, ql8, ql39, ql44, ql45, ql60, ql61]) | exact absurd hn (by clear h1 h2; grind [q2, ql8, ql39, ql44, ql45, ql60, ql61])
    · first | exact h1 (by clear h1 h2; grind [q2, ql8, ql39, ql44, ql45, ql60, ql61]) | exact h2 (by clear h1 h2; grind [q2, ql8, ql39, ql44, ql45, ql60, ql61]) | exact absurd hn (by clear h1 h2; grind [q2, ql8, ql39, ql44, ql45, ql60, ql61])
theorem c_X12_isIn {d z : Nat} {N : Nat → Nat} {I : Nat → Nat → Int32} {L : Nat → Nat → Int64} {R : Nat → Nat → Option Nat} {Q : qP} {k : Int32} {n : Int32}  (h : ∀ v : Int32, (v = if 0 ≤ k ∧ k < n then 1 else 0) → Q (some (.int v)) (z, N, I, L, R)) : qWP (d + 1) 167 [.int k, .int n] (z, N, I, L, R) Q := by
  refine qWP_of m_X12_isIn rfl rfl [(0, .int k), (1, .int n)] rfl ?_
  refine qJ_run (qWP_mono _) [] 400 ?_
  refine ⟨fun c1 => ?_, fun c1 => ?_⟩
  · first | exact h _ (by clear h; grind [q2, ql8, ql39, ql44, ql45, ql60, ql61]) | exact ⟨Or.inl rfl, h _ (by clear h; grind [q2, ql8, ql39, ql44, ql45, ql60, ql61])⟩ | exact ⟨Or.inr rfl, h _ (by clear h; grind [q2, ql8, ql39, ql44, ql45, ql60, ql61])⟩ | exact ⟨by grind, h _ (by clear h; grind [q2, ql8, ql39, ql44, ql45, ql60, ql61])⟩
  · refine ⟨fun c2 => ?_, fun c2 => ?_⟩
    · first | exact h _ (by clear h; grind [q2, ql8, ql39, ql44, ql45, ql60, ql61]) | exact ⟨Or.inl rfl, h _ (by clear h; grind [q2, ql8, ql39, ql44, ql45, ql60, ql61])⟩ | exact ⟨Or.inr rfl, h _ (by clear h; grind [q2, ql8, ql39, ql44, ql45, ql60, ql61])⟩ | exact ⟨by grind, h _ (by clear h; grind [q2, ql8, ql39, ql44, ql45, ql60, ql61])⟩
    · first | exact h _ (by clear h; grind [q2, ql8, ql39, ql44, ql45, ql60, ql61]) | exact ⟨Or.inl rfl, h _ (by clear h; grind [q2, ql8, ql39, ql44, ql45, ql60, ql61])⟩ | exact ⟨Or.inr rfl, h _ (by clear h; grind [q2, ql8, ql39, ql44, ql45, ql60, ql61])⟩ | exact ⟨by grind, h _ (by clear h; grind [q2, ql8, ql39, ql44, ql45, ql60, ql61])⟩
theorem c_X12_isStone {d z : Nat} {N : Nat → Nat} {I : Nat → Nat → Int32} {L : Nat → Nat → Int64} {R : Nat → Nat → Option Nat} {Q : qP} {s : Int32}  (h : ∀ v : Int32, (v = if 0 ≤ s ∧ s < I 65 0 then 1 else 0) → Q (some (.int v)) (z, N, I, L, R)) : qWP (d + 2) 168 [.ref 65, .int s] (z, N, I, L, R) Q := by
  refine qWP_of m_X12_isStone rfl rfl [(0, .ref 65), (1, .int s)] rfl ?_
  refine qJ_run (qWP_mono _) [] 400 ?_
  refine ⟨⟨Nat.le_refl _, Nat.le_refl _⟩, ?_⟩
  refine c_X12_isIn fun v hv => ?_
  first | exact h _ (by clear h; grind [q2, ql8, ql39, ql44, ql45, ql60, ql61]) | exact ⟨Or.inl rfl, h _ (by clear h; grind [q2, ql8, ql39, ql44, ql45, ql60, ql61])⟩ | exact ⟨Or.inr rfl, h _ (by clear h; grind [q2, ql8, ql39, ql44, ql45, ql60, ql61])⟩ | exact ⟨by grind, h _ (by clear h; grind [q2, ql8, ql39, ql44, ql45, ql60, ql61])⟩
theorem c_X12_isLine {d z : Nat} {N : Nat → Nat} {I : Nat → Nat → Int32} {L : Nat → Nat → Int64} {R : Nat → Nat → Option Nat} {Q : qP} {s : Int32} {l : Int32} (hn : 0 ≤ I 65 0 ∧ I 65 0 ≤ 12) (h : ∀ v : Int32, (v = if (0 ≤ s ∧ s < I 65 0) ∧ 0 ≤ l ∧ l < I 66 s.toNatClampNeg then 1 else 0) → Q (some (.int v)) (z, N, I, L, R)) : qWP (d + 3) 169 [.ref 65, .int s, .int l] (z, N, I, L, R) Q := by
  refine qWP_of m_X12_isLine rfl rfl [(0, .ref 65), (1, .int s), (2, .int l)] rfl ?_
  refine qJ_run (qWP_mono _) [] 400 ?_
  refine ⟨⟨Nat.le_refl _, Nat.le_refl _⟩, ?_⟩
  refine c_X12_isStone fun v hv => ?_
  refine ⟨fun c1 => ?_, fun c1 => ?_⟩
  · first | exact h _ (by clear h; grind [q2, ql8, ql39, ql44, ql45, ql60, ql61]) | exact ⟨Or.inl rfl, h _ (by clear h; grind [q2, ql8, ql39, ql44, ql45, ql60, ql61])⟩ | exact ⟨Or.inr rfl, h _ (by clear h; grind [q2, ql8, ql39, ql44, ql45, ql60, ql61])⟩ | exact ⟨by grind, h _ (by clear h; grind [q2, ql8, ql39, ql44, ql45, ql60, ql61])⟩
  · refine ⟨?_, ?_⟩
    · exact vb (N := 12) 12 (by decide) (by clear h; grind [q2, ql8, ql39, ql44, ql45, ql60, ql61]) (by clear h; grind [q2, ql8, ql39, ql44, ql45, ql60, ql61])
    refine ⟨⟨Nat.le_refl _, Nat.le_refl _⟩, ?_⟩
    refine c_X12_isIn fun v hv => ?_
    refine ⟨fun c2 => ?_, fun c2 => ?_⟩
    · first | exact h _ (by clear h; grind [q2, ql8, ql39, ql44, ql45, ql60, ql61]) | exact ⟨Or.inl rfl, h _ (by clear h; grind [q2, ql8, ql39, ql44, ql45, ql60, ql61])⟩ | exact ⟨Or.inr rfl, h _ (by clear h; grind [q2, ql8, ql39, ql44, ql45, ql60, ql61])⟩ | exact ⟨by grind, h _ (by clear h; grind [q2, ql8, ql39, ql44, ql45, ql60, ql61])⟩
    · first | exact h _ (by clear h; grind [q2, ql8, ql39, ql44, ql45, ql60, ql61]) | exact ⟨Or.inl rfl, h _ (by clear h; grind [q2, ql8, ql39, ql44, ql45, ql60, ql61])⟩ | exact ⟨Or.inr rfl, h _ (by clear h; grind [q2, ql8, ql39, ql44, ql45, ql60, ql61])⟩ | exact ⟨by grind, h _ (by clear h; grind [q2, ql8, ql39, ql44, ql45, ql60, ql61])⟩
theorem c_X12_isPlace {d z : Nat} {N : Nat → Nat} {I : Nat → Nat → Int32} {L : Nat → Nat → Int64} {R : Nat → Nat → Option Nat} {Q : qP} {s : Int32} {l : Int32} {p : Int32} (hn : 0 ≤ I 65 0 ∧ I 65 0 ≤ 12) (h : ∀ v : Int32, (v = if ((0 ≤ s ∧ s < I 65 0) ∧ 0 ≤ l ∧ l < I 66 s.toNatClampNeg) ∧ 0 ≤ p ∧ p < I 67 s.toNatClampNeg then 1 else 0) → Q (some (.int v)) (z, N, I, L, R)) : qWP (d + 4) 170 [.ref 65, .int s, .int l, .int p] (z, N, I, L, R) Q := by
  refine qWP_of m_X12_isPlace rfl rfl [(0, .ref 65), (1, .int s), (2, .int l), (3, .int p)] rfl ?_
  refine qJ_run (qWP_mono _) [] 400 ?_
  refine ⟨⟨Nat.le_refl _, Nat.le_refl _⟩, ?_⟩
  refine c_X12_isLine hn fun v hv => ?_
  refine ⟨fun c1 => ?_, fun c1 => ?_⟩
  · first | exact h _ (by clear h; grind [q2, ql8, ql39, ql44, ql45, ql60, ql61]) | exact ⟨Or.inl rfl, h _ (by clear h; grind [q2, ql8, ql39, ql44, ql45, ql60, ql61])⟩ | exact ⟨Or.inr rfl, h _ (by clear h; grind [q2, ql8, ql39, ql44, ql45, ql60, ql61])⟩ | exact ⟨by grind, h _ (by clear h; grind [q2, ql8, ql39, ql44, ql45, ql60, ql61])⟩
  · refine ⟨?_, ?_⟩
    · exact vb (N := 12) 12 (by decide) (by clear h; grind [q2, ql8, ql39, ql44, ql45, ql60, ql61]) (by clear h; grind [q2, ql8, ql39, ql44, ql45, ql60, ql61])
    refine ⟨⟨Nat.le_refl _, Nat.le_refl _⟩, ?_⟩
    refine c_X12_isIn fun v hv => ?_
    refine ⟨fun c2 => ?_, fun c2 => ?_⟩
    · first | exact h _ (by clear h; grind [q2, ql8, ql39, ql44, ql45, ql60, ql61]) | exact ⟨Or.inl rfl, h _ (by clear h; grind [q2, ql8, ql39, ql44, ql45, ql60, ql61])⟩ | exact ⟨Or.inr rfl, h _ (by clear h; grind [q2, ql8, ql39, ql44, ql45, ql60, ql61])⟩ | exact ⟨by grind, h _ (by clear h; grind [q2, ql8, ql39, ql44, ql45, ql60, ql61])⟩
    · first | exact h _ (by clear h; grind [q2, ql8, ql39, ql44, ql45, ql60, ql61]) | exact ⟨Or.inl rfl, h _ (by clear h; grind [q2, ql8, ql39, ql44, ql45, ql60, ql61])⟩ | exact ⟨Or.inr rfl, h _ (by clear h; grind [q2, ql8, ql39, ql44, ql45, ql60, ql61])⟩ | exact ⟨by grind, h _ (by clear h; grind [q2, ql8, ql39, ql44, ql45, ql60, ql61])⟩
theorem c_X12_at {d z : Nat} {N : Nat → Nat} {I : Nat → Nat → Int32} {L : Nat → Nat → Int64} {R : Nat → Nat → Option Nat} {Q : qP} {a : Int32} {s : Int32} {l : Int32} {p : Int32}  (h : ∀ v : Int32, v = ((a * 12 + s) * 4 + l) * 24 + p → Q (some (.int v)) (z, N, I, L, R)) : qWP (d + 1) 171 [.int a, .int s, .int l, .int p] (z, N, I, L, R) Q := by
  refine qWP_of m_X12_at rfl rfl [(0, .int a), (1, .int s), (2, .int l), (3, .int p)] rfl ?_
  refine qJ_run (qWP_mono _) [] 400 ?_
  first | exact h _ (by clear h; grind [q2, ql8, ql39, ql44, ql45, ql60, ql61]) | exact ⟨Or.inl rfl, h _ (by clear h; grind [q2, ql8, ql39, ql44, ql45, ql60, ql61])⟩ | exact ⟨Or.inr rfl, h _ (by clear h; grind [q2, ql8, ql39, ql44, ql45, ql60, ql61])⟩ | exact ⟨by grind, h _ (by clear h; grind [q2, ql8, ql39, ql44, ql45, ql60, ql61])⟩
theorem c_X12_reads {d z : Nat} {N : Nat → Nat} {I : Nat → Nat → Int32} {L : Nat → Nat → Int64} {R : Nat → Nat → Option Nat} {Q : qP} {a : Int32} {s : Int32} {l : Int32} {p : Int32} {k : Int32} {y : Int32} (hx : 0 ≤ ((a * 12 + s) * 4 + l) * 24 + p ∧ ((a * 12 + s) * 4 + l) * 24 + p < 6912) (h : Q none (z, N, q2 (q2 I 70 (((a * 12 + s) * 4 + l) * 24 + p).toNatClampNeg (k + 1)) 71 (((a * 12 + s) * 4 + l) * 24 + p).toNatClampNeg y, L, R)) : qWP (d + 2) 174 [.ref 65, .int a, .int s, .int l, .int p, .int k, .int y] (z, N, I, L, R) Q := by
  refine qWP_of m_X12_reads rfl rfl [(0, .ref 65), (1, .int a), (2, .int s), (3, .int l), (4, .int p), (5, .int k), (6, .int y)] rfl ?_
  refine qJ_run (qWP_mono _) [] 400 ?_
  refine ⟨⟨Nat.le_refl _, Nat.le_refl _⟩, ?_⟩
  refine c_X12_at fun v hv => ?_
  subst hv
  refine ⟨?_, ?_⟩
  · exact vb (N := 6912) 6912 (by decide) (by grind [q2, ql8, ql39, ql44, ql45, ql60, ql61]) (by grind [q2, ql8, ql39, ql44, ql45, ql60, ql61])
  refine ⟨⟨Nat.le_refl _, Nat.le_refl _⟩, ?_⟩
  refine c_X12_at fun v hv => ?_
  subst hv
  refine ⟨?_, ?_⟩
  · exact vb (N := 6912) 6912 (by decide) (by grind [q2, ql8, ql39, ql44, ql45, ql60, ql61]) (by grind [q2, ql8, ql39, ql44, ql45, ql60, ql61])
  exact h
theorem c_X12_isLetter {d z : Nat} {N : Nat → Nat} {I : Nat → Nat → Int32} {L : Nat → Nat → Int64} {R : Nat → Nat → Option Nat} {Q : qP} {b : Int32}  (h : ∀ v : Int32, (v = if 97 ≤ b ∧ b ≤ 122 then 1 else 0) → Q (some (.int v)) (z, N, I, L, R)) : qWP (d + 1) 182 [.int b] (z, N, I, L, R) Q := by
  refine qWP_of m_X12_isLetter rfl rfl [(0, .int b)] rfl ?_
  refine qJ_run (qWP_mono _) [] 400 ?_
  refine ⟨fun c1 => ?_, fun c1 => ?_⟩
  · first | exact h _ (by clear h; grind [q2, ql8, ql39, ql44, ql45, ql60, ql61]) | exact ⟨Or.inl rfl, h _ (by clear h; grind [q2, ql8, ql39, ql44, ql45, ql60, ql61])⟩ | exact ⟨Or.inr rfl, h _ (by clear h; grind [q2, ql8, ql39, ql44, ql45, ql60, ql61])⟩ | exact ⟨by grind, h _ (by clear h; grind [q2, ql8, ql39, ql44, ql45, ql60, ql61])⟩
  · refine ⟨fun c2 => ?_, fun c2 => ?_⟩
    · first | exact h _ (by clear h; grind [q2, ql8, ql39, ql44, ql45, ql60, ql61]) | exact ⟨Or.inl rfl, h _ (by clear h; grind [q2, ql8, ql39, ql44, ql45, ql60, ql61])⟩ | exact ⟨Or.inr rfl, h _ (by clear h; grind [q2, ql8, ql39, ql44, ql45, ql60, ql61])⟩ | exact ⟨by grind, h _ (by clear h; grind [q2, ql8, ql39, ql44, ql45, ql60, ql61])⟩
    · first | exact h _ (by clear h; grind [q2, ql8, ql39, ql44, ql45, ql60, ql61]) | exact ⟨Or.inl rfl, h _ (by clear h; grind [q2, ql8, ql39, ql44, ql45, ql60, ql61])⟩ | exact ⟨Or.inr rfl, h _ (by clear h; grind [q2, ql8, ql39, ql44, ql45, ql60, ql61])⟩ | exact ⟨by grind, h _ (by clear h; grind [q2, ql8, ql39, ql44, ql45, ql60, ql61])⟩
theorem c_X12_isFormula {d z : Nat} {N : Nat → Nat} {I : Nat → Nat → Int32} {L : Nat → Nat → Int64} {R : Nat → Nat → Option Nat} {Q : qP} {s : Int32}  (h : ∀ v : Int32, (v = if 0 ≤ s ∧ s < I 65 2 then 1 else 0) → Q (some (.int v)) (z, N, I, L, R)) : qWP (d + 2) 194 [.ref 65, .int s] (z, N, I, L, R) Q := by
  refine qWP_of m_X12_isFormula rfl rfl [(0, .ref 65), (1, .int s)] rfl ?_
  refine qJ_run (qWP_mono _) [] 400 ?_
  refine ⟨⟨Nat.le_refl _, Nat.le_refl _⟩, ?_⟩
  refine c_X12_isIn fun v hv => ?_
  first | exact h _ (by clear h; grind [q2, ql8, ql39, ql44, ql45, ql60, ql61]) | exact ⟨Or.inl rfl, h _ (by clear h; grind [q2, ql8, ql39, ql44, ql45, ql60, ql61])⟩ | exact ⟨Or.inr rfl, h _ (by clear h; grind [q2, ql8, ql39, ql44, ql45, ql60, ql61])⟩ | exact ⟨by grind, h _ (by clear h; grind [q2, ql8, ql39, ql44, ql45, ql60, ql61])⟩
theorem c_X12_isPerson {d z : Nat} {N : Nat → Nat} {I : Nat → Nat → Int32} {L : Nat → Nat → Int64} {R : Nat → Nat → Option Nat} {Q : qP} {s : Int32}  (h : ∀ v : Int32, (v = if 0 ≤ s ∧ s < I 65 3 then 1 else 0) → Q (some (.int v)) (z, N, I, L, R)) : qWP (d + 2) 228 [.ref 65, .int s] (z, N, I, L, R) Q := by
  refine qWP_of m_X12_isPerson rfl rfl [(0, .ref 65), (1, .int s)] rfl ?_
  refine qJ_run (qWP_mono _) [] 400 ?_
  refine ⟨⟨Nat.le_refl _, Nat.le_refl _⟩, ?_⟩
  refine c_X12_isIn fun v hv => ?_
  first | exact h _ (by clear h; grind [q2, ql8, ql39, ql44, ql45, ql60, ql61]) | exact ⟨Or.inl rfl, h _ (by clear h; grind [q2, ql8, ql39, ql44, ql45, ql60, ql61])⟩ | exact ⟨Or.inr rfl, h _ (by clear h; grind [q2, ql8, ql39, ql44, ql45, ql60, ql61])⟩ | exact ⟨by grind, h _ (by clear h; grind [q2, ql8, ql39, ql44, ql45, ql60, ql61])⟩
theorem c_X12_told {d z : Nat} {N : Nat → Nat} {I : Nat → Nat → Int32} {L : Nat → Nat → Int64} {R : Nat → Nat → Option Nat} {Q : qP} {b : Int32}  (h : ∀ v : Int32, (v = if b = 0 then 26 else b - 1) → Q (some (.int v)) (z, N, I, L, R)) : qWP (d + 1) 196 [.int b] (z, N, I, L, R) Q := by
  refine qWP_of m_X12_told rfl rfl [(0, .int b)] rfl ?_
  refine qJ_run (qWP_mono _) [] 400 ?_
  refine ⟨fun c1 => ?_, fun c1 => ?_⟩
  · first | exact h _ (by clear h; grind [q2, ql8, ql39, ql44, ql45, ql60, ql61]) | exact ⟨Or.inl rfl, h _ (by clear h; grind [q2, ql8, ql39, ql44, ql45, ql60, ql61])⟩ | exact ⟨Or.inr rfl, h _ (by clear h; grind [q2, ql8, ql39, ql44, ql45, ql60, ql61])⟩ | exact ⟨by grind, h _ (by clear h; grind [q2, ql8, ql39, ql44, ql45, ql60, ql61])⟩
  · first | exact h _ (by clear h; grind [q2, ql8, ql39, ql44, ql45, ql60, ql61]) | exact ⟨Or.inl rfl, h _ (by clear h; grind [q2, ql8, ql39, ql44, ql45, ql60, ql61])⟩ | exact ⟨Or.inr rfl, h _ (by clear h; grind [q2, ql8, ql39, ql44, ql45, ql60, ql61])⟩ | exact ⟨by grind, h _ (by clear h; grind [q2, ql8, ql39, ql44, ql45, ql60, ql61])⟩
theorem c_X12_edgeAt {d z : Nat} {N : Nat → Nat} {I : Nat → Nat → Int32} {L : Nat → Nat → Int64} {R : Nat → Nat → Option Nat} {Q : qP} {s : Int32} {e : Int32} {l : Int32}  (h : ∀ v : Int32, v = (2 * s + e) * 4 + l → Q (some (.int v)) (z, N, I, L, R)) : qWP (d + 1) 206 [.int s, .int e, .int l] (z, N, I, L, R) Q := by
  refine qWP_of m_X12_edgeAt rfl rfl [(0, .int s), (1, .int e), (2, .int l)] rfl ?_
  refine qJ_run (qWP_mono _) [] 400 ?_
  first | exact h _ (by clear h; grind [q2, ql8, ql39, ql44, ql45, ql60, ql61]) | exact ⟨Or.inl rfl, h _ (by clear h; grind [q2, ql8, ql39, ql44, ql45, ql60, ql61])⟩ | exact ⟨Or.inr rfl, h _ (by clear h; grind [q2, ql8, ql39, ql44, ql45, ql60, ql61])⟩ | exact ⟨by grind, h _ (by clear h; grind [q2, ql8, ql39, ql44, ql45, ql60, ql61])⟩
theorem c_X12_isSign {d z : Nat} {N : Nat → Nat} {I : Nat → Nat → Int32} {L : Nat → Nat → Int64} {R : Nat → Nat → Option Nat} {Q : qP} {b : Int32}  (h : ∀ v : Int32, (v = if (97 ≤ b ∧ b ≤ 122) ∨ b = 95 then 1 else 0) → Q (some (.int v)) (z, N, I, L, R)) : qWP (d + 2) 237 [.int b] (z, N, I, L, R) Q := by
  refine qWP_of m_X12_isSign rfl rfl [(0, .int b)] rfl ?_
  refine qJ_run (qWP_mono _) [] 400 ?_
  refine ⟨⟨Nat.le_refl _, Nat.le_refl _⟩, ?_⟩
  refine c_X12_isLetter fun v hv => ?_
  refine ⟨fun c1 => ?_, fun c1 => ?_⟩
  · first | exact h _ (by clear h; grind [q2, ql8, ql39, ql44, ql45, ql60, ql61]) | exact ⟨Or.inl rfl, h _ (by clear h; grind [q2, ql8, ql39, ql44, ql45, ql60, ql61])⟩ | exact ⟨Or.inr rfl, h _ (by clear h; grind [q2, ql8, ql39, ql44, ql45, ql60, ql61])⟩ | exact ⟨by grind, h _ (by clear h; grind [q2, ql8, ql39, ql44, ql45, ql60, ql61])⟩
  · refine ⟨fun c2 => ?_, fun c2 => ?_⟩
    · first | exact h _ (by clear h; grind [q2, ql8, ql39, ql44, ql45, ql60, ql61]) | exact ⟨Or.inl rfl, h _ (by clear h; grind [q2, ql8, ql39, ql44, ql45, ql60, ql61])⟩ | exact ⟨Or.inr rfl, h _ (by clear h; grind [q2, ql8, ql39, ql44, ql45, ql60, ql61])⟩ | exact ⟨by grind, h _ (by clear h; grind [q2, ql8, ql39, ql44, ql45, ql60, ql61])⟩
    · first | exact h _ (by clear h; grind [q2, ql8, ql39, ql44, ql45, ql60, ql61]) | exact ⟨Or.inl rfl, h _ (by clear h; grind [q2, ql8, ql39, ql44, ql45, ql60, ql61])⟩ | exact ⟨Or.inr rfl, h _ (by clear h; grind [q2, ql8, ql39, ql44, ql45, ql60, ql61])⟩ | exact ⟨by grind, h _ (by clear h; grind [q2, ql8, ql39, ql44, ql45, ql60, ql61])⟩
end
section
theorem c_X11_stone {d z : Nat} {N : Nat → Nat} {I : Nat → Nat → Int32} {L : Nat → Nat → Int64} {R : Nat → Nat → Option Nat} {Q : qP} {l : Int32} {p : Int32} (hn : 0 ≤ I 3 2 ∧ I 3 2 ≤ 12) (h0 : (l < 1 ∨ 4 < l ∨ p < 1 ∨ 24 < p) → Q (some (.int (-2))) (z, N, I, L, R)) (h1 : ¬ (l < 1 ∨ 4 < l ∨ p < 1 ∨ 24 < p) → I 3 2 = 12 → Q (some (.int (-4))) (z, N, I, L, R)) (h2 : ¬ (l < 1 ∨ 4 < l ∨ p < 1 ∨ 24 < p) → I 3 2 < 12 → Q (some (.int (I 3 2 + 1 - 1))) (z, N, q2 (q2 (q2 I 4 (I 3 2).toNatClampNeg l) 5 (I 3 2).toNatClampNeg p) 3 2 (I 3 2 + 1), L, R)) : qWP (d + 2) 122 [.ref 2, .int l, .int p] (z, N, I, L, R) Q := by
  refine qWP_of m_X11_stone rfl rfl [(0, .ref 2), (1, .int l), (2, .int p)] rfl ?_
  refine qJ_run (qWP_mono _) [] 400 ?_
  refine ⟨fun c1 => ?_, fun c1 => ?_⟩
  · exact h0 (by clear h0 h1 h2; grind [q2, ql8, ql39, ql44, ql45, ql60, ql61])
  · refine ⟨fun c2 => ?_, fun c2 => ?_⟩
    · exact h0 (by clear h0 h1 h2; grind [q2, ql8, ql39, ql44, ql45, ql60, ql61])
    · refine ⟨fun c3 => ?_, fun c3 => ?_⟩
      · exact h0 (by clear h0 h1 h2; grind [q2, ql8, ql39, ql44, ql45, ql60, ql61])
      · refine ⟨fun c4 => ?_, fun c4 => ?_⟩
        · refine ⟨⟨Nat.le_refl _, Nat.le_refl _⟩, ?_⟩
          refine c_X6_put hn (fun e5 => ?_) (fun e5 => ?_)
          · exact h1 (by clear h0 h1 h2; grind [q2, ql8, ql39, ql44, ql45, ql60, ql61]) (by clear h0 h1 h2; grind [q2, ql8, ql39, ql44, ql45, ql60, ql61])
          · exact h2 (by clear h0 h1 h2; grind [q2, ql8, ql39, ql44, ql45, ql60, ql61]) (by clear h0 h1 h2; grind [q2, ql8, ql39, ql44, ql45, ql60, ql61])
        · exact h0 (by clear h0 h1 h2; grind [q2, ql8, ql39, ql44, ql45, ql60, ql61])
theorem c_X12_stone {d z : Nat} {N : Nat → Nat} {I : Nat → Nat → Int32} {L : Nat → Nat → Int64} {R : Nat → Nat → Option Nat} {Q : qP} {l : Int32} {p : Int32} (hn : 0 ≤ I 65 0 ∧ I 65 0 ≤ 12) (h0 : (l < 1 ∨ 4 < l ∨ p < 1 ∨ 24 < p) → Q (some (.int (-2))) (z, N, I, L, R)) (h1 : ¬ (l < 1 ∨ 4 < l ∨ p < 1 ∨ 24 < p) → I 65 0 = 12 → Q (some (.int (-4))) (z, N, I, L, R)) (h2 : ¬ (l < 1 ∨ 4 < l ∨ p < 1 ∨ 24 < p) → I 65 0 < 12 → Q (some (.int (I 65 0 + 1 - 1))) (z, N, q2 (q2 (q2 (q2 (q2 (q2 (q2 I 66 (I 65 0).toNatClampNeg l) 67 (I 65 0).toNatClampNeg p) 80 (I 65 0).toNatClampNeg (-999)) 81 (I 65 0).toNatClampNeg 999) 78 (I 65 0).toNatClampNeg (-1)) 79 (I 65 0).toNatClampNeg (-1)) 65 0 (I 65 0 + 1), L, R)) : qWP (d + 2) 172 [.ref 65, .int l, .int p] (z, N, I, L, R) Q := by
  refine qWP_of m_X12_stone rfl rfl [(0, .ref 65), (1, .int l), (2, .int p)] rfl ?_
  refine qJ_run (qWP_mono _) [46, 56, 68, 80, 90, 100, 110] 400 ?_
  refine ⟨⟨Nat.le_refl _, Nat.le_refl _⟩, ?_⟩
  refine c_X12_isIn fun v hv => ?_
  simp only [in1_4] at hv
  refine ⟨fun c1 => ?_, fun c1 => ?_⟩
  · refine qQ_id (Q := Q) ?_
    try simp (decide := true) only [q2_ne, q2_nj, q2_at, Nat.reduceMod, Nat.reduceAdd, kc_m999, kc_m4, kc_m2, kc_m1, kc_1, kc_4, kc_12, kc_24, kc_999]
    first | exact h0 (by clear h0 h1 h2; grind [q2, ql8, ql39, ql44, ql45, ql60, ql61]) | exact h1 (by clear h0 h1 h2; grind [q2, ql8, ql39, ql44, ql45, ql60, ql61]) (by clear h0 h1 h2; grind [q2, ql8, ql39, ql44, ql45, ql60, ql61])
  · refine ⟨⟨Nat.le_refl _, Nat.le_refl _⟩, ?_⟩
    refine c_X12_isIn fun w hw => ?_
    simp only [in1_24] at hw
    refine ⟨fun c2 => ?_, fun c2 => ?_⟩
    · refine ⟨fun c3 => ?_, fun c3 => ?_⟩
      · refine ⟨?_, ?_⟩
        · try simp (decide := true) only [q2_ne, q2_nj, q2_at, Nat.reduceMod, Nat.reduceAdd, kc_m999, kc_m4, kc_m2, kc_m1, kc_1, kc_4, kc_12, kc_24, kc_999]
          exact vb (N := 12) 12 (by decide) (by clear h0 h1 h2; grind [q2, ql8, ql39, ql44, ql45, ql60, ql61]) (by clear h0 h1 h2; grind [q2, ql8, ql39, ql44, ql45, ql60, ql61])
        refine qJ_id ?_
        simp (decide := true) only [q2_ne, q2_nj, q2_at, Nat.reduceMod, Nat.reduceAdd, kc_m999, kc_m4, kc_m2, kc_m1, kc_1, kc_4, kc_12, kc_24, kc_999]
        refine qJ_run (qWP_mono _) [46, 56, 68, 80, 90, 100, 110] 400 ?_
        refine ⟨?_, ?_⟩
        · try simp (decide := true) only [q2_ne, q2_nj, q2_at, Nat.reduceMod, Nat.reduceAdd, kc_m999, kc_m4, kc_m2, kc_m1, kc_1, kc_4, kc_12, kc_24, kc_999]
          exact vb (N := 12) 12 (by decide) (by clear h0 h1 h2; grind [q2, ql8, ql39, ql44, ql45, ql60, ql61]) (by clear h0 h1 h2; grind [q2, ql8, ql39, ql44, ql45, ql60, ql61])
        refine qJ_id ?_
        simp (decide := true) only [q2_ne, q2_nj, q2_at, Nat.reduceMod, Nat.reduceAdd, kc_m999, kc_m4, kc_m2, kc_m1, kc_1, kc_4, kc_12, kc_24, kc_999]
        refine qJ_run (qWP_mono _) [46, 56, 68, 80, 90, 100, 110] 400 ?_
        refine ⟨?_, ?_⟩
        · try simp (decide := true) only [q2_ne, q2_nj, q2_at, Nat.reduceMod, Nat.reduceAdd, kc_m999, kc_m4, kc_m2, kc_m1, kc_1, kc_4, kc_12, kc_24, kc_999]
          exact vb (N := 12) 12 (by decide) (by clear h0 h1 h2; grind [q2, ql8, ql39, ql44, ql45, ql60, ql61]) (by clear h0 h1 h2; grind [q2, ql8, ql39, ql44, ql45, ql60, ql61])
        refine qJ_id ?_
        simp (decide := true) only [q2_ne, q2_nj, q2_at, Nat.reduceMod, Nat.reduceAdd, kc_m999, kc_m4, kc_m2, kc_m1, kc_1, kc_4, kc_12, kc_24, kc_999]
        refine qJ_run (qWP_mono _) [46, 56, 68, 80, 90, 100, 110] 400 ?_
        refine ⟨?_, ?_⟩
        · try simp (decide := true) only [q2_ne, q2_nj, q2_at, Nat.reduceMod, Nat.reduceAdd, kc_m999, kc_m4, kc_m2, kc_m1, kc_1, kc_4, kc_12, kc_24, kc_999]
          exact vb (N := 12) 12 (by decide) (by clear h0 h1 h2; grind [q2, ql8, ql39, ql44, ql45, ql60, ql61]) (by clear h0 h1 h2; grind [q2, ql8, ql39, ql44, ql45, ql60, ql61])
        refine qJ_id ?_
        simp (decide := true) only [q2_ne, q2_nj, q2_at, Nat.reduceMod, Nat.reduceAdd, kc_m999, kc_m4, kc_m2, kc_m1, kc_1, kc_4, kc_12, kc_24, kc_999]
        refine qJ_run (qWP_mono _) [46, 56, 68, 80, 90, 100, 110] 400 ?_
        refine ⟨?_, ?_⟩
        · try simp (decide := true) only [q2_ne, q2_nj, q2_at, Nat.reduceMod, Nat.reduceAdd, kc_m999, kc_m4, kc_m2, kc_m1, kc_1, kc_4, kc_12, kc_24, kc_999]
          exact vb (N := 12) 12 (by decide) (by clear h0 h1 h2; grind [q2, ql8, ql39, ql44, ql45, ql60, ql61]) (by clear h0 h1 h2; grind [q2, ql8, ql39, ql44, ql45, ql60, ql61])
        refine qJ_id ?_
        simp (decide := true) only [q2_ne, q2_nj, q2_at, Nat.reduceMod, Nat.reduceAdd, kc_m999, kc_m4, kc_m2, kc_m1, kc_1, kc_4, kc_12, kc_24, kc_999]
        refine qJ_run (qWP_mono _) [46, 56, 68, 80, 90, 100, 110] 400 ?_
        refine ⟨?_, ?_⟩
        · try simp (decide := true) only [q2_ne, q2_nj, q2_at, Nat.reduceMod, Nat.reduceAdd, kc_m999, kc_m4, kc_m2, kc_m1, kc_1, kc_4, kc_12, kc_24, kc_999]
          exact vb (N := 12) 12 (by decide) (by clear h0 h1 h2; grind [q2, ql8, ql39, ql44, ql45, ql60, ql61]) (by clear h0 h1 h2; grind [q2, ql8, ql39, ql44, ql45, ql60, ql61])
        refine qJ_id ?_
        simp (decide := true) only [q2_ne, q2_nj, q2_at, Nat.reduceMod, Nat.reduceAdd, kc_m999, kc_m4, kc_m2, kc_m1, kc_1, kc_4, kc_12, kc_24, kc_999]
        refine qJ_run (qWP_mono _) [46, 56, 68, 80, 90, 100, 110] 400 ?_
        refine qJ_id ?_
        simp (decide := true) only [q2_ne, q2_nj, q2_at, Nat.reduceMod, Nat.reduceAdd, kc_m999, kc_m4, kc_m2, kc_m1, kc_1, kc_4, kc_12, kc_24, kc_999]
        refine qJ_run (qWP_mono _) [46, 56, 68, 80, 90, 100, 110] 400 ?_
        refine qQ_id (Q := Q) ?_
        try simp (decide := true) only [q2_ne, q2_nj, q2_at, Nat.reduceMod, Nat.reduceAdd, kc_m999, kc_m4, kc_m2, kc_m1, kc_1, kc_4, kc_12, kc_24, kc_999]
        exact h2 (by clear h0 h1 h2; grind [q2, ql8, ql39, ql44, ql45, ql60, ql61]) (by clear h0 h1 h2; grind [q2, ql8, ql39, ql44, ql45, ql60, ql61])
      · refine qQ_id (Q := Q) ?_
        try simp (decide := true) only [q2_ne, q2_nj, q2_at, Nat.reduceMod, Nat.reduceAdd, kc_m999, kc_m4, kc_m2, kc_m1, kc_1, kc_4, kc_12, kc_24, kc_999]
        first | exact h0 (by clear h0 h1 h2; grind [q2, ql8, ql39, ql44, ql45, ql60, ql61]) | exact h1 (by clear h0 h1 h2; grind [q2, ql8, ql39, ql44, ql45, ql60, ql61]) (by clear h0 h1 h2; grind [q2, ql8, ql39, ql44, ql45, ql60, ql61])
    · refine qQ_id (Q := Q) ?_
      try simp (decide := true) only [q2_ne, q2_nj, q2_at, Nat.reduceMod, Nat.reduceAdd, kc_m999, kc_m4, kc_m2, kc_m1, kc_1, kc_4, kc_12, kc_24, kc_999]
      first | exact h0 (by clear h0 h1 h2; grind [q2, ql8, ql39, ql44, ql45, ql60, ql61]) | exact h1 (by clear h0 h1 h2; grind [q2, ql8, ql39, ql44, ql45, ql60, ql61]) (by clear h0 h1 h2; grind [q2, ql8, ql39, ql44, ql45, ql60, ql61])
theorem c_X11_hand {d z : Nat} {N : Nat → Nat} {I : Nat → Nat → Int32} {L : Nat → Nat → Int64} {R : Nat → Nat → Option Nat} {Q : qP} {r : Int32} (hn : 0 ≤ I 6 2 ∧ I 6 2 ≤ 6) (h0 : (r < 0 ∨ 9 < r) → Q (some (.int (-2))) (z, N, I, L, R)) (h1 : ¬ (r < 0 ∨ 9 < r) → I 6 2 = 6 → Q (some (.int (-4))) (z, N, I, L, R)) (h2 : ¬ (r < 0 ∨ 9 < r) → I 6 2 < 6 → Q (some (.int (I 6 2 + 1 - 1))) (z, N, q2 (q2 I 7 (I 6 2).toNatClampNeg r) 6 2 (I 6 2 + 1), L, R)) : qWP (d + 2) 123 [.ref 2, .int r] (z, N, I, L, R) Q := by
  refine qWP_of m_X11_hand rfl rfl [(0, .ref 2), (1, .int r)] rfl ?_
  refine qJ_run (qWP_mono _) [] 400 ?_
  refine ⟨fun c1 => ?_, fun c1 => ?_⟩
  · exact h0 (by clear h0 h1 h2; grind [q2, ql8, ql39, ql44, ql45, ql60, ql61])
  · refine ⟨fun c2 => ?_, fun c2 => ?_⟩
    · refine ⟨⟨Nat.le_refl _, Nat.le_refl _⟩, ?_⟩
      refine c_X5_putHand hn (fun e3 => ?_) (fun e3 => ?_)
      · exact h1 (by clear h0 h1 h2; grind [q2, ql8, ql39, ql44, ql45, ql60, ql61]) (by clear h0 h1 h2; grind [q2, ql8, ql39, ql44, ql45, ql60, ql61])
      · exact h2 (by clear h0 h1 h2; grind [q2, ql8, ql39, ql44, ql45, ql60, ql61]) (by clear h0 h1 h2; grind [q2, ql8, ql39, ql44, ql45, ql60, ql61])
    · exact h0 (by clear h0 h1 h2; grind [q2, ql8, ql39, ql44, ql45, ql60, ql61])
theorem c_X12_hand {d z : Nat} {N : Nat → Nat} {I : Nat → Nat → Int32} {L : Nat → Nat → Int64} {R : Nat → Nat → Option Nat} {Q : qP} {r : Int32} (hn : 0 ≤ I 65 1 ∧ I 65 1 ≤ 6) (h0 : (r < 0 ∨ 9 < r) → Q (some (.int (-2))) (z, N, I, L, R)) (h1 : ¬ (r < 0 ∨ 9 < r) → I 65 1 = 6 → Q (some (.int (-4))) (z, N, I, L, R)) (h2 : ¬ (r < 0 ∨ 9 < r) → I 65 1 < 6 → Q (some (.int (I 65 1 + 1 - 1))) (z, N, q2 (q2 I 68 (I 65 1).toNatClampNeg r) 65 1 (I 65 1 + 1), L, R)) : qWP (d + 2) 173 [.ref 65, .int r] (z, N, I, L, R) Q := by
  refine qWP_of m_X12_hand rfl rfl [(0, .ref 65), (1, .int r)] rfl ?_
  refine qJ_run (qWP_mono _) [34, 44] 400 ?_
  refine ⟨⟨Nat.le_refl _, Nat.le_refl _⟩, ?_⟩
  refine c_X12_isIn fun v hv => ?_
  refine ⟨fun c1 => ?_, fun c1 => ?_⟩
  · refine ⟨fun c2 => ?_, fun c2 => ?_⟩
    · refine ⟨?_, ?_⟩
      · try simp (decide := true) only [q2_ne, q2_nj, q2_at, Nat.reduceMod, Nat.reduceAdd, kc_m4, kc_m2, kc_1, kc_6, kc_10]
        exact vb (N := 6) 6 (by decide) (by clear h0 h1 h2; grind [q2, ql8, ql39, ql44, ql45, ql60, ql61]) (by clear h0 h1 h2; grind [q2, ql8, ql39, ql44, ql45, ql60, ql61])
      refine qJ_id ?_
      simp (decide := true) only [q2_ne, q2_nj, q2_at, Nat.reduceMod, Nat.reduceAdd, kc_m4, kc_m2, kc_1, kc_6, kc_10]
      refine qJ_run (qWP_mono _) [34, 44] 400 ?_
      refine qJ_id ?_
      simp (decide := true) only [q2_ne, q2_nj, q2_at, Nat.reduceMod, Nat.reduceAdd, kc_m4, kc_m2, kc_1, kc_6, kc_10]
      refine qJ_run (qWP_mono _) [34, 44] 400 ?_
      refine qQ_id (Q := Q) ?_
      try simp (decide := true) only [q2_ne, q2_nj, q2_at, Nat.reduceMod, Nat.reduceAdd, kc_m4, kc_m2, kc_1, kc_6, kc_10]
      exact h2 (by clear h0 h1 h2; grind [q2, ql8, ql39, ql44, ql45, ql60, ql61]) (by clear h0 h1 h2; grind [q2, ql8, ql39, ql44, ql45, ql60, ql61])
    · refine qQ_id (Q := Q) ?_
      try simp (decide := true) only [q2_ne, q2_nj, q2_at, Nat.reduceMod, Nat.reduceAdd, kc_m4, kc_m2, kc_1, kc_6, kc_10]
      first | exact h0 (by clear h0 h1 h2; grind [q2, ql8, ql39, ql44, ql45, ql60, ql61]) | exact h1 (by clear h0 h1 h2; grind [q2, ql8, ql39, ql44, ql45, ql60, ql61]) (by clear h0 h1 h2; grind [q2, ql8, ql39, ql44, ql45, ql60, ql61])
  · refine qQ_id (Q := Q) ?_
    try simp (decide := true) only [q2_ne, q2_nj, q2_at, Nat.reduceMod, Nat.reduceAdd, kc_m4, kc_m2, kc_1, kc_6, kc_10]
    first | exact h0 (by clear h0 h1 h2; grind [q2, ql8, ql39, ql44, ql45, ql60, ql61]) | exact h1 (by clear h0 h1 h2; grind [q2, ql8, ql39, ql44, ql45, ql60, ql61]) (by clear h0 h1 h2; grind [q2, ql8, ql39, ql44, ql45, ql60, ql61])
theorem c_X11_years {d z : Nat} {N : Nat → Nat} {I : Nat → Nat → Int32} {L : Nat → Nat → Int64} {R : Nat → Nat → Option Nat} {Q : qP} {s : Int32} {a : Int32} {b : Int32} (hn : 0 ≤ I 3 2 ∧ I 3 2 ≤ 12) (h0 : (¬ (0 ≤ s ∧ s < I 3 2) ∨ a < -999 ∨ b < a ∨ 999 < b) → Q (some (.int (-2))) (z, N, I, L, R)) (h1 : ¬ (¬ (0 ≤ s ∧ s < I 3 2) ∨ a < -999 ∨ b < a ∨ 999 < b) → Q (some (.int 1)) (z, N, q2 (q2 I 47 s.toNatClampNeg a) 48 s.toNatClampNeg b, L, R)) : qWP (d + 2) 147 [.ref 2, .int s, .int a, .int b] (z, N, I, L, R) Q := by
  refine qWP_of m_X11_years rfl rfl [(0, .ref 2), (1, .int s), (2, .int a), (3, .int b)] rfl ?_
  refine qJ_run (qWP_mono _) [] 400 ?_
  refine ⟨fun c1 => ?_, fun c1 => ?_⟩
  · refine ⟨⟨Nat.le_refl _, Nat.le_refl _⟩, ?_⟩
    refine c_X6_has hn fun v hv => ?_
    refine ⟨fun c2 => ?_, fun c2 => ?_⟩
    · exact h0 (by clear h0 h1; grind [q2, ql8, ql39, ql44, ql45, ql60, ql61])
    · refine ⟨fun c3 => ?_, fun c3 => ?_⟩
      · refine ⟨⟨Nat.le_refl _, Nat.le_refl _⟩, ?_⟩
        refine c_X0_limit (fun e4 f4 => ?_) (fun e4 => absurd hn (by clear h0 h1; grind [q2, ql8, ql39, ql44, ql45, ql60, ql61]))
        · exact h1 (by clear h0 h1; grind [q2, ql8, ql39, ql44, ql45, ql60, ql61])
      · exact h0 (by clear h0 h1; grind [q2, ql8, ql39, ql44, ql45, ql60, ql61])
  · refine ⟨fun c5 => ?_, fun c5 => ?_⟩
    · refine ⟨⟨Nat.le_refl _, Nat.le_refl _⟩, ?_⟩
      refine c_X6_has hn fun v hv => ?_
      refine ⟨fun c6 => ?_, fun c6 => ?_⟩
      · exact h0 (by clear h0 h1; grind [q2, ql8, ql39, ql44, ql45, ql60, ql61])
      · refine ⟨fun c7 => ?_, fun c7 => ?_⟩
        · refine ⟨⟨Nat.le_refl _, Nat.le_refl _⟩, ?_⟩
          refine c_X0_limit (fun e8 f8 => ?_) (fun e8 => absurd hn (by clear h0 h1; grind [q2, ql8, ql39, ql44, ql45, ql60, ql61]))
          · exact h1 (by clear h0 h1; grind [q2, ql8, ql39, ql44, ql45, ql60, ql61])
        · exact h0 (by clear h0 h1; grind [q2, ql8, ql39, ql44, ql45, ql60, ql61])
    · refine ⟨fun c9 => ?_, fun c9 => ?_⟩
      · refine ⟨⟨Nat.le_refl _, Nat.le_refl _⟩, ?_⟩
        refine c_X6_has hn fun v hv => ?_
        refine ⟨fun c10 => ?_, fun c10 => ?_⟩
        · exact h0 (by clear h0 h1; grind [q2, ql8, ql39, ql44, ql45, ql60, ql61])
        · refine ⟨fun c11 => ?_, fun c11 => ?_⟩
          · refine ⟨⟨Nat.le_refl _, Nat.le_refl _⟩, ?_⟩
            refine c_X0_limit (fun e12 f12 => ?_) (fun e12 => absurd hn (by clear h0 h1; grind [q2, ql8, ql39, ql44, ql45, ql60, ql61]))
            · exact h1 (by clear h0 h1; grind [q2, ql8, ql39, ql44, ql45, ql60, ql61])
          · exact h0 (by clear h0 h1; grind [q2, ql8, ql39, ql44, ql45, ql60, ql61])
      · refine ⟨⟨Nat.le_refl _, Nat.le_refl _⟩, ?_⟩
        refine c_X6_has hn fun v hv => ?_
        refine ⟨fun c13 => ?_, fun c13 => ?_⟩
        · exact h0 (by clear h0 h1; grind [q2, ql8, ql39, ql44, ql45, ql60, ql61])
        · refine ⟨fun c14 => ?_, fun c14 => ?_⟩
          · refine ⟨⟨Nat.le_refl _, Nat.le_refl _⟩, ?_⟩
            refine c_X0_limit (fun e15 f15 => ?_) (fun e15 => absurd hn (by clear h0 h1; grind [q2, ql8, ql39, ql44, ql45, ql60, ql61]))
            · exact h1 (by clear h0 h1; grind [q2, ql8, ql39, ql44, ql45, ql60, ql61])
          · exact h0 (by clear h0 h1; grind [q2, ql8, ql39, ql44, ql45, ql60, ql61])
theorem c_X12_years {d z : Nat} {N : Nat → Nat} {I : Nat → Nat → Int32} {L : Nat → Nat → Int64} {R : Nat → Nat → Option Nat} {Q : qP} {s : Int32} {a : Int32} {b : Int32} (hn : 0 ≤ I 65 0 ∧ I 65 0 ≤ 12) (h0 : (¬ (0 ≤ s ∧ s < I 65 0) ∨ a < -999 ∨ b < a ∨ 999 < b) → Q (some (.int (-2))) (z, N, I, L, R)) (h1 : ¬ (¬ (0 ≤ s ∧ s < I 65 0) ∨ a < -999 ∨ b < a ∨ 999 < b) → Q (some (.int 1)) (z, N, q2 (q2 I 80 s.toNatClampNeg a) 81 s.toNatClampNeg b, L, R)) : qWP (d + 3) 218 [.ref 65, .int s, .int a, .int b] (z, N, I, L, R) Q := by
  refine qWP_of m_X12_years rfl rfl [(0, .ref 65), (1, .int s), (2, .int a), (3, .int b)] rfl ?_
  refine qJ_run (qWP_mono _) [37, 44] 400 ?_
  refine ⟨⟨Nat.le_refl _, Nat.le_refl _⟩, ?_⟩
  refine c_X12_isStone fun v hv => ?_
  refine ⟨fun c1 => ?_, fun c1 => ?_⟩
  · refine qQ_id (Q := Q) ?_
    try simp (decide := true) only [q2_ne, q2_nj, q2_at, Nat.reduceMod, Nat.reduceAdd, kc_m999, kc_m2, kc_1, kc_999]
    exact h0 (by clear h0 h1; grind [q2, ql8, ql39, ql44, ql45, ql60, ql61])
  · refine ⟨fun c2 => ?_, fun c2 => ?_⟩
    · refine qQ_id (Q := Q) ?_
      try simp (decide := true) only [q2_ne, q2_nj, q2_at, Nat.reduceMod, Nat.reduceAdd, kc_m999, kc_m2, kc_1, kc_999]
      exact h0 (by clear h0 h1; grind [q2, ql8, ql39, ql44, ql45, ql60, ql61])
    · refine ⟨fun c3 => ?_, fun c3 => ?_⟩
      · refine qQ_id (Q := Q) ?_
        try simp (decide := true) only [q2_ne, q2_nj, q2_at, Nat.reduceMod, Nat.reduceAdd, kc_m999, kc_m2, kc_1, kc_999]
        exact h0 (by clear h0 h1; grind [q2, ql8, ql39, ql44, ql45, ql60, ql61])
      · refine ⟨fun c4 => ?_, fun c4 => ?_⟩
        · refine ⟨?_, ?_⟩
          · try simp (decide := true) only [q2_ne, q2_nj, q2_at, Nat.reduceMod, Nat.reduceAdd, kc_m999, kc_m2, kc_1, kc_999]
            exact vb (N := 12) 12 (by decide) (by clear h0 h1; grind [q2, ql8, ql39, ql44, ql45, ql60, ql61]) (by clear h0 h1; grind [q2, ql8, ql39, ql44, ql45, ql60, ql61])
          refine qJ_id ?_
          simp (decide := true) only [q2_ne, q2_nj, q2_at, Nat.reduceMod, Nat.reduceAdd, kc_m999, kc_m2, kc_1, kc_999]
          refine qJ_run (qWP_mono _) [37, 44] 400 ?_
          refine ⟨?_, ?_⟩
          · try simp (decide := true) only [q2_ne, q2_nj, q2_at, Nat.reduceMod, Nat.reduceAdd, kc_m999, kc_m2, kc_1, kc_999]
            exact vb (N := 12) 12 (by decide) (by clear h0 h1; grind [q2, ql8, ql39, ql44, ql45, ql60, ql61]) (by clear h0 h1; grind [q2, ql8, ql39, ql44, ql45, ql60, ql61])
          refine qJ_id ?_
          simp (decide := true) only [q2_ne, q2_nj, q2_at, Nat.reduceMod, Nat.reduceAdd, kc_m999, kc_m2, kc_1, kc_999]
          refine qJ_run (qWP_mono _) [37, 44] 400 ?_
          refine qQ_id (Q := Q) ?_
          try simp (decide := true) only [q2_ne, q2_nj, q2_at, Nat.reduceMod, Nat.reduceAdd, kc_m999, kc_m2, kc_1, kc_999]
          exact h1 (by clear h0 h1; grind [q2, ql8, ql39, ql44, ql45, ql60, ql61])
        · refine qQ_id (Q := Q) ?_
          try simp (decide := true) only [q2_ne, q2_nj, q2_at, Nat.reduceMod, Nat.reduceAdd, kc_m999, kc_m2, kc_1, kc_999]
          exact h0 (by clear h0 h1; grind [q2, ql8, ql39, ql44, ql45, ql60, ql61])
theorem c_X11_bound {d z : Nat} {N : Nat → Nat} {I : Nat → Nat → Int32} {L : Nat → Nat → Int64} {R : Nat → Nat → Option Nat} {Q : qP} {a : Int32} {b : Int32} {g : Int32} (hn : 0 ≤ I 3 2 ∧ I 3 2 ≤ 12) (hm : 0 ≤ I 46 7 ∧ I 46 7 ≤ 20) (h0 : (¬ (0 ≤ a ∧ a < I 3 2) ∨ ¬ (0 ≤ b ∧ b < I 3 2) ∨ a = b ∨ g < -200 ∨ 200 < g) → Q (some (.int (-2))) (z, N, I, L, R)) (h1 : ¬ (¬ (0 ≤ a ∧ a < I 3 2) ∨ ¬ (0 ≤ b ∧ b < I 3 2) ∨ a = b ∨ g < -200 ∨ 200 < g) → I 46 7 = 20 → Q (some (.int (-4))) (z, N, I, L, R)) (h2 : ¬ (¬ (0 ≤ a ∧ a < I 3 2) ∨ ¬ (0 ≤ b ∧ b < I 3 2) ∨ a = b ∨ g < -200 ∨ 200 < g) → I 46 7 < 20 → Q (some (.int (I 46 7 + 1))) (z, N, q2 (q2 (q2 (q2 I 51 (I 46 7).toNatClampNeg a) 52 (I 46 7).toNatClampNeg b) 53 (I 46 7).toNatClampNeg g) 46 7 (I 46 7 + 1), L, R)) : qWP (d + 2) 148 [.ref 2, .int a, .int b, .int g] (z, N, I, L, R) Q := by
  refine qWP_of m_X11_bound rfl rfl [(0, .ref 2), (1, .int a), (2, .int b), (3, .int g)] rfl ?_
  refine qJ_run (qWP_mono _) [] 400 ?_
  refine ⟨⟨Nat.le_refl _, Nat.le_refl _⟩, ?_⟩
  refine c_X6_has hn fun v hv => ?_
  refine ⟨fun c1 => ?_, fun c1 => ?_⟩
  · exact h0 (by clear h0 h1 h2; grind [q2, ql8, ql39, ql44, ql45, ql60, ql61])
  · refine ⟨⟨Nat.le_refl _, Nat.le_refl _⟩, ?_⟩
    refine c_X6_has hn fun v hv => ?_
    refine ⟨fun c2 => ?_, fun c2 => ?_⟩
    · exact h0 (by clear h0 h1 h2; grind [q2, ql8, ql39, ql44, ql45, ql60, ql61])
    · refine ⟨fun c3 => ?_, fun c3 => ?_⟩
      · exact h0 (by clear h0 h1 h2; grind [q2, ql8, ql39, ql44, ql45, ql60, ql61])
      · refine ⟨fun c4 => ?_, fun c4 => ?_⟩
        · exact h0 (by clear h0 h1 h2; grind [q2, ql8, ql39, ql44, ql45, ql60, ql61])
        · refine ⟨fun c5 => ?_, fun c5 => ?_⟩
          · refine ⟨⟨Nat.le_refl _, Nat.le_refl _⟩, ?_⟩
            refine c_X0_put hm (by clear h0 h1 h2; grind [q2, ql8, ql39, ql44, ql45, ql60, ql61]) (by clear h0 h1 h2; grind [q2, ql8, ql39, ql44, ql45, ql60, ql61]) (fun e6 => ?_) (fun e6 => ?_)
            · exact h1 (by clear h0 h1 h2; grind [q2, ql8, ql39, ql44, ql45, ql60, ql61]) (by clear h0 h1 h2; grind [q2, ql8, ql39, ql44, ql45, ql60, ql61])
            · exact h2 (by clear h0 h1 h2; grind [q2, ql8, ql39, ql44, ql45, ql60, ql61]) (by clear h0 h1 h2; grind [q2, ql8, ql39, ql44, ql45, ql60, ql61])
          · exact h0 (by clear h0 h1 h2; grind [q2, ql8, ql39, ql44, ql45, ql60, ql61])
theorem c_X12_bound {d z : Nat} {N : Nat → Nat} {I : Nat → Nat → Int32} {L : Nat → Nat → Int64} {R : Nat → Nat → Option Nat} {Q : qP} {a : Int32} {b : Int32} {g : Int32} (hn : 0 ≤ I 65 0 ∧ I 65 0 ≤ 12) (hm : 0 ≤ I 65 4 ∧ I 65 4 ≤ 20) (h0 : (¬ (0 ≤ a ∧ a < I 65 0) ∨ ¬ (0 ≤ b ∧ b < I 65 0) ∨ a = b ∨ g < -200 ∨ 200 < g) → Q (some (.int (-2))) (z, N, I, L, R)) (h1 : ¬ (¬ (0 ≤ a ∧ a < I 65 0) ∨ ¬ (0 ≤ b ∧ b < I 65 0) ∨ a = b ∨ g < -200 ∨ 200 < g) → I 65 4 = 20 → Q (some (.int (-4))) (z, N, I, L, R)) (h2 : ¬ (¬ (0 ≤ a ∧ a < I 65 0) ∨ ¬ (0 ≤ b ∧ b < I 65 0) ∨ a = b ∨ g < -200 ∨ 200 < g) → I 65 4 < 20 → Q (some (.int (I 65 4 + 1))) (z, N, q2 (q2 (q2 (q2 I 84 (I 65 4).toNatClampNeg a) 85 (I 65 4).toNatClampNeg b) 86 (I 65 4).toNatClampNeg g) 65 4 (I 65 4 + 1), L, R)) : qWP (d + 3) 219 [.ref 65, .int a, .int b, .int g] (z, N, I, L, R) Q := by
  refine qWP_of m_X12_bound rfl rfl [(0, .ref 65), (1, .int a), (2, .int b), (3, .int g)] rfl ?_
  refine qJ_run (qWP_mono _) [60, 70, 80, 90] 400 ?_
  refine ⟨⟨Nat.le_refl _, Nat.le_refl _⟩, ?_⟩
  refine c_X12_isStone fun v hv => ?_
  refine ⟨fun c1 => ?_, fun c1 => ?_⟩
  · refine qQ_id (Q := Q) ?_
    try simp (decide := true) only [q2_ne, q2_nj, q2_at, Nat.reduceMod, Nat.reduceAdd, kc_m200, kc_m4, kc_m2, kc_1, kc_20, kc_200]
    first | exact h0 (by clear h0 h1 h2; grind [q2, ql8, ql39, ql44, ql45, ql60, ql61]) | exact h1 (by clear h0 h1 h2; grind [q2, ql8, ql39, ql44, ql45, ql60, ql61]) (by clear h0 h1 h2; grind [q2, ql8, ql39, ql44, ql45, ql60, ql61])
  · refine ⟨⟨Nat.le_refl _, Nat.le_refl _⟩, ?_⟩
    refine c_X12_isStone fun v hv => ?_
    refine ⟨fun c2 => ?_, fun c2 => ?_⟩
    · refine qQ_id (Q := Q) ?_
      try simp (decide := true) only [q2_ne, q2_nj, q2_at, Nat.reduceMod, Nat.reduceAdd, kc_m200, kc_m4, kc_m2, kc_1, kc_20, kc_200]
      first | exact h0 (by clear h0 h1 h2; grind [q2, ql8, ql39, ql44, ql45, ql60, ql61]) | exact h1 (by clear h0 h1 h2; grind [q2, ql8, ql39, ql44, ql45, ql60, ql61]) (by clear h0 h1 h2; grind [q2, ql8, ql39, ql44, ql45, ql60, ql61])
    · refine ⟨fun c3 => ?_, fun c3 => ?_⟩
      · refine qQ_id (Q := Q) ?_
        try simp (decide := true) only [q2_ne, q2_nj, q2_at, Nat.reduceMod, Nat.reduceAdd, kc_m200, kc_m4, kc_m2, kc_1, kc_20, kc_200]
        first | exact h0 (by clear h0 h1 h2; grind [q2, ql8, ql39, ql44, ql45, ql60, ql61]) | exact h1 (by clear h0 h1 h2; grind [q2, ql8, ql39, ql44, ql45, ql60, ql61]) (by clear h0 h1 h2; grind [q2, ql8, ql39, ql44, ql45, ql60, ql61])
      · refine ⟨fun c4 => ?_, fun c4 => ?_⟩
        · refine qQ_id (Q := Q) ?_
          try simp (decide := true) only [q2_ne, q2_nj, q2_at, Nat.reduceMod, Nat.reduceAdd, kc_m200, kc_m4, kc_m2, kc_1, kc_20, kc_200]
          first | exact h0 (by clear h0 h1 h2; grind [q2, ql8, ql39, ql44, ql45, ql60, ql61]) | exact h1 (by clear h0 h1 h2; grind [q2, ql8, ql39, ql44, ql45, ql60, ql61]) (by clear h0 h1 h2; grind [q2, ql8, ql39, ql44, ql45, ql60, ql61])
        · refine ⟨fun c5 => ?_, fun c5 => ?_⟩
          · refine ⟨fun c6 => ?_, fun c6 => ?_⟩
            · refine ⟨?_, ?_⟩
              · try simp (decide := true) only [q2_ne, q2_nj, q2_at, Nat.reduceMod, Nat.reduceAdd, kc_m200, kc_m4, kc_m2, kc_1, kc_20, kc_200]
                exact vb (N := 20) 20 (by decide) (by clear h0 h1 h2; grind [q2, ql8, ql39, ql44, ql45, ql60, ql61]) (by clear h0 h1 h2; grind [q2, ql8, ql39, ql44, ql45, ql60, ql61])
              refine qJ_id ?_
              simp (decide := true) only [q2_ne, q2_nj, q2_at, Nat.reduceMod, Nat.reduceAdd, kc_m200, kc_m4, kc_m2, kc_1, kc_20, kc_200]
              refine qJ_run (qWP_mono _) [60, 70, 80, 90] 400 ?_
              refine ⟨?_, ?_⟩
              · try simp (decide := true) only [q2_ne, q2_nj, q2_at, Nat.reduceMod, Nat.reduceAdd, kc_m200, kc_m4, kc_m2, kc_1, kc_20, kc_200]
                exact vb (N := 20) 20 (by decide) (by clear h0 h1 h2; grind [q2, ql8, ql39, ql44, ql45, ql60, ql61]) (by clear h0 h1 h2; grind [q2, ql8, ql39, ql44, ql45, ql60, ql61])
              refine qJ_id ?_
              simp (decide := true) only [q2_ne, q2_nj, q2_at, Nat.reduceMod, Nat.reduceAdd, kc_m200, kc_m4, kc_m2, kc_1, kc_20, kc_200]
              refine qJ_run (qWP_mono _) [60, 70, 80, 90] 400 ?_
              refine ⟨?_, ?_⟩
              · try simp (decide := true) only [q2_ne, q2_nj, q2_at, Nat.reduceMod, Nat.reduceAdd, kc_m200, kc_m4, kc_m2, kc_1, kc_20, kc_200]
                exact vb (N := 20) 20 (by decide) (by clear h0 h1 h2; grind [q2, ql8, ql39, ql44, ql45, ql60, ql61]) (by clear h0 h1 h2; grind [q2, ql8, ql39, ql44, ql45, ql60, ql61])
              refine qJ_id ?_
              simp (decide := true) only [q2_ne, q2_nj, q2_at, Nat.reduceMod, Nat.reduceAdd, kc_m200, kc_m4, kc_m2, kc_1, kc_20, kc_200]
              refine qJ_run (qWP_mono _) [60, 70, 80, 90] 400 ?_
              refine qJ_id ?_
              simp (decide := true) only [q2_ne, q2_nj, q2_at, Nat.reduceMod, Nat.reduceAdd, kc_m200, kc_m4, kc_m2, kc_1, kc_20, kc_200]
              refine qJ_run (qWP_mono _) [60, 70, 80, 90] 400 ?_
              refine qQ_id (Q := Q) ?_
              try simp (decide := true) only [q2_ne, q2_nj, q2_at, Nat.reduceMod, Nat.reduceAdd, kc_m200, kc_m4, kc_m2, kc_1, kc_20, kc_200]
              exact h2 (by clear h0 h1 h2; grind [q2, ql8, ql39, ql44, ql45, ql60, ql61]) (by clear h0 h1 h2; grind [q2, ql8, ql39, ql44, ql45, ql60, ql61])
            · refine qQ_id (Q := Q) ?_
              try simp (decide := true) only [q2_ne, q2_nj, q2_at, Nat.reduceMod, Nat.reduceAdd, kc_m200, kc_m4, kc_m2, kc_1, kc_20, kc_200]
              first | exact h0 (by clear h0 h1 h2; grind [q2, ql8, ql39, ql44, ql45, ql60, ql61]) | exact h1 (by clear h0 h1 h2; grind [q2, ql8, ql39, ql44, ql45, ql60, ql61]) (by clear h0 h1 h2; grind [q2, ql8, ql39, ql44, ql45, ql60, ql61])
          · refine qQ_id (Q := Q) ?_
            try simp (decide := true) only [q2_ne, q2_nj, q2_at, Nat.reduceMod, Nat.reduceAdd, kc_m200, kc_m4, kc_m2, kc_1, kc_20, kc_200]
            first | exact h0 (by clear h0 h1 h2; grind [q2, ql8, ql39, ql44, ql45, ql60, ql61]) | exact h1 (by clear h0 h1 h2; grind [q2, ql8, ql39, ql44, ql45, ql60, ql61]) (by clear h0 h1 h2; grind [q2, ql8, ql39, ql44, ql45, ql60, ql61])
theorem c_X11_loose {d z : Nat} {N : Nat → Nat} {I : Nat → Nat → Int32} {L : Nat → Nat → Int64} {R : Nat → Nat → Option Nat} {Q : qP}  (hn : 0 ≤ I 46 7 ∧ I 46 7 ≤ 20) (h1 : I 46 7 = 0 → Q (some (.int (-3))) (z, N, I, L, R)) (h2 : 0 < I 46 7 → Q (some (.int (I 46 7 - 1))) (z, N, q2 I 46 7 (I 46 7 - 1), L, R)) : qWP (d + 2) 149 [.ref 2] (z, N, I, L, R) Q := by
  refine qWP_of m_X11_loose rfl rfl [(0, .ref 2)] rfl ?_
  refine qJ_run (qWP_mono _) [] 400 ?_
  refine ⟨⟨Nat.le_refl _, Nat.le_refl _⟩, ?_⟩
  refine c_X0_drop hn (fun e1 => ?_) (fun e1 => ?_)
  · exact h1 (by clear h1 h2; grind [q2, ql8, ql39, ql44, ql45, ql60, ql61])
  · exact h2 (by clear h1 h2; grind [q2, ql8, ql39, ql44, ql45, ql60, ql61])
theorem c_X12_loose {d z : Nat} {N : Nat → Nat} {I : Nat → Nat → Int32} {L : Nat → Nat → Int64} {R : Nat → Nat → Option Nat} {Q : qP}  (hn : 0 ≤ I 65 4 ∧ I 65 4 ≤ 20) (h1 : I 65 4 = 0 → Q (some (.int (-3))) (z, N, I, L, R)) (h2 : 0 < I 65 4 → Q (some (.int (I 65 4 - 1))) (z, N, q2 I 65 4 (I 65 4 - 1), L, R)) : qWP (d + 1) 220 [.ref 65] (z, N, I, L, R) Q := by
  refine qWP_of m_X12_loose rfl rfl [(0, .ref 65)] rfl ?_
  refine qJ_run (qWP_mono _) [] 400 ?_
  refine ⟨fun c1 => ?_, fun c1 => ?_⟩
  · exact h2 (by clear h1 h2; grind [q2, ql8, ql39, ql44, ql45, ql60, ql61])
  · exact h1 (by clear h1 h2; grind [q2, ql8, ql39, ql44, ql45, ql60, ql61])
end
section
/-! what is kept of the common state -/
theorem tinj {x y : Int32} (h0 : 0 ≤ x) (h1 : 0 ≤ y) (h : x.toNatClampNeg = y.toNatClampNeg) : x = y := by
  have a0 : (0 : Int) ≤ x.toInt := i0 h0
  have a1 : (0 : Int) ≤ y.toInt := i0 h1
  apply Int32.toInt_inj.mp
  rw [tcn, tcn] at h
  omega
theorem uI_t {α : Type} {f : Nat → α} {x y : Int32} {v : α} (h0 : 0 ≤ x) (h1 : 0 ≤ y) : uI f y.toNatClampNeg v x.toNatClampNeg = if x = y then v else f x.toNatClampNeg := by
  by_cases h : x = y
  · subst h; simp [uI]
  · rw [uI_nj (fun h2 => h (tinj h0 h1 h2)), if_neg h]
theorem RTx_of {z : Nat} {N : Nat → Nat} {I I' : Nat → Nat → Int32} {L L' : Nat → Nat → Int64} {R : Nat → Nat → Option Nat} (hT : RTx z N I L R) (h65 : I' 65 2 = I 65 2) (h2 : I' 2 5 = I 2 5) (h76 : I' 76 = I 76) (h75 : I' 75 = I 75) (h74 : I' 74 = I 74) (hI : ∀ k, 96 ≤ k → I' k = I k) (hL : ∀ k, 96 ≤ k → L' k = L k) : RTx z N I' L' R := by
  unfold RTx at hT ⊢
  rw [h65, h2, h76, h75, h74]
  obtain ⟨g1, g2, g3, g4, g5⟩ := hT
  refine ⟨g1, g2, g3, g4, fun f hf => ?_⟩
  rw [hI (96 + 2 * f) (by omega), hL (97 + 2 * f) (by omega)]
  exact g5 f hf
theorem RSt_add {n n' : Int32} {l p l' p' : Nat → Int32} {a b : Int32} (h : RSt n n' l p l' p') (hn : n < 12) (ha : 1 ≤ a ∧ a ≤ 4) (hb : 1 ≤ b ∧ b ≤ 24) : RSt (n + 1) (n + 1) (uI l n.toNatClampNeg a) (uI p n.toNatClampNeg b) (uI l' n.toNatClampNeg a) (uI p' n.toNatClampNeg b) := by
  obtain ⟨h1, h2, h3, h4⟩ := h
  refine ⟨rfl, by grind, by grind, fun x h0 hx => ?_⟩
  rw [uI_t h0 h2, uI_t h0 h2, uI_t h0 h2, uI_t h0 h2]
  by_cases e : x = n
  · simp only [if_pos e]; exact ⟨trivial, ha.1, ha.2, trivial, hb.1, hb.2⟩
  · simp only [if_neg e]; exact h4 x h0 (by grind)
theorem RHa_add {n n' : Int32} {r r' : Nat → Int32} {a : Int32} (h : RHa n n' r r') (hn : n < 6) (ha : 0 ≤ a ∧ a ≤ 9) : RHa (n + 1) (n + 1) (uI r n.toNatClampNeg a) (uI r' n.toNatClampNeg a) := by
  obtain ⟨h1, h2, h3, h4⟩ := h
  refine ⟨rfl, by grind, by grind, fun x h0 hx => ?_⟩
  rw [uI_t h0 h2, uI_t h0 h2]
  by_cases e : x = n
  · simp only [if_pos e]; exact ⟨trivial, ha.1, ha.2⟩
  · simp only [if_neg e]; exact h4 x h0 (by grind)
theorem REd_add {n : Int32} {l : Nat → Int32} {tl tl' a : Int32} {mk mk' nb rt lf : Nat → Int32} (h : REd n l tl tl' mk mk' nb rt lf) (hn : 0 ≤ n ∧ n < 12) : REd (n + 1) (uI l n.toNatClampNeg a) tl tl' mk mk' nb (uI rt n.toNatClampNeg (-1)) (uI lf n.toNatClampNeg (-1)) := by
  obtain ⟨h1, h2, h3, h4, h5, h6, ch, h7⟩ := h
  refine ⟨h1, h2, h3, h4, fun x h0 hx => ?_, fun x h0 hx => h6 x (by grind) hx, ch, fun x h0 hx hr => ?_⟩
  · rw [uI_t h0 hn.1, uI_t h0 hn.1, uI_t (f := l) h0 hn.1]
    by_cases e : x = n
    · simp only [if_pos e]
      obtain ⟨g1, g2⟩ := h6 x (by grind) (by grind)
      exact ⟨g1, g2, by decide, by grind, by decide, by grind, fun h => absurd h (by decide), fun h => absurd h (by decide)⟩
    · simp only [if_neg e]
      obtain ⟨g1, g2, g3, g4, g5, g6, g7, g8⟩ := h5 x h0 (by grind)
      refine ⟨g1, g2, g3, by grind, g5, by grind, fun h8 => ?_, fun h8 => ?_⟩
      · rw [uI_t h8 hn.1, uI_t (f := l) h8 hn.1, if_neg (by grind), if_neg (by grind)]
        exact g7 h8
      · rw [uI_t h8 hn.1, if_neg (by grind)]
        exact g8 h8
  · rw [uI_t h0 hn.1] at hr ⊢
    by_cases e : x = n
    · rw [if_pos e] at hr; exact absurd hr (by decide)
    · rw [if_neg e] at hr ⊢; exact h7 x h0 (by grind) hr
theorem RDa_add {n b b' : Int32} {ls ms ls' ms' ba bb bd ba' bb' bd' : Nat → Int32} (h : RDa n b b' ls ms ls' ms' ba bb bd ba' bb' bd') (hn : 0 ≤ n ∧ n < 12) : RDa (n + 1) b b' ls ms (uI ls' n.toNatClampNeg (-999)) (uI ms' n.toNatClampNeg 999) ba bb bd ba' bb' bd' := by
  obtain ⟨h1, h2, h3, h4, h5, h6⟩ := h
  refine ⟨h1, h2, h3, fun x h0 hx => ?_, fun x h0 hx => h5 x (by grind) hx, fun x h0 hx => ?_⟩
  · rw [uI_t h0 hn.1, uI_t h0 hn.1]
    by_cases e : x = n
    · simp only [if_pos e]
      obtain ⟨g1, g2⟩ := h5 x (by grind) (by grind)
      rw [g1, g2]
      exact ⟨rfl, rfl, by decide, by decide, by decide⟩
    · simp only [if_neg e]; exact h4 x h0 (by grind)
  · have := h6 x h0 hx
    grind
theorem RDa_years {n b b' c d : Int32} {ls ms ls' ms' ba bb bd ba' bb' bd' : Nat → Int32} {s : Int32} (h : RDa n b b' ls ms ls' ms' ba bb bd ba' bb' bd') (hs : 0 ≤ s ∧ s < n) (hc : -999 ≤ c ∧ c ≤ d ∧ d ≤ 999) : RDa n b b' (uI ls s.toNatClampNeg c) (uI ms s.toNatClampNeg d) (uI ls' s.toNatClampNeg c) (uI ms' s.toNatClampNeg d) ba bb bd ba' bb' bd' := by
  obtain ⟨h1, h2, h3, h4, h5, h6⟩ := h
  refine ⟨h1, h2, h3, fun x h0 hx => ?_, fun x h0 hx => ?_, h6⟩
  · rw [uI_t h0 hs.1, uI_t h0 hs.1, uI_t h0 hs.1, uI_t h0 hs.1]
    by_cases e : x = s
    · simp only [if_pos e]; exact ⟨trivial, trivial, hc⟩
    · simp only [if_neg e]; exact h4 x h0 hx
  · have h8 : 0 ≤ x := by grind
    have h9 : ¬ x = s := by grind
    rw [uI_t h8 hs.1, uI_t h8 hs.1, if_neg h9, if_neg h9]
    exact h5 x h0 hx
theorem RDa_bound {n b b' c d e : Int32} {ls ms ls' ms' ba bb bd ba' bb' bd' : Nat → Int32} (h : RDa n b b' ls ms ls' ms' ba bb bd ba' bb' bd') (hb : b < 20) (hc : 0 ≤ c ∧ c < n) (hd : 0 ≤ d ∧ d < n) (he : -200 ≤ e ∧ e ≤ 200) : RDa n (b + 1) (b + 1) ls ms ls' ms' (uI ba b.toNatClampNeg c) (uI bb b.toNatClampNeg d) (uI bd b.toNatClampNeg e) (uI ba' b.toNatClampNeg c) (uI bb' b.toNatClampNeg d) (uI bd' b.toNatClampNeg e) := by
  obtain ⟨h1, h2, h3, h4, h5, h6⟩ := h
  refine ⟨rfl, by grind, by grind, h4, h5, fun x h0 hx => ?_⟩
  rw [uI_t h0 h2, uI_t h0 h2, uI_t h0 h2, uI_t h0 h2, uI_t h0 h2, uI_t h0 h2]
  by_cases e : x = b
  · simp only [if_pos e]; exact ⟨trivial, trivial, trivial, hc.1, hc.2, hd.1, hd.2, he.1, he.2⟩
  · simp only [if_neg e]; exact h6 x h0 (by grind)
theorem RDa_loose {n b b' : Int32} {ls ms ls' ms' ba bb bd ba' bb' bd' : Nat → Int32} (h : RDa n b b' ls ms ls' ms' ba bb bd ba' bb' bd') (hb : 0 < b) : RDa n (b - 1) (b - 1) ls ms ls' ms' ba bb bd ba' bb' bd' := by
  obtain ⟨h1, h2, h3, h4, h5, h6⟩ := h
  exact ⟨rfl, by grind, by grind, h4, h5, fun x h0 hx => h6 x h0 (by grind)⟩
theorem RPe_add {n p p' : Int32} {nm fa nm' fa' : Nat → Int64} {st st' : Nat → Int32} (h : RPe n p p' nm fa nm' fa' st st') (hn : 0 ≤ n ∧ n < 12) : RPe (n + 1) p p' nm fa nm' fa' st st' := by
  obtain ⟨h1, h2, h3, h4⟩ := h
  refine ⟨h1, h2, h3, fun x h0 hx => ?_⟩
  obtain ⟨g1, g2, g3, g4, g5, g6⟩ := h4 x h0 hx
  exact ⟨g1, g2, g3, g4, g5, by grind⟩
theorem RPe_put {n p p' : Int32} {nm fa nm' fa' : Nat → Int64} {st st' : Nat → Int32} {a b : Int64} {s : Int32} (h : RPe n p p' nm fa nm' fa' st st') (hp : p < 12) (ha : ¬ a = 0) (hs : 0 ≤ s ∧ s < n) : RPe n (p + 1) (p + 1) (uI nm p.toNatClampNeg a) (uI fa p.toNatClampNeg b) (uI nm' p.toNatClampNeg a) (uI fa' p.toNatClampNeg b) (uI st p.toNatClampNeg s) (uI st' p.toNatClampNeg s) := by
  obtain ⟨h1, h2, h3, h4⟩ := h
  refine ⟨rfl, by grind, by grind, fun x h0 hx => ?_⟩
  rw [uI_t h0 h2, uI_t h0 h2, uI_t h0 h2, uI_t h0 h2, uI_t h0 h2, uI_t h0 h2]
  by_cases e : x = p
  · simp only [if_pos e]; exact ⟨trivial, trivial, ha, trivial, hs.1, hs.2⟩
  · simp only [if_neg e]; exact h4 x h0 (by grind)
theorem RTo_put {t k y : Nat → Int32} {j : Nat} {a b c : Int32} (h : RTo t k y) (hj : rd1 a b c) : RTo (uI t j a) (uI k j b) (uI y j c) := by
  intro x hx
  by_cases e : x = j
  · subst e; rw [uI_at, uI_at, uI_at]; exact hj
  · rw [uI_nj e, uI_nj e, uI_nj e]; exact h x hx
end
section
theorem op_stone {M : qM} (hI : qInv M) (l : Int32) (p : Int32) : qOp 122 172 [.int l, .int p] M := by
  obtain ⟨z, N, I, L, R⟩ := M
  obtain ⟨hst, hSt, hHa, hTo, hTp, hEd, hDa, hPe, hTr, hTx, hMk, hKA⟩ := hI
  dsimp only at hst hSt hHa hTo hTp hEd hDa hPe hTr hTx hMk hKA
  have hn : 0 ≤ I 3 2 ∧ I 3 2 ≤ 12 := ⟨hSt.2.1, hSt.2.2.1⟩
  have e0 : I 65 0 = I 3 2 := hSt.1
  have hn2 : 0 ≤ I 65 0 ∧ I 65 0 ≤ 12 := by rw [e0]; exact hn
  refine c_X11_stone hn (fun hb => ?_) (fun hb he => ?_) (fun hb he => ?_)
  · refine ⟨_, rfl, ⟨rfl, rfl, hst⟩, ?_⟩
    exact c_X12_stone (by first | exact hn2 | (simp (decide := true) only [q2_ne, q2_r1, uI_at, uI_nj, qRow_ne, qRow_at]; exact hn2)) (fun _ => ⟨rfl, ⟨by first | rfl | (simp (decide := true) only [q2_ne, q2_r1, uI_at, uI_nj, qRow_ne, qRow_at]), rfl⟩, ⟨hst, (by first | exact hSt | (simp (decide := true) only [q2_ne, q2_r1, uI_at, uI_nj, qRow_ne, qRow_at]; exact hSt)), (by first | exact hHa | (simp (decide := true) only [q2_ne, q2_r1, uI_at, uI_nj, qRow_ne, qRow_at]; exact hHa)), (by first | exact hTo | (simp (decide := true) only [q2_ne, q2_r1, uI_at, uI_nj, qRow_ne, qRow_at]; exact hTo)), (by first | exact hTp | (simp (decide := true) only [q2_ne, q2_r1, uI_at, uI_nj, qRow_ne, qRow_at]; exact hTp)), (by first | exact hEd | (simp (decide := true) only [q2_ne, q2_r1, uI_at, uI_nj, qRow_ne, qRow_at]; exact hEd)), (by first | exact hDa | (simp (decide := true) only [q2_ne, q2_r1, uI_at, uI_nj, qRow_ne, qRow_at]; exact hDa)), (by first | exact hPe | (simp (decide := true) only [q2_ne, q2_r1, uI_at, uI_nj, qRow_ne, qRow_at]; exact hPe)), (by first | exact hTr | (simp (decide := true) only [q2_ne, q2_r1, uI_at, uI_nj, qRow_ne, qRow_at]; exact hTr)), (RTx_of hTx (by simp (decide := true) only [q2_ne, q2_r1, uI_at, uI_nj, qRow_ne, qRow_at]) (by simp (decide := true) only [q2_ne, q2_r1, uI_at, uI_nj, qRow_ne, qRow_at]) (by simp (decide := true) only [q2_ne, q2_r1, uI_at, uI_nj, qRow_ne, qRow_at]) (by simp (decide := true) only [q2_ne, q2_r1, uI_at, uI_nj, qRow_ne, qRow_at]) (by simp (decide := true) only [q2_ne, q2_r1, uI_at, uI_nj, qRow_ne, qRow_at]) (fun k hk => by (try dsimp only); repeat first | rfl | rw [q2_ne (by omega)] | rw [qRow_ne (by omega)]) (fun k hk => by (try dsimp only); repeat first | rfl | rw [q2_ne (by omega)] | rw [qRow_ne (by omega)])), (by first | exact hMk | (simp (decide := true) only [q2_ne, q2_r1, uI_at, uI_nj, qRow_ne, qRow_at]; exact hMk)), (by first | exact hKA | (simp (decide := true) only [q2_ne, q2_r1, uI_at, uI_nj, qRow_ne, qRow_at]; exact hKA))⟩⟩) (fun h => absurd hb (by first | exact h | (rw [e0] at h; exact h))) (fun h => absurd hb (by first | exact h | (rw [e0] at h; exact h)))
  · refine ⟨_, rfl, ⟨rfl, rfl, hst⟩, ?_⟩
    exact c_X12_stone (by first | exact hn2 | (simp (decide := true) only [q2_ne, q2_r1, uI_at, uI_nj, qRow_ne, qRow_at]; exact hn2)) (fun h => absurd (by first | exact h | (rw [e0] at h; exact h)) hb) (fun _ _ => ⟨rfl, ⟨by first | rfl | (simp (decide := true) only [q2_ne, q2_r1, uI_at, uI_nj, qRow_ne, qRow_at]), rfl⟩, ⟨hst, (by first | exact hSt | (simp (decide := true) only [q2_ne, q2_r1, uI_at, uI_nj, qRow_ne, qRow_at]; exact hSt)), (by first | exact hHa | (simp (decide := true) only [q2_ne, q2_r1, uI_at, uI_nj, qRow_ne, qRow_at]; exact hHa)), (by first | exact hTo | (simp (decide := true) only [q2_ne, q2_r1, uI_at, uI_nj, qRow_ne, qRow_at]; exact hTo)), (by first | exact hTp | (simp (decide := true) only [q2_ne, q2_r1, uI_at, uI_nj, qRow_ne, qRow_at]; exact hTp)), (by first | exact hEd | (simp (decide := true) only [q2_ne, q2_r1, uI_at, uI_nj, qRow_ne, qRow_at]; exact hEd)), (by first | exact hDa | (simp (decide := true) only [q2_ne, q2_r1, uI_at, uI_nj, qRow_ne, qRow_at]; exact hDa)), (by first | exact hPe | (simp (decide := true) only [q2_ne, q2_r1, uI_at, uI_nj, qRow_ne, qRow_at]; exact hPe)), (by first | exact hTr | (simp (decide := true) only [q2_ne, q2_r1, uI_at, uI_nj, qRow_ne, qRow_at]; exact hTr)), (RTx_of hTx (by simp (decide := true) only [q2_ne, q2_r1, uI_at, uI_nj, qRow_ne, qRow_at]) (by simp (decide := true) only [q2_ne, q2_r1, uI_at, uI_nj, qRow_ne, qRow_at]) (by simp (decide := true) only [q2_ne, q2_r1, uI_at, uI_nj, qRow_ne, qRow_at]) (by simp (decide := true) only [q2_ne, q2_r1, uI_at, uI_nj, qRow_ne, qRow_at]) (by simp (decide := true) only [q2_ne, q2_r1, uI_at, uI_nj, qRow_ne, qRow_at]) (fun k hk => by (try dsimp only); repeat first | rfl | rw [q2_ne (by omega)] | rw [qRow_ne (by omega)]) (fun k hk => by (try dsimp only); repeat first | rfl | rw [q2_ne (by omega)] | rw [qRow_ne (by omega)])), (by first | exact hMk | (simp (decide := true) only [q2_ne, q2_r1, uI_at, uI_nj, qRow_ne, qRow_at]; exact hMk)), (by first | exact hKA | (simp (decide := true) only [q2_ne, q2_r1, uI_at, uI_nj, qRow_ne, qRow_at]; exact hKA))⟩⟩) (fun _ h => absurd h (by rw [hSt.1, he]; decide))
  · refine ⟨_, rfl, ⟨by simp (decide := true) only [q2_ne, q2_r1, uI_at, uI_nj, qRow_ne, qRow_at], rfl, hst⟩, ?_⟩
    refine c_X12_stone (by first | exact hn2 | (simp (decide := true) only [q2_ne, q2_r1, uI_at, uI_nj, qRow_ne, qRow_at]; exact hn2)) (fun h => absurd (by first | exact h | (simp (decide := true) only [q2_ne, q2_r1, uI_at, uI_nj, qRow_ne, qRow_at] at h; first | exact h | (rw [e0] at h; exact h))) hb) (fun _ h => absurd he (by simp (decide := true) only [q2_ne, q2_r1, uI_at, uI_nj, qRow_ne, qRow_at] at h; rw [← hSt.1, h]; decide)) (fun _ h => ?_)
    exact ⟨(by simp (decide := true) only [q2_ne, q2_r1, uI_at, uI_nj, qRow_ne, qRow_at]; first | done | simp only [hSt.1]), ⟨by first | rfl | (simp (decide := true) only [q2_ne, q2_r1, uI_at, uI_nj, qRow_ne, qRow_at]), rfl⟩, ⟨hst, (by simp (decide := true) only [q2_ne, q2_r1, uI_at, uI_nj, qRow_ne, qRow_at]; (try simp only [hSt.1]); exact RSt_add hSt he (by clear hst hSt hHa hTo hTp hEd hDa hPe hTr hTx hMk hKA; grind) (by clear hst hSt hHa hTo hTp hEd hDa hPe hTr hTx hMk hKA; grind)), (by first | exact hHa | (simp (decide := true) only [q2_ne, q2_r1, uI_at, uI_nj, qRow_ne, qRow_at]; exact hHa)), (by first | exact hTo | (simp (decide := true) only [q2_ne, q2_r1, uI_at, uI_nj, qRow_ne, qRow_at]; exact hTo)), (by first | exact hTp | (simp (decide := true) only [q2_ne, q2_r1, uI_at, uI_nj, qRow_ne, qRow_at]; exact hTp)), (by simp (decide := true) only [q2_ne, q2_r1, uI_at, uI_nj, qRow_ne, qRow_at]; (try simp only [hSt.1]); exact REd_add hEd ⟨hn.1, he⟩), (by simp (decide := true) only [q2_ne, q2_r1, uI_at, uI_nj, qRow_ne, qRow_at]; (try simp only [hSt.1]); exact RDa_add hDa ⟨hn.1, he⟩), (by simp (decide := true) only [q2_ne, q2_r1, uI_at, uI_nj, qRow_ne, qRow_at]; (try simp only [hSt.1]); exact RPe_add hPe ⟨hn.1, he⟩), (by first | exact hTr | (simp (decide := true) only [q2_ne, q2_r1, uI_at, uI_nj, qRow_ne, qRow_at]; exact hTr)), (RTx_of hTx (by simp (decide := true) only [q2_ne, q2_r1, uI_at, uI_nj, qRow_ne, qRow_at]) (by simp (decide := true) only [q2_ne, q2_r1, uI_at, uI_nj, qRow_ne, qRow_at]) (by simp (decide := true) only [q2_ne, q2_r1, uI_at, uI_nj, qRow_ne, qRow_at]) (by simp (decide := true) only [q2_ne, q2_r1, uI_at, uI_nj, qRow_ne, qRow_at]) (by simp (decide := true) only [q2_ne, q2_r1, uI_at, uI_nj, qRow_ne, qRow_at]) (fun k hk => by (try dsimp only); repeat first | rfl | rw [q2_ne (by omega)] | rw [qRow_ne (by omega)]) (fun k hk => by (try dsimp only); repeat first | rfl | rw [q2_ne (by omega)] | rw [qRow_ne (by omega)])), (by first | exact hMk | (simp (decide := true) only [q2_ne, q2_r1, uI_at, uI_nj, qRow_ne, qRow_at]; exact hMk)), (by first | exact hKA | (simp (decide := true) only [q2_ne, q2_r1, uI_at, uI_nj, qRow_ne, qRow_at]; exact hKA))⟩⟩
theorem op_hand {M : qM} (hI : qInv M) (r : Int32) : qOp 123 173 [.int r] M := by
  obtain ⟨z, N, I, L, R⟩ := M
  obtain ⟨hst, hSt, hHa, hTo, hTp, hEd, hDa, hPe, hTr, hTx, hMk, hKA⟩ := hI
  dsimp only at hst hSt hHa hTo hTp hEd hDa hPe hTr hTx hMk hKA
  have hm : 0 ≤ I 6 2 ∧ I 6 2 ≤ 6 := ⟨hHa.2.1, hHa.2.2.1⟩
  have hm2 : 0 ≤ I 65 1 ∧ I 65 1 ≤ 6 := by rw [hHa.1]; exact hm
  refine c_X11_hand hm (fun hb => ?_) (fun hb he => ?_) (fun hb he => ?_)
  · refine ⟨_, rfl, ⟨rfl, rfl, hst⟩, ?_⟩
    exact c_X12_hand (by first | exact hm2 | (simp (decide := true) only [q2_ne, q2_r1, uI_at, uI_nj, qRow_ne, qRow_at]; exact hm2)) (fun _ => ⟨rfl, ⟨by first | rfl | (simp (decide := true) only [q2_ne, q2_r1, uI_at, uI_nj, qRow_ne, qRow_at]), rfl⟩, ⟨hst, (by first | exact hSt | (simp (decide := true) only [q2_ne, q2_r1, uI_at, uI_nj, qRow_ne, qRow_at]; exact hSt)), (by first | exact hHa | (simp (decide := true) only [q2_ne, q2_r1, uI_at, uI_nj, qRow_ne, qRow_at]; exact hHa)), (by first | exact hTo | (simp (decide := true) only [q2_ne, q2_r1, uI_at, uI_nj, qRow_ne, qRow_at]; exact hTo)), (by first | exact hTp | (simp (decide := true) only [q2_ne, q2_r1, uI_at, uI_nj, qRow_ne, qRow_at]; exact hTp)), (by first | exact hEd | (simp (decide := true) only [q2_ne, q2_r1, uI_at, uI_nj, qRow_ne, qRow_at]; exact hEd)), (by first | exact hDa | (simp (decide := true) only [q2_ne, q2_r1, uI_at, uI_nj, qRow_ne, qRow_at]; exact hDa)), (by first | exact hPe | (simp (decide := true) only [q2_ne, q2_r1, uI_at, uI_nj, qRow_ne, qRow_at]; exact hPe)), (by first | exact hTr | (simp (decide := true) only [q2_ne, q2_r1, uI_at, uI_nj, qRow_ne, qRow_at]; exact hTr)), (RTx_of hTx (by simp (decide := true) only [q2_ne, q2_r1, uI_at, uI_nj, qRow_ne, qRow_at]) (by simp (decide := true) only [q2_ne, q2_r1, uI_at, uI_nj, qRow_ne, qRow_at]) (by simp (decide := true) only [q2_ne, q2_r1, uI_at, uI_nj, qRow_ne, qRow_at]) (by simp (decide := true) only [q2_ne, q2_r1, uI_at, uI_nj, qRow_ne, qRow_at]) (by simp (decide := true) only [q2_ne, q2_r1, uI_at, uI_nj, qRow_ne, qRow_at]) (fun k hk => by (try dsimp only); repeat first | rfl | rw [q2_ne (by omega)] | rw [qRow_ne (by omega)]) (fun k hk => by (try dsimp only); repeat first | rfl | rw [q2_ne (by omega)] | rw [qRow_ne (by omega)])), (by first | exact hMk | (simp (decide := true) only [q2_ne, q2_r1, uI_at, uI_nj, qRow_ne, qRow_at]; exact hMk)), (by first | exact hKA | (simp (decide := true) only [q2_ne, q2_r1, uI_at, uI_nj, qRow_ne, qRow_at]; exact hKA))⟩⟩) (fun h => absurd hb (by first | exact h | (rw [hHa.1] at h; exact h))) (fun h => absurd hb (by first | exact h | (rw [hHa.1] at h; exact h)))
  · refine ⟨_, rfl, ⟨rfl, rfl, hst⟩, ?_⟩
    exact c_X12_hand (by first | exact hm2 | (simp (decide := true) only [q2_ne, q2_r1, uI_at, uI_nj, qRow_ne, qRow_at]; exact hm2)) (fun h => absurd (by first | exact h | (rw [hHa.1] at h; exact h)) hb) (fun _ _ => ⟨rfl, ⟨by first | rfl | (simp (decide := true) only [q2_ne, q2_r1, uI_at, uI_nj, qRow_ne, qRow_at]), rfl⟩, ⟨hst, (by first | exact hSt | (simp (decide := true) only [q2_ne, q2_r1, uI_at, uI_nj, qRow_ne, qRow_at]; exact hSt)), (by first | exact hHa | (simp (decide := true) only [q2_ne, q2_r1, uI_at, uI_nj, qRow_ne, qRow_at]; exact hHa)), (by first | exact hTo | (simp (decide := true) only [q2_ne, q2_r1, uI_at, uI_nj, qRow_ne, qRow_at]; exact hTo)), (by first | exact hTp | (simp (decide := true) only [q2_ne, q2_r1, uI_at, uI_nj, qRow_ne, qRow_at]; exact hTp)), (by first | exact hEd | (simp (decide := true) only [q2_ne, q2_r1, uI_at, uI_nj, qRow_ne, qRow_at]; exact hEd)), (by first | exact hDa | (simp (decide := true) only [q2_ne, q2_r1, uI_at, uI_nj, qRow_ne, qRow_at]; exact hDa)), (by first | exact hPe | (simp (decide := true) only [q2_ne, q2_r1, uI_at, uI_nj, qRow_ne, qRow_at]; exact hPe)), (by first | exact hTr | (simp (decide := true) only [q2_ne, q2_r1, uI_at, uI_nj, qRow_ne, qRow_at]; exact hTr)), (RTx_of hTx (by simp (decide := true) only [q2_ne, q2_r1, uI_at, uI_nj, qRow_ne, qRow_at]) (by simp (decide := true) only [q2_ne, q2_r1, uI_at, uI_nj, qRow_ne, qRow_at]) (by simp (decide := true) only [q2_ne, q2_r1, uI_at, uI_nj, qRow_ne, qRow_at]) (by simp (decide := true) only [q2_ne, q2_r1, uI_at, uI_nj, qRow_ne, qRow_at]) (by simp (decide := true) only [q2_ne, q2_r1, uI_at, uI_nj, qRow_ne, qRow_at]) (fun k hk => by (try dsimp only); repeat first | rfl | rw [q2_ne (by omega)] | rw [qRow_ne (by omega)]) (fun k hk => by (try dsimp only); repeat first | rfl | rw [q2_ne (by omega)] | rw [qRow_ne (by omega)])), (by first | exact hMk | (simp (decide := true) only [q2_ne, q2_r1, uI_at, uI_nj, qRow_ne, qRow_at]; exact hMk)), (by first | exact hKA | (simp (decide := true) only [q2_ne, q2_r1, uI_at, uI_nj, qRow_ne, qRow_at]; exact hKA))⟩⟩) (fun _ h => absurd h (by rw [hHa.1, he]; decide))
  · refine ⟨_, rfl, ⟨by simp (decide := true) only [q2_ne, q2_r1, uI_at, uI_nj, qRow_ne, qRow_at], rfl, hst⟩, ?_⟩
    refine c_X12_hand (by first | exact hm2 | (simp (decide := true) only [q2_ne, q2_r1, uI_at, uI_nj, qRow_ne, qRow_at]; exact hm2)) (fun h => absurd (by first | exact h | (simp (decide := true) only [q2_ne, q2_r1, uI_at, uI_nj, qRow_ne, qRow_at] at h; first | exact h | (rw [hHa.1] at h; exact h))) hb) (fun _ h => absurd he (by simp (decide := true) only [q2_ne, q2_r1, uI_at, uI_nj, qRow_ne, qRow_at] at h; rw [← hHa.1, h]; decide)) (fun _ h => ?_)
    exact ⟨(by simp (decide := true) only [q2_ne, q2_r1, uI_at, uI_nj, qRow_ne, qRow_at]; first | done | simp only [hHa.1]), ⟨by first | rfl | (simp (decide := true) only [q2_ne, q2_r1, uI_at, uI_nj, qRow_ne, qRow_at]), rfl⟩, ⟨hst, (by first | exact hSt | (simp (decide := true) only [q2_ne, q2_r1, uI_at, uI_nj, qRow_ne, qRow_at]; exact hSt)), (by simp (decide := true) only [q2_ne, q2_r1, uI_at, uI_nj, qRow_ne, qRow_at]; (try simp only [hHa.1]); exact RHa_add hHa he (by clear hst hSt hHa hTo hTp hEd hDa hPe hTr hTx hMk hKA; grind)), (by first | exact hTo | (simp (decide := true) only [q2_ne, q2_r1, uI_at, uI_nj, qRow_ne, qRow_at]; exact hTo)), (by first | exact hTp | (simp (decide := true) only [q2_ne, q2_r1, uI_at, uI_nj, qRow_ne, qRow_at]; exact hTp)), (by first | exact hEd | (simp (decide := true) only [q2_ne, q2_r1, uI_at, uI_nj, qRow_ne, qRow_at]; exact hEd)), (by first | exact hDa | (simp (decide := true) only [q2_ne, q2_r1, uI_at, uI_nj, qRow_ne, qRow_at]; exact hDa)), (by first | exact hPe | (simp (decide := true) only [q2_ne, q2_r1, uI_at, uI_nj, qRow_ne, qRow_at]; exact hPe)), (by first | exact hTr | (simp (decide := true) only [q2_ne, q2_r1, uI_at, uI_nj, qRow_ne, qRow_at]; exact hTr)), (RTx_of hTx (by simp (decide := true) only [q2_ne, q2_r1, uI_at, uI_nj, qRow_ne, qRow_at]) (by simp (decide := true) only [q2_ne, q2_r1, uI_at, uI_nj, qRow_ne, qRow_at]) (by simp (decide := true) only [q2_ne, q2_r1, uI_at, uI_nj, qRow_ne, qRow_at]) (by simp (decide := true) only [q2_ne, q2_r1, uI_at, uI_nj, qRow_ne, qRow_at]) (by simp (decide := true) only [q2_ne, q2_r1, uI_at, uI_nj, qRow_ne, qRow_at]) (fun k hk => by (try dsimp only); repeat first | rfl | rw [q2_ne (by omega)] | rw [qRow_ne (by omega)]) (fun k hk => by (try dsimp only); repeat first | rfl | rw [q2_ne (by omega)] | rw [qRow_ne (by omega)])), (by first | exact hMk | (simp (decide := true) only [q2_ne, q2_r1, uI_at, uI_nj, qRow_ne, qRow_at]; exact hMk)), (by first | exact hKA | (simp (decide := true) only [q2_ne, q2_r1, uI_at, uI_nj, qRow_ne, qRow_at]; exact hKA))⟩⟩
theorem op_bound {M : qM} (hI : qInv M) (a : Int32) (b : Int32) (g : Int32) : qOp 148 219 [.int a, .int b, .int g] M := by
  obtain ⟨z, N, I, L, R⟩ := M
  obtain ⟨hst, hSt, hHa, hTo, hTp, hEd, hDa, hPe, hTr, hTx, hMk, hKA⟩ := hI
  dsimp only at hst hSt hHa hTo hTp hEd hDa hPe hTr hTx hMk hKA
  have hn : 0 ≤ I 3 2 ∧ I 3 2 ≤ 12 := ⟨hSt.2.1, hSt.2.2.1⟩
  have e0 : I 65 0 = I 3 2 := hSt.1
  have hn2 : 0 ≤ I 65 0 ∧ I 65 0 ≤ 12 := by rw [e0]; exact hn
  have hm : 0 ≤ I 46 7 ∧ I 46 7 ≤ 20 := ⟨hDa.2.1, hDa.2.2.1⟩
  have hm2 : 0 ≤ I 65 4 ∧ I 65 4 ≤ 20 := by rw [hDa.1]; exact hm
  refine c_X11_bound hn hm (fun hb => ?_) (fun hb he => ?_) (fun hb he => ?_)
  · refine ⟨_, rfl, ⟨rfl, rfl, hst⟩, ?_⟩
    exact c_X12_bound (by first | exact hn2 | (simp (decide := true) only [q2_ne, q2_r1, uI_at, uI_nj, qRow_ne, qRow_at]; exact hn2)) (by first | exact hm2 | (simp (decide := true) only [q2_ne, q2_r1, uI_at, uI_nj, qRow_ne, qRow_at]; exact hm2)) (fun _ => ⟨rfl, ⟨by first | rfl | (simp (decide := true) only [q2_ne, q2_r1, uI_at, uI_nj, qRow_ne, qRow_at]), rfl⟩, ⟨hst, (by first | exact hSt | (simp (decide := true) only [q2_ne, q2_r1, uI_at, uI_nj, qRow_ne, qRow_at]; exact hSt)), (by first | exact hHa | (simp (decide := true) only [q2_ne, q2_r1, uI_at, uI_nj, qRow_ne, qRow_at]; exact hHa)), (by first | exact hTo | (simp (decide := true) only [q2_ne, q2_r1, uI_at, uI_nj, qRow_ne, qRow_at]; exact hTo)), (by first | exact hTp | (simp (decide := true) only [q2_ne, q2_r1, uI_at, uI_nj, qRow_ne, qRow_at]; exact hTp)), (by first | exact hEd | (simp (decide := true) only [q2_ne, q2_r1, uI_at, uI_nj, qRow_ne, qRow_at]; exact hEd)), (by first | exact hDa | (simp (decide := true) only [q2_ne, q2_r1, uI_at, uI_nj, qRow_ne, qRow_at]; exact hDa)), (by first | exact hPe | (simp (decide := true) only [q2_ne, q2_r1, uI_at, uI_nj, qRow_ne, qRow_at]; exact hPe)), (by first | exact hTr | (simp (decide := true) only [q2_ne, q2_r1, uI_at, uI_nj, qRow_ne, qRow_at]; exact hTr)), (RTx_of hTx (by simp (decide := true) only [q2_ne, q2_r1, uI_at, uI_nj, qRow_ne, qRow_at]) (by simp (decide := true) only [q2_ne, q2_r1, uI_at, uI_nj, qRow_ne, qRow_at]) (by simp (decide := true) only [q2_ne, q2_r1, uI_at, uI_nj, qRow_ne, qRow_at]) (by simp (decide := true) only [q2_ne, q2_r1, uI_at, uI_nj, qRow_ne, qRow_at]) (by simp (decide := true) only [q2_ne, q2_r1, uI_at, uI_nj, qRow_ne, qRow_at]) (fun k hk => by (try dsimp only); repeat first | rfl | rw [q2_ne (by omega)] | rw [qRow_ne (by omega)]) (fun k hk => by (try dsimp only); repeat first | rfl | rw [q2_ne (by omega)] | rw [qRow_ne (by omega)])), (by first | exact hMk | (simp (decide := true) only [q2_ne, q2_r1, uI_at, uI_nj, qRow_ne, qRow_at]; exact hMk)), (by first | exact hKA | (simp (decide := true) only [q2_ne, q2_r1, uI_at, uI_nj, qRow_ne, qRow_at]; exact hKA))⟩⟩) (fun h => absurd hb (by first | exact h | (rw [e0] at h; exact h))) (fun h => absurd hb (by first | exact h | (rw [e0] at h; exact h)))
  · refine ⟨_, rfl, ⟨rfl, rfl, hst⟩, ?_⟩
    exact c_X12_bound (by first | exact hn2 | (simp (decide := true) only [q2_ne, q2_r1, uI_at, uI_nj, qRow_ne, qRow_at]; exact hn2)) (by first | exact hm2 | (simp (decide := true) only [q2_ne, q2_r1, uI_at, uI_nj, qRow_ne, qRow_at]; exact hm2)) (fun h => absurd (by first | exact h | (rw [e0] at h; exact h)) hb) (fun _ _ => ⟨rfl, ⟨by first | rfl | (simp (decide := true) only [q2_ne, q2_r1, uI_at, uI_nj, qRow_ne, qRow_at]), rfl⟩, ⟨hst, (by first | exact hSt | (simp (decide := true) only [q2_ne, q2_r1, uI_at, uI_nj, qRow_ne, qRow_at]; exact hSt)), (by first | exact hHa | (simp (decide := true) only [q2_ne, q2_r1, uI_at, uI_nj, qRow_ne, qRow_at]; exact hHa)), (by first | exact hTo | (simp (decide := true) only [q2_ne, q2_r1, uI_at, uI_nj, qRow_ne, qRow_at]; exact hTo)), (by first | exact hTp | (simp (decide := true) only [q2_ne, q2_r1, uI_at, uI_nj, qRow_ne, qRow_at]; exact hTp)), (by first | exact hEd | (simp (decide := true) only [q2_ne, q2_r1, uI_at, uI_nj, qRow_ne, qRow_at]; exact hEd)), (by first | exact hDa | (simp (decide := true) only [q2_ne, q2_r1, uI_at, uI_nj, qRow_ne, qRow_at]; exact hDa)), (by first | exact hPe | (simp (decide := true) only [q2_ne, q2_r1, uI_at, uI_nj, qRow_ne, qRow_at]; exact hPe)), (by first | exact hTr | (simp (decide := true) only [q2_ne, q2_r1, uI_at, uI_nj, qRow_ne, qRow_at]; exact hTr)), (RTx_of hTx (by simp (decide := true) only [q2_ne, q2_r1, uI_at, uI_nj, qRow_ne, qRow_at]) (by simp (decide := true) only [q2_ne, q2_r1, uI_at, uI_nj, qRow_ne, qRow_at]) (by simp (decide := true) only [q2_ne, q2_r1, uI_at, uI_nj, qRow_ne, qRow_at]) (by simp (decide := true) only [q2_ne, q2_r1, uI_at, uI_nj, qRow_ne, qRow_at]) (by simp (decide := true) only [q2_ne, q2_r1, uI_at, uI_nj, qRow_ne, qRow_at]) (fun k hk => by (try dsimp only); repeat first | rfl | rw [q2_ne (by omega)] | rw [qRow_ne (by omega)]) (fun k hk => by (try dsimp only); repeat first | rfl | rw [q2_ne (by omega)] | rw [qRow_ne (by omega)])), (by first | exact hMk | (simp (decide := true) only [q2_ne, q2_r1, uI_at, uI_nj, qRow_ne, qRow_at]; exact hMk)), (by first | exact hKA | (simp (decide := true) only [q2_ne, q2_r1, uI_at, uI_nj, qRow_ne, qRow_at]; exact hKA))⟩⟩) (fun _ h => absurd h (by rw [hDa.1, he]; decide))
  · refine ⟨_, rfl, ⟨by simp (decide := true) only [q2_ne, q2_r1, uI_at, uI_nj, qRow_ne, qRow_at], rfl, hst⟩, ?_⟩
    refine c_X12_bound (by first | exact hn2 | (simp (decide := true) only [q2_ne, q2_r1, uI_at, uI_nj, qRow_ne, qRow_at]; exact hn2)) (by first | exact hm2 | (simp (decide := true) only [q2_ne, q2_r1, uI_at, uI_nj, qRow_ne, qRow_at]; exact hm2)) (fun h => absurd (by first | exact h | (simp (decide := true) only [q2_ne, q2_r1, uI_at, uI_nj, qRow_ne, qRow_at] at h; first | exact h | (rw [e0] at h; exact h))) hb) (fun _ h => absurd he (by simp (decide := true) only [q2_ne, q2_r1, uI_at, uI_nj, qRow_ne, qRow_at] at h; rw [← hDa.1, h]; decide)) (fun _ h => ?_)
    exact ⟨(by simp (decide := true) only [q2_ne, q2_r1, uI_at, uI_nj, qRow_ne, qRow_at]; first | done | simp only [hDa.1]), ⟨by first | rfl | (simp (decide := true) only [q2_ne, q2_r1, uI_at, uI_nj, qRow_ne, qRow_at]), rfl⟩, ⟨hst, (by first | exact hSt | (simp (decide := true) only [q2_ne, q2_r1, uI_at, uI_nj, qRow_ne, qRow_at]; exact hSt)), (by first | exact hHa | (simp (decide := true) only [q2_ne, q2_r1, uI_at, uI_nj, qRow_ne, qRow_at]; exact hHa)), (by first | exact hTo | (simp (decide := true) only [q2_ne, q2_r1, uI_at, uI_nj, qRow_ne, qRow_at]; exact hTo)), (by first | exact hTp | (simp (decide := true) only [q2_ne, q2_r1, uI_at, uI_nj, qRow_ne, qRow_at]; exact hTp)), (by first | exact hEd | (simp (decide := true) only [q2_ne, q2_r1, uI_at, uI_nj, qRow_ne, qRow_at]; exact hEd)), (by simp (decide := true) only [q2_ne, q2_r1, uI_at, uI_nj, qRow_ne, qRow_at]; (try simp only [hDa.1]); exact RDa_bound hDa he (by clear hst hSt hHa hTo hTp hEd hDa hPe hTr hTx hMk hKA; grind) (by clear hst hSt hHa hTo hTp hEd hDa hPe hTr hTx hMk hKA; grind) (by clear hst hSt hHa hTo hTp hEd hDa hPe hTr hTx hMk hKA; grind)), (by first | exact hPe | (simp (decide := true) only [q2_ne, q2_r1, uI_at, uI_nj, qRow_ne, qRow_at]; exact hPe)), (by first | exact hTr | (simp (decide := true) only [q2_ne, q2_r1, uI_at, uI_nj, qRow_ne, qRow_at]; exact hTr)), (RTx_of hTx (by simp (decide := true) only [q2_ne, q2_r1, uI_at, uI_nj, qRow_ne, qRow_at]) (by simp (decide := true) only [q2_ne, q2_r1, uI_at, uI_nj, qRow_ne, qRow_at]) (by simp (decide := true) only [q2_ne, q2_r1, uI_at, uI_nj, qRow_ne, qRow_at]) (by simp (decide := true) only [q2_ne, q2_r1, uI_at, uI_nj, qRow_ne, qRow_at]) (by simp (decide := true) only [q2_ne, q2_r1, uI_at, uI_nj, qRow_ne, qRow_at]) (fun k hk => by (try dsimp only); repeat first | rfl | rw [q2_ne (by omega)] | rw [qRow_ne (by omega)]) (fun k hk => by (try dsimp only); repeat first | rfl | rw [q2_ne (by omega)] | rw [qRow_ne (by omega)])), (by first | exact hMk | (simp (decide := true) only [q2_ne, q2_r1, uI_at, uI_nj, qRow_ne, qRow_at]; exact hMk)), (by first | exact hKA | (simp (decide := true) only [q2_ne, q2_r1, uI_at, uI_nj, qRow_ne, qRow_at]; exact hKA))⟩⟩
theorem op_years {M : qM} (hI : qInv M) (s : Int32) (a : Int32) (b : Int32) : qOp 147 218 [.int s, .int a, .int b] M := by
  obtain ⟨z, N, I, L, R⟩ := M
  obtain ⟨hst, hSt, hHa, hTo, hTp, hEd, hDa, hPe, hTr, hTx, hMk, hKA⟩ := hI
  dsimp only at hst hSt hHa hTo hTp hEd hDa hPe hTr hTx hMk hKA
  have hn : 0 ≤ I 3 2 ∧ I 3 2 ≤ 12 := ⟨hSt.2.1, hSt.2.2.1⟩
  have e0 : I 65 0 = I 3 2 := hSt.1
  have hn2 : 0 ≤ I 65 0 ∧ I 65 0 ≤ 12 := by rw [e0]; exact hn
  refine c_X11_years hn (fun hb => ?_) (fun hb => ?_)
  · refine ⟨_, rfl, ⟨rfl, rfl, hst⟩, ?_⟩
    exact c_X12_years hn2 (fun _ => ⟨rfl, ⟨by first | rfl | (simp (decide := true) only [q2_ne, q2_r1, uI_at, uI_nj, qRow_ne, qRow_at]), rfl⟩, ⟨hst, (by first | exact hSt | (simp (decide := true) only [q2_ne, q2_r1, uI_at, uI_nj, qRow_ne, qRow_at]; exact hSt)), (by first | exact hHa | (simp (decide := true) only [q2_ne, q2_r1, uI_at, uI_nj, qRow_ne, qRow_at]; exact hHa)), (by first | exact hTo | (simp (decide := true) only [q2_ne, q2_r1, uI_at, uI_nj, qRow_ne, qRow_at]; exact hTo)), (by first | exact hTp | (simp (decide := true) only [q2_ne, q2_r1, uI_at, uI_nj, qRow_ne, qRow_at]; exact hTp)), (by first | exact hEd | (simp (decide := true) only [q2_ne, q2_r1, uI_at, uI_nj, qRow_ne, qRow_at]; exact hEd)), (by first | exact hDa | (simp (decide := true) only [q2_ne, q2_r1, uI_at, uI_nj, qRow_ne, qRow_at]; exact hDa)), (by first | exact hPe | (simp (decide := true) only [q2_ne, q2_r1, uI_at, uI_nj, qRow_ne, qRow_at]; exact hPe)), (by first | exact hTr | (simp (decide := true) only [q2_ne, q2_r1, uI_at, uI_nj, qRow_ne, qRow_at]; exact hTr)), (RTx_of hTx (by simp (decide := true) only [q2_ne, q2_r1, uI_at, uI_nj, qRow_ne, qRow_at]) (by simp (decide := true) only [q2_ne, q2_r1, uI_at, uI_nj, qRow_ne, qRow_at]) (by simp (decide := true) only [q2_ne, q2_r1, uI_at, uI_nj, qRow_ne, qRow_at]) (by simp (decide := true) only [q2_ne, q2_r1, uI_at, uI_nj, qRow_ne, qRow_at]) (by simp (decide := true) only [q2_ne, q2_r1, uI_at, uI_nj, qRow_ne, qRow_at]) (fun k hk => by (try dsimp only); repeat first | rfl | rw [q2_ne (by omega)] | rw [qRow_ne (by omega)]) (fun k hk => by (try dsimp only); repeat first | rfl | rw [q2_ne (by omega)] | rw [qRow_ne (by omega)])), (by first | exact hMk | (simp (decide := true) only [q2_ne, q2_r1, uI_at, uI_nj, qRow_ne, qRow_at]; exact hMk)), (by first | exact hKA | (simp (decide := true) only [q2_ne, q2_r1, uI_at, uI_nj, qRow_ne, qRow_at]; exact hKA))⟩⟩) (fun h => absurd hb (by rw [e0] at h; exact h))
  · refine ⟨_, rfl, ⟨by simp (decide := true) only [q2_ne, q2_r1, uI_at, uI_nj, qRow_ne, qRow_at], rfl, hst⟩, ?_⟩
    refine c_X12_years (by first | exact hn2 | (simp (decide := true) only [q2_ne, q2_r1, uI_at, uI_nj, qRow_ne, qRow_at]; exact hn2)) (fun h => absurd (by simp (decide := true) only [q2_ne, q2_r1, uI_at, uI_nj, qRow_ne, qRow_at] at h; rw [e0] at h; exact h) hb) (fun _ => ?_)
    exact ⟨rfl, ⟨by first | rfl | (simp (decide := true) only [q2_ne, q2_r1, uI_at, uI_nj, qRow_ne, qRow_at]), rfl⟩, ⟨hst, (by first | exact hSt | (simp (decide := true) only [q2_ne, q2_r1, uI_at, uI_nj, qRow_ne, qRow_at]; exact hSt)), (by first | exact hHa | (simp (decide := true) only [q2_ne, q2_r1, uI_at, uI_nj, qRow_ne, qRow_at]; exact hHa)), (by first | exact hTo | (simp (decide := true) only [q2_ne, q2_r1, uI_at, uI_nj, qRow_ne, qRow_at]; exact hTo)), (by first | exact hTp | (simp (decide := true) only [q2_ne, q2_r1, uI_at, uI_nj, qRow_ne, qRow_at]; exact hTp)), (by first | exact hEd | (simp (decide := true) only [q2_ne, q2_r1, uI_at, uI_nj, qRow_ne, qRow_at]; exact hEd)), (by simp (decide := true) only [q2_ne, q2_r1, uI_at, uI_nj, qRow_ne, qRow_at]; exact RDa_years hDa (by clear hst hSt hHa hTo hTp hEd hDa hPe hTr hTx hMk hKA; grind) (by clear hst hSt hHa hTo hTp hEd hDa hPe hTr hTx hMk hKA; grind)), (by first | exact hPe | (simp (decide := true) only [q2_ne, q2_r1, uI_at, uI_nj, qRow_ne, qRow_at]; exact hPe)), (by first | exact hTr | (simp (decide := true) only [q2_ne, q2_r1, uI_at, uI_nj, qRow_ne, qRow_at]; exact hTr)), (RTx_of hTx (by simp (decide := true) only [q2_ne, q2_r1, uI_at, uI_nj, qRow_ne, qRow_at]) (by simp (decide := true) only [q2_ne, q2_r1, uI_at, uI_nj, qRow_ne, qRow_at]) (by simp (decide := true) only [q2_ne, q2_r1, uI_at, uI_nj, qRow_ne, qRow_at]) (by simp (decide := true) only [q2_ne, q2_r1, uI_at, uI_nj, qRow_ne, qRow_at]) (by simp (decide := true) only [q2_ne, q2_r1, uI_at, uI_nj, qRow_ne, qRow_at]) (fun k hk => by (try dsimp only); repeat first | rfl | rw [q2_ne (by omega)] | rw [qRow_ne (by omega)]) (fun k hk => by (try dsimp only); repeat first | rfl | rw [q2_ne (by omega)] | rw [qRow_ne (by omega)])), (by first | exact hMk | (simp (decide := true) only [q2_ne, q2_r1, uI_at, uI_nj, qRow_ne, qRow_at]; exact hMk)), (by first | exact hKA | (simp (decide := true) only [q2_ne, q2_r1, uI_at, uI_nj, qRow_ne, qRow_at]; exact hKA))⟩⟩
theorem op_loose {M : qM} (hI : qInv M)  : qOp 149 220 [] M := by
  obtain ⟨z, N, I, L, R⟩ := M
  obtain ⟨hst, hSt, hHa, hTo, hTp, hEd, hDa, hPe, hTr, hTx, hMk, hKA⟩ := hI
  dsimp only at hst hSt hHa hTo hTp hEd hDa hPe hTr hTx hMk hKA
  have hm : 0 ≤ I 46 7 ∧ I 46 7 ≤ 20 := ⟨hDa.2.1, hDa.2.2.1⟩
  have hm2 : 0 ≤ I 65 4 ∧ I 65 4 ≤ 20 := by rw [hDa.1]; exact hm
  refine c_X11_loose hm (fun he => ?_) (fun he => ?_)
  · refine ⟨_, rfl, ⟨rfl, rfl, hst⟩, ?_⟩
    exact c_X12_loose hm2 (fun _ => ⟨rfl, ⟨by first | rfl | (simp (decide := true) only [q2_ne, q2_r1, uI_at, uI_nj, qRow_ne, qRow_at]), rfl⟩, ⟨hst, (by first | exact hSt | (simp (decide := true) only [q2_ne, q2_r1, uI_at, uI_nj, qRow_ne, qRow_at]; exact hSt)), (by first | exact hHa | (simp (decide := true) only [q2_ne, q2_r1, uI_at, uI_nj, qRow_ne, qRow_at]; exact hHa)), (by first | exact hTo | (simp (decide := true) only [q2_ne, q2_r1, uI_at, uI_nj, qRow_ne, qRow_at]; exact hTo)), (by first | exact hTp | (simp (decide := true) only [q2_ne, q2_r1, uI_at, uI_nj, qRow_ne, qRow_at]; exact hTp)), (by first | exact hEd | (simp (decide := true) only [q2_ne, q2_r1, uI_at, uI_nj, qRow_ne, qRow_at]; exact hEd)), (by first | exact hDa | (simp (decide := true) only [q2_ne, q2_r1, uI_at, uI_nj, qRow_ne, qRow_at]; exact hDa)), (by first | exact hPe | (simp (decide := true) only [q2_ne, q2_r1, uI_at, uI_nj, qRow_ne, qRow_at]; exact hPe)), (by first | exact hTr | (simp (decide := true) only [q2_ne, q2_r1, uI_at, uI_nj, qRow_ne, qRow_at]; exact hTr)), (RTx_of hTx (by simp (decide := true) only [q2_ne, q2_r1, uI_at, uI_nj, qRow_ne, qRow_at]) (by simp (decide := true) only [q2_ne, q2_r1, uI_at, uI_nj, qRow_ne, qRow_at]) (by simp (decide := true) only [q2_ne, q2_r1, uI_at, uI_nj, qRow_ne, qRow_at]) (by simp (decide := true) only [q2_ne, q2_r1, uI_at, uI_nj, qRow_ne, qRow_at]) (by simp (decide := true) only [q2_ne, q2_r1, uI_at, uI_nj, qRow_ne, qRow_at]) (fun k hk => by (try dsimp only); repeat first | rfl | rw [q2_ne (by omega)] | rw [qRow_ne (by omega)]) (fun k hk => by (try dsimp only); repeat first | rfl | rw [q2_ne (by omega)] | rw [qRow_ne (by omega)])), (by first | exact hMk | (simp (decide := true) only [q2_ne, q2_r1, uI_at, uI_nj, qRow_ne, qRow_at]; exact hMk)), (by first | exact hKA | (simp (decide := true) only [q2_ne, q2_r1, uI_at, uI_nj, qRow_ne, qRow_at]; exact hKA))⟩⟩) (fun h => absurd h (by rw [hDa.1, he]; decide))
  · refine ⟨_, rfl, ⟨by simp (decide := true) only [q2_ne, q2_r1, uI_at, uI_nj, qRow_ne, qRow_at], rfl, hst⟩, ?_⟩
    refine c_X12_loose (by first | exact hm2 | (simp (decide := true) only [q2_ne, q2_r1, uI_at, uI_nj, qRow_ne, qRow_at]; exact hm2)) (fun h => absurd he (by simp (decide := true) only [q2_ne, q2_r1, uI_at, uI_nj, qRow_ne, qRow_at] at h; rw [← hDa.1, h]; decide)) (fun h => ?_)
    exact ⟨(by simp (decide := true) only [q2_ne, q2_r1, uI_at, uI_nj, qRow_ne, qRow_at]; first | done | simp only [hDa.1]), ⟨by first | rfl | (simp (decide := true) only [q2_ne, q2_r1, uI_at, uI_nj, qRow_ne, qRow_at]), rfl⟩, ⟨hst, (by first | exact hSt | (simp (decide := true) only [q2_ne, q2_r1, uI_at, uI_nj, qRow_ne, qRow_at]; exact hSt)), (by first | exact hHa | (simp (decide := true) only [q2_ne, q2_r1, uI_at, uI_nj, qRow_ne, qRow_at]; exact hHa)), (by first | exact hTo | (simp (decide := true) only [q2_ne, q2_r1, uI_at, uI_nj, qRow_ne, qRow_at]; exact hTo)), (by first | exact hTp | (simp (decide := true) only [q2_ne, q2_r1, uI_at, uI_nj, qRow_ne, qRow_at]; exact hTp)), (by first | exact hEd | (simp (decide := true) only [q2_ne, q2_r1, uI_at, uI_nj, qRow_ne, qRow_at]; exact hEd)), (by simp (decide := true) only [q2_ne, q2_r1, uI_at, uI_nj, qRow_ne, qRow_at]; (try simp only [hDa.1]); exact RDa_loose hDa he), (by first | exact hPe | (simp (decide := true) only [q2_ne, q2_r1, uI_at, uI_nj, qRow_ne, qRow_at]; exact hPe)), (by first | exact hTr | (simp (decide := true) only [q2_ne, q2_r1, uI_at, uI_nj, qRow_ne, qRow_at]; exact hTr)), (RTx_of hTx (by simp (decide := true) only [q2_ne, q2_r1, uI_at, uI_nj, qRow_ne, qRow_at]) (by simp (decide := true) only [q2_ne, q2_r1, uI_at, uI_nj, qRow_ne, qRow_at]) (by simp (decide := true) only [q2_ne, q2_r1, uI_at, uI_nj, qRow_ne, qRow_at]) (by simp (decide := true) only [q2_ne, q2_r1, uI_at, uI_nj, qRow_ne, qRow_at]) (by simp (decide := true) only [q2_ne, q2_r1, uI_at, uI_nj, qRow_ne, qRow_at]) (fun k hk => by (try dsimp only); repeat first | rfl | rw [q2_ne (by omega)] | rw [qRow_ne (by omega)]) (fun k hk => by (try dsimp only); repeat first | rfl | rw [q2_ne (by omega)] | rw [qRow_ne (by omega)])), (by first | exact hMk | (simp (decide := true) only [q2_ne, q2_r1, uI_at, uI_nj, qRow_ne, qRow_at]; exact hMk)), (by first | exact hKA | (simp (decide := true) only [q2_ne, q2_r1, uI_at, uI_nj, qRow_ne, qRow_at]; exact hKA))⟩⟩
end
section
theorem upF_rel {σ τ : Type} {n : Int32} {g : Int32 → σ → σ} {g' : Int32 → τ → τ} (P : Int32 → σ → τ → Prop) (hg : ∀ k x y, 0 ≤ k → k < n → P k x y → P (k + 1) (g k x) (g' k y)) (k : Int32) : ∀ x y, 0 ≤ k → k ≤ n → P k x y → P n (upF n g k x) (upF n g' k y) := by
  refine up_ind n (P := fun k => ∀ x y, 0 ≤ k → k ≤ n → P k x y → P n (upF n g k x) (upF n g' k y)) (fun k ih x y h0 h1 h => ?_) k
  by_cases hk : k < n
  · rw [upF_on hk, upF_on hk]
    exact ih hk _ _ (by grind) (by grind) (hg k x y h0 hk h)
  · have : k = n := by grind
    subst this
    rw [upF_ge hk, upF_ge hk]
    exact h
theorem upF_inv {σ : Type} {n : Int32} {g : Int32 → σ → σ} (P : Int32 → σ → Prop) (hg : ∀ k x, 0 ≤ k → k < n → P k x → P (k + 1) (g k x)) (k : Int32) (x : σ) (h0 : 0 ≤ k) (h1 : k ≤ n) (h : P k x) : P n (upF n g k x) :=
  upF_rel (g' := g) (fun k x _ => P k x) (fun k x _ h0 h1 h => hg k x h0 h1 h) k x x h0 h1 h
theorem nI_mul (a b : Nat) : nI a * nI b = nI (a * b) := (Int32.ofNat_mul a b).symm
/-- where a reading lies -/
def tIx (a s l p : Int32) : Int32 := ((a * 12 + s) * 4 + l) * 24 + p
def tAt (t : Nat → Int32) (a s l p : Int32) : Int32 := if 0 ≤ tIx a s l p ∧ tIx a s l p < 6912 then t (tIx a s l p).toNatClampNeg else 0
theorem nI_ofL {x : Int32} {n : Nat} (hn : n ≤ 1000000000) (h0 : 0 ≤ x) (h1 : x < nI n) : ∃ j : Nat, j < n ∧ x = nI j := by
  obtain ⟨j, hj, rfl⟩ := nI_of (x := x) (by grind)
  exact ⟨j, (nI_ltI hj (by omega)).mp h1, rfl⟩
def inP (s l p : Int32) : Prop := (0 ≤ s ∧ s < 12) ∧ (0 ≤ l ∧ l < 4) ∧ 0 ≤ p ∧ p < 24
theorem ix_rng {a s l p : Int32} (ha : 0 ≤ a ∧ a < 6) (h : inP s l p) : 0 ≤ tIx a s l p ∧ tIx a s l p < 6912 := by
  obtain ⟨h1, h2, h3⟩ := h
  obtain ⟨a, ha, rfl⟩ := nI_ofL (n := 6) (by decide) ha.1 ha.2
  obtain ⟨s, hs, rfl⟩ := nI_ofL (n := 12) (by decide) h1.1 h1.2
  obtain ⟨l, hl, rfl⟩ := nI_ofL (n := 4) (by decide) h2.1 h2.2
  obtain ⟨p, hp, rfl⟩ := nI_ofL (n := 24) (by decide) h3.1 h3.2
  have e : tIx (nI a) (nI s) (nI l) (nI p) = nI (((a * 12 + s) * 4 + l) * 24 + p) := by
    unfold tIx
    rw [show (12 : Int32) = nI 12 from rfl, show (4 : Int32) = nI 4 from rfl, show (24 : Int32) = nI 24 from rfl, nI_mul, nI_add, nI_mul, nI_add, nI_mul, nI_add]
  rw [e]
  refine ⟨nI_pos' (by omega), ?_⟩
  show _ < nI 6912
  exact (nI_ltI (by omega) (by decide)).mpr (by omega)
theorem ix_lt {a s l p : Int32} (ha : 0 ≤ a ∧ a < 6) (h : inP s l p) : (tIx a s l p).toNatClampNeg < 6912 := by
  have h2 := ix_rng ha h
  rw [tcn]
  have h3 := Int32.lt_iff_toInt_lt.mp h2.2
  have h4 : (6912 : Int32).toInt = 6912 := rfl
  omega
theorem ix_at {t : Nat → Int32} {a s l p : Int32} (ha : 0 ≤ a ∧ a < 6) (h : inP s l p) : tAt t a s l p = t (tIx a s l p).toNatClampNeg := if_pos (ix_rng ha h)
/-! kinds and mays out of one number -/
def fKd (x : Int32) : Int32 := if x = 0 then 3 else (x >>> (27 &&& 31)) - 1
def fMy (x : Int32) : Int32 := if x = 0 then 134217727 else x &&& 134217727
theorem tN {x : Int32} (h : 0 ≤ x) : x.toInt = (x.toBitVec.toNat : Int) := by
  have h1 := i0 h
  have h2 : x.toInt = x.toBitVec.toInt := rfl
  rw [h2] at h1 ⊢
  rw [BitVec.toInt_eq_toNat_cond] at h1 ⊢
  split at h1
  · rename_i h3; rw [if_pos h3]
  · rename_i h3
    have := x.toBitVec.isLt
    omega
theorem and_lo {x : Int32} (h : 0 ≤ x) : (x &&& 134217727).toInt = x.toInt % 134217728 := by
  have h1 := tN h
  have h2 : (x &&& 134217727).toBitVec.toNat = x.toBitVec.toNat % 134217728 := by
    have : (x &&& 134217727).toBitVec = x.toBitVec &&& 134217727#32 := rfl
    rw [this, BitVec.toNat_and]
    exact Nat.and_two_pow_sub_one_eq_mod _ 27
  have h3 : x.toBitVec.toNat < 2147483648 := by
    have := Int32.toInt_lt x
    omega
  have h4 : (x &&& 134217727).toInt = ((x &&& 134217727).toBitVec.toNat : Int) := by
    have : (x &&& 134217727).toInt = (x &&& 134217727).toBitVec.toInt := rfl
    rw [this, BitVec.toInt_eq_toNat_cond, if_pos (by rw [h2]; omega)]
  rw [h4, h2, h1]
  omega
theorem shr27 {x : Int32} (h : 0 ≤ x) : (x >>> (27 &&& 31)).toInt = x.toInt / 134217728 := by
  have h2 : (x >>> (27 &&& 31)).toBitVec = x.toBitVec.sshiftRight 27 := by
    have : (x >>> (27 &&& 31)).toBitVec = x.toBitVec.sshiftRight' ((27 &&& 31 : Int32).toBitVec.smod 32) := rfl
    rw [this, show ((27 &&& 31 : Int32).toBitVec.smod 32) = 27#32 from by decide]
    rfl
  have h3 : (x >>> (27 &&& 31)).toInt = (x >>> (27 &&& 31)).toBitVec.toInt := rfl
  rw [h3, h2, BitVec.toInt_sshiftRight, Int.shiftRight_eq_div_pow]
  rfl
theorem rd1_un {t k y : Int32} (h : rd1 t k y) : (t = 0 ↔ k = 0) ∧ 0 ≤ k ∧ (¬ t = 0 → fKd t = k - 1 ∧ fMy t = y) := by
  rcases h with h | ⟨h1, h2, h3, h4, h5, _⟩
  · exact ⟨by simp [h.1, h.2], by rw [h.2]; decide, fun hn => absurd h.1 hn⟩
  · obtain ⟨k, hk, rfl⟩ := nI_ofL (x := k) (n := 7) (by decide) (by grind) (by show k < 7; grind)
    obtain ⟨y, hy, rfl⟩ := nI_ofL (x := y) (n := 134217728) (by decide) h3 (by show y < 134217728; grind)
    have hk1 : 1 ≤ k := by
      have := (nI_leI (a := 1) (by decide) (by omega)).mp h1
      exact this
    have e : t = nI (k * 134217728 + y) := by rw [h5, show (134217728 : Int32) = nI 134217728 from rfl, nI_mul, nI_add]
    have hb : k * 134217728 + y < 2 ^ 31 := by omega
    have hz : ¬ t = 0 := by rw [e, show (0 : Int32) = nI 0 from rfl, nI_eq hb (by decide)]; omega
    have hp : 0 ≤ t := by rw [e]; exact nI_pos' hb
    have hi : t.toInt = ((k * 134217728 + y : Nat) : Int) := by rw [e]; exact nI_toInt hb
    refine ⟨⟨fun h => absurd h hz, fun h => ?_⟩, nI_pos' (by omega), fun _ => ⟨?_, ?_⟩⟩
    · rw [show (0 : Int32) = nI 0 from rfl, nI_eq (by omega) (by decide)] at h; omega
    · unfold fKd
      rw [if_neg hz]
      have : t >>> (27 &&& 31) = nI k := by
        apply Int32.toInt_inj.mp
        rw [shr27 hp, hi, nI_toInt (by omega)]
        omega
      rw [this]
    · unfold fMy
      rw [if_neg hz]
      apply Int32.toInt_inj.mp
      rw [and_lo hp, hi, nI_toInt (by omega)]
      omega
/-! who leads -/
def gLd (t rk : Nat → Int32) (s l p k : Int32) (b : Int32 × Int32) : Int32 × Int32 := if b.2 < rk k.toNatClampNeg ∧ ¬ tAt t k s l p = 0 then (k, rk k.toNatClampNeg) else b
def fLd (t rk : Nat → Int32) (n s l p : Int32) : Int32 := (upF n (gLd t rk s l p) 0 (-1, -1)).1
def tLd (t rk : Nat → Int32) (n s l p : Int32) : Int32 := if fLd t rk n s l p = -1 then 0 else tAt t (fLd t rk n s l p) s l p
def gHo (kd rk : Nat → Int32) (s l p k b : Int32) : Int32 := if 0 < kd (tIx k s l p).toNatClampNeg ∧ (b < 0 ∨ rk b.toNatClampNeg < rk k.toNatClampNeg) then k else b
theorem ho_ld {n n' s l p : Int32} {rk rk' t kd y : Nat → Int32} (hH : RHa n n' rk rk') (hT : RTo t kd y) (h : inP s l p) : upF n' (gHo kd rk' s l p) 0 (-1) = fLd t rk n s l p := by
  obtain ⟨e, h0, h6, h1⟩ := hH
  subst e
  have hr := upF_rel (n := n') (g := gHo kd rk' s l p) (g' := gLd t rk s l p) (fun k b c => b = c.1 ∧ ((c.1 = -1 ∧ c.2 = -1) ∨ (0 ≤ c.1 ∧ c.1 < n' ∧ c.2 = rk c.1.toNatClampNeg))) (fun k b c hk0 hk hb => ?_) 0 (-1) (-1, -1) (by decide) h0 ⟨rfl, Or.inl ⟨rfl, rfl⟩⟩
  · exact hr.1
  · obtain ⟨rfl, hb⟩ := hb
    have ha : 0 ≤ k ∧ k < 6 := by grind
    obtain ⟨hx, hx0, _⟩ := rd1_un (hT _ (ix_lt ha h))
    unfold gHo gLd
    rw [ix_at ha h]
    have h2 := h1 k hk0 hk
    rw [h2.1]
    rcases hb with hb | hb
    · rw [hb.1, hb.2]
      by_cases hz : t (tIx k s l p).toNatClampNeg = 0
      · have : ¬ 0 < kd (tIx k s l p).toNatClampNeg := by grind
        simp only [hz, this, not_true, and_false, false_and, if_false]
        exact ⟨hb.1.symm, Or.inl hb⟩
      · have h5 : 0 < kd (tIx k s l p).toNatClampNeg := by grind
        have h6 : (-1 : Int32) < rk k.toNatClampNeg := by grind
        have h7 : (-1 : Int32) < 0 := by decide
        simp only [hz, h5, h6, h7, true_or, and_self, not_false_eq_true, if_true]
        exact ⟨trivial, Or.inr ⟨hk0, hk, trivial⟩⟩
    · have h3 := h1 c.1 hb.1 hb.2.1
      rw [h3.1, hb.2.2]
      have h7 : ¬ c.1 < 0 := by grind
      by_cases hz : 0 < kd (tIx k s l p).toNatClampNeg ∧ rk c.1.toNatClampNeg < rk k.toNatClampNeg
      · rw [if_pos ⟨hz.1, Or.inr hz.2⟩, if_pos ⟨hz.2, by grind⟩]
        exact ⟨rfl, Or.inr ⟨hk0, hk, rfl⟩⟩
      · rw [if_neg (by grind), if_neg (by grind)]
        exact ⟨rfl, Or.inr hb⟩
theorem ld_some {n s l p : Int32} {rk t : Nat → Int32} (h0 : 0 ≤ n) (hn : n ≤ 6) (hr : ∀ x : Int32, 0 ≤ x → x < n → 0 ≤ rk x.toNatClampNeg) : (fLd t rk n s l p = -1 ∧ ∀ x : Int32, 0 ≤ x → x < n → tAt t x s l p = 0) ∨ (0 ≤ fLd t rk n s l p ∧ fLd t rk n s l p < n ∧ ¬ tAt t (fLd t rk n s l p) s l p = 0) := by
  have h := upF_inv (n := n) (g := gLd t rk s l p) (fun k c => (c.1 = -1 ∧ c.2 = -1 ∧ ∀ x : Int32, 0 ≤ x → x < k → tAt t x s l p = 0) ∨ (0 ≤ c.1 ∧ c.1 < n ∧ ¬ tAt t c.1 s l p = 0)) (fun k c hk0 hk hc => ?_) 0 (-1, -1) (by decide) h0 (Or.inl ⟨rfl, rfl, fun x h1 h2 => by grind⟩)
  · rcases h with h | h
    · exact Or.inl ⟨h.1, h.2.2⟩
    · exact Or.inr h
  · unfold gLd
    split
    · rename_i h1; exact Or.inr ⟨hk0, hk, h1.2⟩
    · rename_i h1
      rcases hc with hc | hc
      · refine Or.inl ⟨hc.1, hc.2.1, fun x h2 h3 => ?_⟩
        by_cases e : x = k
        · subst e
          have := hr x hk0 hk
          rw [hc.2.1] at h1
          have h4 : (-1 : Int32) < rk x.toNatClampNeg := by grind
          by_cases h5 : tAt t x s l p = 0
          · exact h5
          · exact absurd ⟨h4, h5⟩ h1
        · exact hc.2.2 x h2 (by grind)
      · exact Or.inr hc
def gDs (t : Nat → Int32) (d s l p k b : Int32) : Int32 := if ¬ tAt t k s l p = 0 ∧ ¬ tAt t k s l p = d then b + 1 else b
def fDs (t : Nat → Int32) (n d s l p : Int32) : Int32 := upF n (gDs t d s l p) 0 0
def gDr (kd my : Nat → Int32) (c y s l p k b : Int32) : Int32 := if 0 < kd (tIx k s l p).toNatClampNeg ∧ (¬ kd (tIx k s l p).toNatClampNeg - 1 = c ∨ ¬ my (tIx k s l p).toNatClampNeg = y) then b + 1 else b
theorem rd1_inj {t k y t' k' y' : Int32} (h : rd1 t k y) (h' : rd1 t' k' y') (hz : ¬ t = 0) (hz' : ¬ t' = 0) : t = t' ↔ (k - 1 = k' - 1 ∧ y = y') := by
  constructor
  · intro e
    subst e
    obtain ⟨_, _, g⟩ := rd1_un h
    obtain ⟨_, _, g'⟩ := rd1_un h'
    exact ⟨(g hz).1.symm.trans (g' hz).1, (g hz).2.symm.trans (g' hz).2⟩
  · intro ⟨e1, e2⟩
    have e3 : k = k' := by grind
    subst e3 e2
    rcases h with h | h
    · exact absurd h.1 hz
    · rcases h' with h' | h'
      · exact absurd h'.1 hz'
      · rw [h.2.2.2.2.1, h'.2.2.2.2.1]
theorem ds_dr {n s l p : Int32} {rk t kd my : Nat → Int32} (h0 : 0 ≤ n) (hn : n ≤ 6) (hr : ∀ x : Int32, 0 ≤ x → x < n → 0 ≤ rk x.toNatClampNeg) (hT : RTo t kd my) (h : inP s l p) : upF n (gDr kd my (fKd (tLd t rk n s l p)) (fMy (tLd t rk n s l p)) s l p) 0 0 = fDs t n (tLd t rk n s l p) s l p := by
  refine (upF_rel (n := n) (g := gDr kd my (fKd (tLd t rk n s l p)) (fMy (tLd t rk n s l p)) s l p) (g' := gDs t (tLd t rk n s l p) s l p) (fun k b c => b = c) (fun k b c hk0 hk hb => ?_) 0 0 0 (by decide) h0 rfl)
  subst hb
  have ha : 0 ≤ k ∧ k < 6 := by grind
  have hx1 := hT _ (ix_lt ha h)
  obtain ⟨hx, hx0, _⟩ := rd1_un hx1
  unfold gDr gDs
  rcases ld_some (t := t) (s := s) (l := l) (p := p) h0 hn hr with h2 | h2
  · have h3 := h2.2 k hk0 hk
    have h4 : kd (tIx k s l p).toNatClampNeg = 0 := by rw [ix_at ha h] at h3; exact hx.mp h3
    rw [h3, h4, if_neg (fun h => absurd h.1 (by decide)), if_neg (by simp)]
  · have hb : 0 ≤ fLd t rk n s l p ∧ fLd t rk n s l p < 6 := by grind
    have e : tLd t rk n s l p = tAt t (fLd t rk n s l p) s l p := if_neg (by grind)
    have hy1 := hT _ (ix_lt hb h)
    rw [e, ix_at ha h, ix_at hb h]
    have h5 := h2.2.2
    rw [ix_at hb h] at h5
    obtain ⟨_, _, hu⟩ := rd1_un hy1
    rw [(hu h5).1, (hu h5).2]
    by_cases hz : t (tIx k s l p).toNatClampNeg = 0
    · have h4 := hx.mp hz
      rw [hz, h4, if_neg (fun h => absurd h.1 (by decide)), if_neg (by simp)]
    · have h6 : 0 < kd (tIx k s l p).toNatClampNeg := by grind
      have h7 := rd1_inj hx1 hy1 hz h5
      by_cases h8 : t (tIx k s l p).toNatClampNeg = t (tIx (fLd t rk n s l p) s l p).toNatClampNeg
      · have h9 := h7.mp h8
        rw [if_neg (by rw [h9.1, h9.2]; simp), if_neg (by rw [h8]; simp)]
      · have h10 : ¬ kd (tIx k s l p).toNatClampNeg - 1 = kd (tIx (fLd t rk n s l p) s l p).toNatClampNeg - 1 ∨ ¬ my (tIx k s l p).toNatClampNeg = my (tIx (fLd t rk n s l p) s l p).toNatClampNeg := by
          rcases Classical.em (kd (tIx k s l p).toNatClampNeg - 1 = kd (tIx (fLd t rk n s l p) s l p).toNatClampNeg - 1) with h9 | h9
          · exact Or.inr fun h10 => h8 (h7.mpr ⟨h9, h10⟩)
          · exact Or.inl h9
        rw [if_pos ⟨h6, h10⟩, if_pos ⟨hz, h8⟩]
end
section
theorem qJ_M {T : qT} {cs : qC} {Q : qP} {pc : Nat} {ls : List (Nat × Value)} {st : List Value} {uc us : Nat} {M M2 : qM} (h : M = M2) (hj : qJ T cs Q pc ls st uc us M2) : qJ T cs Q pc ls st uc us M := h ▸ hj
theorem q2_qRow3 {α : Type} {f : Nat → Nat → α} {a b c j : Nat} {g g' g'' : Nat → α} {v : α} (h : a ≠ b) (h' : a ≠ c) : q2 (qRow (qRow (qRow f a g) b g') c g'') a j v = qRow (qRow (qRow f a (uI g j v)) b g') c g'' := by
  funext e i
  by_cases hb : e = b
  · subst hb; by_cases hc : e = c <;> simp [q2, qRow, Ne.symm h, Ne.symm h', hc]
  · by_cases hc : e = c
    · subst hc; simp [q2, qRow, Ne.symm h']
    · by_cases ha : e = a <;> simp [q2, uI, qRow, ha, hb, hc, h, h']
theorem l_X5_leader {d z : Nat} {N : Nat → Nat} {I : Nat → Nat → Int32} {L : Nat → Nat → Int64} {R : Nat → Nat → Option Nat} {Q : qP} {s l p : Int32} (hn : 0 ≤ I 6 2 ∧ I 6 2 ≤ 6) : ∀ (k : Int32), ∀ b r : Int32, 0 ≤ k → Q (some (.int ((upF (I 6 2) (gLd (I 8) (I 7) s l p) k (b, r)).1))) (z, N, I, L, R) → qJ m_X5_leader (qWP (d + 2)) Q 9 [(6, .int k), (5, .int r), (4, .int b), (3, .int p), (2, .int l), (1, .int s), (0, .ref 6)] [] 0 0 (z, N, I, L, R) := by
  refine up_ind (I 6 2) fun k ih => ?_
  intro b r h0 hq
  refine qJ_run (qWP_mono _) [9] 400 ?_
  refine ⟨fun (c1 : (I 6 2) ≤ k) => ?_, fun (c1 : ¬ (I 6 2) ≤ k) => ?_⟩
  · change Q (some (.int b)) (z, N, I, L, R)
    first | (rw [upF_ge (by grind)] at hq; exact hq) | exact absurd hn (by clear ih hq; grind)
  · refine ⟨fun (c2 : 6 ≤ k) => ?_, fun (c2 : ¬ 6 ≤ k) => ?_⟩
    · change Q (some (.int b)) (z, N, I, L, R)
      first | (rw [upF_ge (by grind)] at hq; exact hq) | exact absurd hn (by clear ih hq; grind)
    · refine ⟨?_, ?_⟩
      · exact vb (x := k) (N := 6) 6 (by decide) (by clear ih hq; grind) (by clear ih hq; grind)
      refine ⟨fun (c3 : (I 7 ((k).toNatClampNeg)) ≤ r) => ?_, fun (c3 : ¬ (I 7 ((k).toNatClampNeg)) ≤ r) => ?_⟩
      · have hk : k < I 6 2 := by clear ih hq; grind
        refine ih hk _ _ (by clear ih hq; grind) ?_
        rw [upF_on hk] at hq
        have e : gLd (I 8) (I 7) s l p k (b, r) = (b, r) := by
          unfold gLd
          first | exact if_pos (by clear ih hq; grind) | exact if_neg (by clear ih hq; grind)
        rw [e] at hq
        exact hq
      · refine ⟨⟨Nat.le_refl _, Nat.le_refl _⟩, ?_⟩
        refine c_X5_at fun v1 hv1 => ?_
        replace hv1 : v1 = tAt (I 8) k s l p := hv1
        refine ⟨fun (c4 : v1 = 0) => ?_, fun (c4 : ¬ v1 = 0) => ?_⟩
        · have hk : k < I 6 2 := by clear ih hq; grind
          refine ih hk _ _ (by clear ih hq; grind) ?_
          rw [upF_on hk] at hq
          have e : gLd (I 8) (I 7) s l p k (b, r) = (b, r) := by
            unfold gLd
            first | exact if_pos (by clear ih hq; grind) | exact if_neg (by clear ih hq; grind)
          rw [e] at hq
          exact hq
        · refine ⟨?_, ?_⟩
          · exact vb (x := k) (N := 6) 6 (by decide) (by clear ih hq; grind) (by clear ih hq; grind)
          have hk : k < I 6 2 := by clear ih hq; grind
          refine ih hk _ _ (by clear ih hq; grind) ?_
          rw [upF_on hk] at hq
          have e : gLd (I 8) (I 7) s l p k (b, r) = (k, (I 7 ((k).toNatClampNeg))) := by
            unfold gLd
            first | exact if_pos (by clear ih hq; grind) | exact if_neg (by clear ih hq; grind)
          rw [e] at hq
          exact hq
theorem c_X5_leader {d z : Nat} {N : Nat → Nat} {I : Nat → Nat → Int32} {L : Nat → Nat → Int64} {R : Nat → Nat → Option Nat} {Q : qP} {s : Int32} {l : Int32} {p : Int32} (hn : 0 ≤ I 6 2 ∧ I 6 2 ≤ 6) (h : ∀ v : Int32, v = fLd (I 8) (I 7) (I 6 2) s l p → Q (some (.int v)) (z, N, I, L, R)) : qWP (d + 3) 73 [.ref 6, .int s, .int l, .int p] (z, N, I, L, R) Q := by
  refine qWP_of m_X5_leader rfl rfl [(0, .ref 6), (1, .int s), (2, .int l), (3, .int p)] rfl ?_
  refine qJ_run (qWP_mono _) [9] 400 ?_
  refine qJ_nm (qWP_mono _) [] [(6, .int 0), (5, .int (-1)), (4, .int (-1)), (3, .int p), (2, .int l), (1, .int s), (0, .ref 6)] rfl rfl rfl ?_
  exact l_X5_leader hn 0 (-1) (-1) (by decide) (h _ rfl)
theorem c_X5_leading {d z : Nat} {N : Nat → Nat} {I : Nat → Nat → Int32} {L : Nat → Nat → Int64} {R : Nat → Nat → Option Nat} {Q : qP} {s : Int32} {l : Int32} {p : Int32} (hn : 0 ≤ I 6 2 ∧ I 6 2 ≤ 6) (h : ∀ v : Int32, v = tLd (I 8) (I 7) (I 6 2) s l p → Q (some (.int v)) (z, N, I, L, R)) : qWP (d + 4) 74 [.ref 6, .int s, .int l, .int p] (z, N, I, L, R) Q := by
  refine qWP_of m_X5_leading rfl rfl [(0, .ref 6), (1, .int s), (2, .int l), (3, .int p)] rfl ?_
  refine qJ_run (qWP_mono _) [] 400 ?_
  refine ⟨⟨Nat.le_refl _, Nat.le_refl _⟩, ?_⟩
  refine c_X5_leader (d := d) hn fun v1 hv1 => ?_
  refine ⟨fun (c1 : ¬ v1 = (-1)) => ?_, fun (c1 : v1 = (-1)) => ?_⟩
  · refine ⟨⟨Nat.le_refl _, Nat.le_refl _⟩, ?_⟩
    refine c_X5_at fun v2 hv2 => ?_
    replace hv2 : v2 = tAt (I 8) v1 s l p := hv2
    change Q (some (.int v2)) (z, N, I, L, R)
    first | (refine h _ (if_pos (by grind)).symm) | (refine h _ ?_; subst hv1; exact hv2.trans (if_neg (by assumption)).symm)
  · change Q (some (.int 0)) (z, N, I, L, R)
    first | (refine h _ (if_pos (by grind)).symm) | (refine h _ ?_; subst hv1; exact hv2.trans (if_neg (by assumption)).symm)
theorem l_X5_dissenters {d z : Nat} {N : Nat → Nat} {I : Nat → Nat → Int32} {L : Nat → Nat → Int64} {R : Nat → Nat → Option Nat} {Q : qP} {s l p q : Int32} (hn : 0 ≤ I 6 2 ∧ I 6 2 ≤ 6) : ∀ (k : Int32), ∀ b : Int32, 0 ≤ k → Q (some (.int (upF (I 6 2) (gDs (I 8) q s l p) k b))) (z, N, I, L, R) → qJ m_X5_dissenters (qWP (d + 4)) Q 15 [(6, .int k), (5, .int b), (4, .int q), (3, .int p), (2, .int l), (1, .int s), (0, .ref 6)] [] 0 0 (z, N, I, L, R) := by
  refine up_ind (I 6 2) fun k ih => ?_
  intro b h0 hq
  refine qJ_run (qWP_mono _) [15] 400 ?_
  refine ⟨fun (c1 : (I 6 2) ≤ k) => ?_, fun (c1 : ¬ (I 6 2) ≤ k) => ?_⟩
  · change Q (some (.int b)) (z, N, I, L, R)
    rw [upF_ge (by grind)] at hq; exact hq
  · refine ⟨⟨Nat.le_refl _, Nat.le_refl _⟩, ?_⟩
    refine c_X5_at fun v1 hv1 => ?_
    replace hv1 : v1 = tAt (I 8) k s l p := hv1
    refine ⟨fun (c2 : v1 = 0) => ?_, fun (c2 : ¬ v1 = 0) => ?_⟩
    · refine qJ_nm (qWP_mono _) [(7, _)] [(6, .int (k + 1)), (5, .int b), (4, .int q), (3, .int p), (2, .int l), (1, .int s), (0, .ref 6)] rfl rfl rfl ?_
      have hk : k < I 6 2 := by clear ih hq; grind
      refine ih hk _ (by clear ih hq; grind) ?_
      rw [upF_on hk] at hq
      have e : gDs (I 8) q s l p k b = b := by
        unfold gDs
        first | exact if_pos (by clear ih hq; grind) | exact if_neg (by clear ih hq; grind)
      rw [e] at hq
      exact hq
    · refine ⟨fun (c3 : v1 = q) => ?_, fun (c3 : ¬ v1 = q) => ?_⟩
      · refine qJ_nm (qWP_mono _) [(7, _)] [(6, .int (k + 1)), (5, .int b), (4, .int q), (3, .int p), (2, .int l), (1, .int s), (0, .ref 6)] rfl rfl rfl ?_
        have hk : k < I 6 2 := by clear ih hq; grind
        refine ih hk _ (by clear ih hq; grind) ?_
        rw [upF_on hk] at hq
        have e : gDs (I 8) q s l p k b = b := by
          unfold gDs
          first | exact if_pos (by clear ih hq; grind) | exact if_neg (by clear ih hq; grind)
        rw [e] at hq
        exact hq
      · refine qJ_nm (qWP_mono _) [(7, _)] [(6, .int (k + 1)), (5, .int (b + 1)), (4, .int q), (3, .int p), (2, .int l), (1, .int s), (0, .ref 6)] rfl rfl rfl ?_
        have hk : k < I 6 2 := by clear ih hq; grind
        refine ih hk _ (by clear ih hq; grind) ?_
        rw [upF_on hk] at hq
        have e : gDs (I 8) q s l p k b = (b + 1) := by
          unfold gDs
          first | exact if_pos (by clear ih hq; grind) | exact if_neg (by clear ih hq; grind)
        rw [e] at hq
        exact hq
theorem c_X5_dissenters {d z : Nat} {N : Nat → Nat} {I : Nat → Nat → Int32} {L : Nat → Nat → Int64} {R : Nat → Nat → Option Nat} {Q : qP} {s : Int32} {l : Int32} {p : Int32} (hn : 0 ≤ I 6 2 ∧ I 6 2 ≤ 6) (h : ∀ v : Int32, v = fDs (I 8) (I 6 2) (tLd (I 8) (I 7) (I 6 2) s l p) s l p → Q (some (.int v)) (z, N, I, L, R)) : qWP (d + 5) 75 [.ref 6, .int s, .int l, .int p] (z, N, I, L, R) Q := by
  refine qWP_of m_X5_dissenters rfl rfl [(0, .ref 6), (1, .int s), (2, .int l), (3, .int p)] rfl ?_
  refine qJ_run (qWP_mono _) [15] 400 ?_
  refine ⟨⟨Nat.le_refl _, Nat.le_refl _⟩, ?_⟩
  refine c_X5_leading (d := d) hn fun v1 hv1 => ?_
  refine qJ_nm (qWP_mono _) [] [(6, .int 0), (5, .int 0), (4, .int v1), (3, .int p), (2, .int l), (1, .int s), (0, .ref 6)] rfl rfl rfl ?_
  subst hv1
  exact l_X5_dissenters hn 0 0 (by decide) (h _ rfl)
theorem c_X5_kindOf {d z : Nat} {N : Nat → Nat} {I : Nat → Nat → Int32} {L : Nat → Nat → Int64} {R : Nat → Nat → Option Nat} {Q : qP} {s : Int32}  (h : ∀ v : Int32, v = fKd s → Q (some (.int v)) (z, N, I, L, R)) : qWP (d + 1) 64 [.int s] (z, N, I, L, R) Q := by
  refine qWP_of m_X5_kindOf rfl rfl [(0, .int s)] rfl ?_
  refine qJ_run (qWP_mono _) [] 400 ?_
  refine ⟨fun (c1 : ¬ s = 0) => ?_, fun (c1 : s = 0) => ?_⟩
  · change Q (some (.int ((s >>> (27 &&& 31)) - 1))) (z, N, I, L, R)
    first | exact h _ (if_pos (by assumption)).symm | exact h _ (if_neg (by assumption)).symm
  · change Q (some (.int 3)) (z, N, I, L, R)
    first | exact h _ (if_pos (by assumption)).symm | exact h _ (if_neg (by assumption)).symm
theorem c_X5_mayOf {d z : Nat} {N : Nat → Nat} {I : Nat → Nat → Int32} {L : Nat → Nat → Int64} {R : Nat → Nat → Option Nat} {Q : qP} {s : Int32}  (h : ∀ v : Int32, v = fMy s → Q (some (.int v)) (z, N, I, L, R)) : qWP (d + 1) 65 [.int s] (z, N, I, L, R) Q := by
  refine qWP_of m_X5_mayOf rfl rfl [(0, .int s)] rfl ?_
  refine qJ_run (qWP_mono _) [] 400 ?_
  refine ⟨fun (c1 : ¬ s = 0) => ?_, fun (c1 : s = 0) => ?_⟩
  · change Q (some (.int (s &&& 134217727))) (z, N, I, L, R)
    first | exact h _ (if_pos (by assumption)).symm | exact h _ (if_neg (by assumption)).symm
  · change Q (some (.int 134217727)) (z, N, I, L, R)
    first | exact h _ (if_pos (by assumption)).symm | exact h _ (if_neg (by assumption)).symm
theorem l_X12_handOf {d z : Nat} {N : Nat → Nat} {I : Nat → Nat → Int32} {L : Nat → Nat → Int64} {R : Nat → Nat → Option Nat} {Q : qP} {s l p : Int32} (hn : 0 ≤ I 65 1 ∧ I 65 1 ≤ 6) (hp : inP s l p) : ∀ (k : Int32), ∀ b : Int32, 0 ≤ k → b < 6 → Q (some (.int (upF (I 65 1) (gHo (I 70) (I 68) s l p) k b))) (z, N, I, L, R) → qJ m_X12_handOf (qWP (d + 1)) Q 6 [(5, .int k), (4, .int b), (3, .int p), (2, .int l), (1, .int s), (0, .ref 65)] [] 0 0 (z, N, I, L, R) := by
  refine up_ind (I 65 1) fun k ih => ?_
  intro b h0 hb hq
  refine qJ_run (qWP_mono _) [6] 400 ?_
  refine ⟨fun (c1 : (I 65 1) ≤ k) => ?_, fun (c1 : ¬ (I 65 1) ≤ k) => ?_⟩
  · change Q (some (.int b)) (z, N, I, L, R)
    rw [upF_ge (by grind)] at hq; exact hq
  · refine ⟨⟨Nat.le_refl _, Nat.le_refl _⟩, ?_⟩
    refine c_X12_at fun v1 hv1 => ?_
    replace hv1 : v1 = tIx k s l p := hv1
    subst hv1
    refine ⟨?_, ?_⟩
    · exact vb (N := 6912) 6912 (by decide) (ix_rng (by clear ih hq; grind) hp).1 (ix_rng (by clear ih hq; grind) hp).2
    refine ⟨fun (c2 : (I 70 ((tIx k s l p).toNatClampNeg)) ≤ 0) => ?_, fun (c2 : ¬ (I 70 ((tIx k s l p).toNatClampNeg)) ≤ 0) => ?_⟩
    · have hk : k < I 65 1 := by clear ih hq; grind
      refine ih hk _ (by clear ih hq; grind) (by clear ih hq; grind) ?_
      rw [upF_on hk] at hq
      have e : gHo (I 70) (I 68) s l p k b = b := by
        unfold gHo
        first | exact if_pos (by clear ih hq; grind) | exact if_neg (by clear ih hq; grind)
      rw [e] at hq
      exact hq
    · refine ⟨fun (c3 : b < 0) => ?_, fun (c3 : ¬ b < 0) => ?_⟩
      · have hk : k < I 65 1 := by clear ih hq; grind
        refine ih hk _ (by clear ih hq; grind) (by clear ih hq; grind) ?_
        rw [upF_on hk] at hq
        have e : gHo (I 70) (I 68) s l p k b = k := by
          unfold gHo
          first | exact if_pos (by clear ih hq; grind) | exact if_neg (by clear ih hq; grind)
        rw [e] at hq
        exact hq
      · refine ⟨?_, ?_⟩
        · exact vb (x := k) (N := 6) 6 (by decide) (by clear ih hq; grind) (by clear ih hq; grind)
        refine ⟨?_, ?_⟩
        · exact vb (x := b) (N := 6) 6 (by decide) (by clear ih hq; grind) (by clear ih hq; grind)
        refine ⟨fun (c4 : (I 68 ((k).toNatClampNeg)) ≤ (I 68 ((b).toNatClampNeg))) => ?_, fun (c4 : ¬ (I 68 ((k).toNatClampNeg)) ≤ (I 68 ((b).toNatClampNeg))) => ?_⟩
        · have hk : k < I 65 1 := by clear ih hq; grind
          refine ih hk _ (by clear ih hq; grind) (by clear ih hq; grind) ?_
          rw [upF_on hk] at hq
          have e : gHo (I 70) (I 68) s l p k b = b := by
            unfold gHo
            first | exact if_pos (by clear ih hq; grind) | exact if_neg (by clear ih hq; grind)
          rw [e] at hq
          exact hq
        · have hk : k < I 65 1 := by clear ih hq; grind
          refine ih hk _ (by clear ih hq; grind) (by clear ih hq; grind) ?_
          rw [upF_on hk] at hq
          have e : gHo (I 70) (I 68) s l p k b = k := by
            unfold gHo
            first | exact if_pos (by clear ih hq; grind) | exact if_neg (by clear ih hq; grind)
          rw [e] at hq
          exact hq
theorem c_X12_handOf {d z : Nat} {N : Nat → Nat} {I : Nat → Nat → Int32} {L : Nat → Nat → Int64} {R : Nat → Nat → Option Nat} {Q : qP} {s : Int32} {l : Int32} {p : Int32} (hHa : RHa (I 6 2) (I 65 1) (I 7) (I 68)) (hTo : RTo (I 8) (I 70) (I 71)) (hp : inP s l p) (h : ∀ v : Int32, v = fLd (I 8) (I 7) (I 6 2) s l p → Q (some (.int v)) (z, N, I, L, R)) : qWP (d + 2) 177 [.ref 65, .int s, .int l, .int p] (z, N, I, L, R) Q := by
  have hn : 0 ≤ I 65 1 ∧ I 65 1 ≤ 6 := ⟨by rw [hHa.1]; exact hHa.2.1, by rw [hHa.1]; exact hHa.2.2.1⟩
  refine qWP_of m_X12_handOf rfl rfl [(0, .ref 65), (1, .int s), (2, .int l), (3, .int p)] rfl ?_
  refine qJ_run (qWP_mono _) [6] 400 ?_
  refine qJ_nm (qWP_mono _) [] [(5, .int 0), (4, .int (-1)), (3, .int p), (2, .int l), (1, .int s), (0, .ref 65)] rfl rfl rfl ?_
  exact l_X12_handOf hn hp 0 (-1) (by decide) (by decide) (h _ (ho_ld hHa hTo hp))
theorem c_X12_kindOf {d z : Nat} {N : Nat → Nat} {I : Nat → Nat → Int32} {L : Nat → Nat → Int64} {R : Nat → Nat → Option Nat} {Q : qP} {s : Int32} {l : Int32} {p : Int32} (hHa : RHa (I 6 2) (I 65 1) (I 7) (I 68)) (hTo : RTo (I 8) (I 70) (I 71)) (hp : inP s l p) (h : ∀ v : Int32, v = fKd (tLd (I 8) (I 7) (I 6 2) s l p) → Q (some (.int v)) (z, N, I, L, R)) : qWP (d + 3) 178 [.ref 65, .int s, .int l, .int p] (z, N, I, L, R) Q := by
  have hld := ld_some (t := I 8) (s := s) (l := l) (p := p) (rk := I 7) hHa.2.1 hHa.2.2.1 (fun x a b => (hHa.2.2.2 x a b).2.1)
  have h6 := hHa.2.2.1
  refine qWP_of m_X12_kindOf rfl rfl [(0, .ref 65), (1, .int s), (2, .int l), (3, .int p)] rfl ?_
  refine qJ_run (qWP_mono _) [] 400 ?_
  refine ⟨⟨Nat.le_refl _, Nat.le_refl _⟩, ?_⟩
  refine c_X12_handOf (d := d) hHa hTo hp fun v1 hv1 => ?_
  refine ⟨fun (c1 : 0 ≤ v1) => ?_, fun (c1 : ¬ 0 ≤ v1) => ?_⟩
  · refine ⟨⟨Nat.le_refl _, Nat.le_refl _⟩, ?_⟩
    refine c_X12_at fun v2 hv2 => ?_
    replace hv2 : v2 = tIx v1 s l p := hv2
    subst hv2
    refine ⟨?_, ?_⟩
    · exact vb (N := 6912) 6912 (by decide) (ix_rng (by clear h; grind) hp).1 (ix_rng (by clear h; grind) hp).2
    change Q (some (.int ((I 70 ((tIx v1 s l p).toNatClampNeg)) - 1))) (z, N, I, L, R)
    refine h _ ?_
    rcases hld with hl | hl
    · have e : tLd (I 8) (I 7) (I 6 2) s l p = 0 := if_pos hl.1
      rw [e]
      first | rfl | exact absurd hl.1 (by rw [← hv1]; clear h; grind)
    · have hr : 0 ≤ fLd (I 8) (I 7) (I 6 2) s l p ∧ fLd (I 8) (I 7) (I 6 2) s l p < 6 := by clear h; grind
      have e : tLd (I 8) (I 7) (I 6 2) s l p = tAt (I 8) (fLd (I 8) (I 7) (I 6 2) s l p) s l p := if_neg (by clear h; grind)
      first
      | exact absurd hr.1 (by rw [← hv1]; clear h; grind)
      | (rw [e, hv1, ix_at hr hp]
         have h3 := hl.2.2
         rw [ix_at hr hp] at h3
         exact (((rd1_un (hTo _ (ix_lt hr hp))).2.2 h3).1).symm)
  · change Q (some (.int 3)) (z, N, I, L, R)
    refine h _ ?_
    rcases hld with hl | hl
    · have e : tLd (I 8) (I 7) (I 6 2) s l p = 0 := if_pos hl.1
      rw [e]
      first | rfl | exact absurd hl.1 (by rw [← hv1]; clear h; grind)
    · have hr : 0 ≤ fLd (I 8) (I 7) (I 6 2) s l p ∧ fLd (I 8) (I 7) (I 6 2) s l p < 6 := by clear h; grind
      have e : tLd (I 8) (I 7) (I 6 2) s l p = tAt (I 8) (fLd (I 8) (I 7) (I 6 2) s l p) s l p := if_neg (by clear h; grind)
      first
      | exact absurd hr.1 (by rw [← hv1]; clear h; grind)
      | (rw [e, hv1, ix_at hr hp]
         have h3 := hl.2.2
         rw [ix_at hr hp] at h3
         exact (((rd1_un (hTo _ (ix_lt hr hp))).2.2 h3).1).symm)
theorem c_X12_mayOf {d z : Nat} {N : Nat → Nat} {I : Nat → Nat → Int32} {L : Nat → Nat → Int64} {R : Nat → Nat → Option Nat} {Q : qP} {s : Int32} {l : Int32} {p : Int32} (hHa : RHa (I 6 2) (I 65 1) (I 7) (I 68)) (hTo : RTo (I 8) (I 70) (I 71)) (hp : inP s l p) (h : ∀ v : Int32, v = fMy (tLd (I 8) (I 7) (I 6 2) s l p) → Q (some (.int v)) (z, N, I, L, R)) : qWP (d + 3) 179 [.ref 65, .int s, .int l, .int p] (z, N, I, L, R) Q := by
  have hld := ld_some (t := I 8) (s := s) (l := l) (p := p) (rk := I 7) hHa.2.1 hHa.2.2.1 (fun x a b => (hHa.2.2.2 x a b).2.1)
  have h6 := hHa.2.2.1
  refine qWP_of m_X12_mayOf rfl rfl [(0, .ref 65), (1, .int s), (2, .int l), (3, .int p)] rfl ?_
  refine qJ_run (qWP_mono _) [] 400 ?_
  refine ⟨⟨Nat.le_refl _, Nat.le_refl _⟩, ?_⟩
  refine c_X12_handOf (d := d) hHa hTo hp fun v1 hv1 => ?_
  refine ⟨fun (c1 : 0 ≤ v1) => ?_, fun (c1 : ¬ 0 ≤ v1) => ?_⟩
  · refine ⟨⟨Nat.le_refl _, Nat.le_refl _⟩, ?_⟩
    refine c_X12_at fun v2 hv2 => ?_
    replace hv2 : v2 = tIx v1 s l p := hv2
    subst hv2
    refine ⟨?_, ?_⟩
    · exact vb (N := 6912) 6912 (by decide) (ix_rng (by clear h; grind) hp).1 (ix_rng (by clear h; grind) hp).2
    change Q (some (.int (I 71 ((tIx v1 s l p).toNatClampNeg)))) (z, N, I, L, R)
    refine h _ ?_
    rcases hld with hl | hl
    · have e : tLd (I 8) (I 7) (I 6 2) s l p = 0 := if_pos hl.1
      rw [e]
      first | rfl | exact absurd hl.1 (by rw [← hv1]; clear h; grind)
    · have hr : 0 ≤ fLd (I 8) (I 7) (I 6 2) s l p ∧ fLd (I 8) (I 7) (I 6 2) s l p < 6 := by clear h; grind
      have e : tLd (I 8) (I 7) (I 6 2) s l p = tAt (I 8) (fLd (I 8) (I 7) (I 6 2) s l p) s l p := if_neg (by clear h; grind)
      first
      | exact absurd hr.1 (by rw [← hv1]; clear h; grind)
      | (rw [e, hv1, ix_at hr hp]
         have h3 := hl.2.2
         rw [ix_at hr hp] at h3
         exact (((rd1_un (hTo _ (ix_lt hr hp))).2.2 h3).2).symm)
  · change Q (some (.int 134217727)) (z, N, I, L, R)
    refine h _ ?_
    rcases hld with hl | hl
    · have e : tLd (I 8) (I 7) (I 6 2) s l p = 0 := if_pos hl.1
      rw [e]
      first | rfl | exact absurd hl.1 (by rw [← hv1]; clear h; grind)
    · have hr : 0 ≤ fLd (I 8) (I 7) (I 6 2) s l p ∧ fLd (I 8) (I 7) (I 6 2) s l p < 6 := by clear h; grind
      have e : tLd (I 8) (I 7) (I 6 2) s l p = tAt (I 8) (fLd (I 8) (I 7) (I 6 2) s l p) s l p := if_neg (by clear h; grind)
      first
      | exact absurd hr.1 (by rw [← hv1]; clear h; grind)
      | (rw [e, hv1, ix_at hr hp]
         have h3 := hl.2.2
         rw [ix_at hr hp] at h3
         exact (((rd1_un (hTo _ (ix_lt hr hp))).2.2 h3).2).symm)
end
section
theorem c_X11_sign {d z : Nat} {N : Nat → Nat} {I : Nat → Nat → Int32} {L : Nat → Nat → Int64} {R : Nat → Nat → Option Nat} {Q : qP} {s : Int32} {l : Int32} {p : Int32} {w : Int32} (hs : 0 ≤ I 3 2 ∧ I 3 2 ≤ 12) (hn : 0 ≤ I 6 2 ∧ I 6 2 ≤ 6) (hl : ∀ x : Int32, 0 ≤ x → x < I 3 2 → I 4 x.toNatClampNeg ≤ 4 ∧ I 5 x.toNatClampNeg ≤ 24) (h0 : ¬ (((0 ≤ s ∧ s < I 3 2) ∧ 0 ≤ l ∧ l < I 4 s.toNatClampNeg) ∧ 0 ≤ p ∧ p < I 5 s.toNatClampNeg) ∨ w < 0 ∨ 3 < w → Q (some (.int (-2))) (z, N, I, L, R)) (h1 : ((0 ≤ s ∧ s < I 3 2) ∧ 0 ≤ l ∧ l < I 4 s.toNatClampNeg) ∧ 0 ≤ p ∧ p < I 5 s.toNatClampNeg → w = 0 → Q (some (.int (fKd (tLd (I 8) (I 7) (I 6 2) s l p)))) (z, N, I, L, R)) (h2 : ((0 ≤ s ∧ s < I 3 2) ∧ 0 ≤ l ∧ l < I 4 s.toNatClampNeg) ∧ 0 ≤ p ∧ p < I 5 s.toNatClampNeg → w = 1 → Q (some (.int (fMy (tLd (I 8) (I 7) (I 6 2) s l p)))) (z, N, I, L, R)) (h3 : ((0 ≤ s ∧ s < I 3 2) ∧ 0 ≤ l ∧ l < I 4 s.toNatClampNeg) ∧ 0 ≤ p ∧ p < I 5 s.toNatClampNeg → w = 2 → Q (some (.int (fLd (I 8) (I 7) (I 6 2) s l p))) (z, N, I, L, R)) (h4 : ((0 ≤ s ∧ s < I 3 2) ∧ 0 ≤ l ∧ l < I 4 s.toNatClampNeg) ∧ 0 ≤ p ∧ p < I 5 s.toNatClampNeg → w = 3 → Q (some (.int (fDs (I 8) (I 6 2) (tLd (I 8) (I 7) (I 6 2) s l p) s l p))) (z, N, I, L, R)) : qWP (d + 6) 126 [.ref 2, .int s, .int l, .int p, .int w] (z, N, I, L, R) Q := by
  refine qWP_of m_X11_sign rfl rfl [(0, .ref 2), (1, .int s), (2, .int l), (3, .int p), (4, .int w)] rfl ?_
  refine qJ_run (qWP_mono _) [] 400 ?_
  refine ⟨⟨Nat.le_refl _, Nat.le_refl _⟩, ?_⟩
  refine c_X6_hasPlace hs fun v1 hv1 => ?_
  refine ⟨fun (c1 : ¬ v1 = 0) => ?_, fun (c1 : v1 = 0) => ?_⟩
  · refine ⟨fun c2 => ?_, fun c2 => ?_, fun c2 => ?_, fun c2 => ?_, fun c2 => ?_, trivial⟩
    · replace c2 : w < 0 ∨ 3 < w := by rw [fa_lt, fa_lt]; exact c2
      change Q (some (.int (-2))) (z, N, I, L, R)
      exact h0 (Or.inr (by clear h0 h1 h2 h3 h4; grind))
    · replace c2 : w = 0 := Int32.toInt_inj.mp c2
      refine ⟨⟨Nat.le_refl _, Nat.le_refl _⟩, ?_⟩
      refine c_X5_leading (d := d + 1) hn fun v2 hv2 => ?_
      refine ⟨⟨Nat.le_refl _, Nat.le_refl _⟩, ?_⟩
      refine c_X5_kindOf (d := d + 4) fun v3 hv3 => ?_
      change Q (some (.int v3)) (z, N, I, L, R)
      subst hv2
      rw [hv3]
      exact h1 (by clear h0 h1 h2 h3 h4; grind) (by assumption)
    · replace c2 : w = 1 := Int32.toInt_inj.mp c2
      refine ⟨⟨Nat.le_refl _, Nat.le_refl _⟩, ?_⟩
      refine c_X5_leading (d := d + 1) hn fun v4 hv4 => ?_
      refine ⟨⟨Nat.le_refl _, Nat.le_refl _⟩, ?_⟩
      refine c_X5_mayOf (d := d + 4) fun v5 hv5 => ?_
      change Q (some (.int v5)) (z, N, I, L, R)
      subst hv4
      rw [hv5]
      exact h2 (by clear h0 h1 h2 h3 h4; grind) (by assumption)
    · replace c2 : w = 2 := Int32.toInt_inj.mp c2
      refine ⟨⟨Nat.le_refl _, Nat.le_refl _⟩, ?_⟩
      refine c_X5_leader (d := d + 2) hn fun v6 hv6 => ?_
      change Q (some (.int v6)) (z, N, I, L, R)
      rw [hv6]
      exact h3 (by clear h0 h1 h2 h3 h4; grind) (by assumption)
    · replace c2 : w = 3 := Int32.toInt_inj.mp c2
      refine ⟨⟨Nat.le_refl _, Nat.le_refl _⟩, ?_⟩
      refine c_X5_dissenters (d := d) hn fun v7 hv7 => ?_
      change Q (some (.int v7)) (z, N, I, L, R)
      rw [hv7]
      exact h4 (by clear h0 h1 h2 h3 h4; grind) (by assumption)
  · change Q (some (.int (-2))) (z, N, I, L, R)
    exact h0 (Or.inl (by clear h0 h1 h2 h3 h4; grind))
theorem l_X12_sign {d z : Nat} {N : Nat → Nat} {I : Nat → Nat → Int32} {L : Nat → Nat → Int64} {R : Nat → Nat → Option Nat} {Q : qP} {s l p w c y : Int32} (hn : 0 ≤ I 65 1 ∧ I 65 1 ≤ 6) (hp : inP s l p) : ∀ (k : Int32), ∀ b : Int32, 0 ≤ k → Q (some (.int (upF (I 65 1) (gDr (I 70) (I 71) c y s l p) k b))) (z, N, I, L, R) → qJ m_X12_sign (qWP (d + 3)) Q 79 [(8, .int k), (7, .int b), (6, .int y), (5, .int c), (4, .int w), (3, .int p), (2, .int l), (1, .int s), (0, .ref 65)] [] 0 0 (z, N, I, L, R) := by
  refine up_ind (I 65 1) fun k ih => ?_
  intro b h0 hq
  refine qJ_run (qWP_mono _) [79] 400 ?_
  refine ⟨fun (c1 : (I 65 1) ≤ k) => ?_, fun (c1 : ¬ (I 65 1) ≤ k) => ?_⟩
  · change Q (some (.int b)) (z, N, I, L, R)
    rw [upF_ge (by grind)] at hq; exact hq
  · refine ⟨⟨Nat.le_refl _, Nat.le_refl _⟩, ?_⟩
    refine c_X12_at fun v1 hv1 => ?_
    replace hv1 : v1 = tIx k s l p := hv1
    subst hv1
    refine ⟨?_, ?_⟩
    · exact vb (N := 6912) 6912 (by decide) (ix_rng (by clear ih hq; grind) hp).1 (ix_rng (by clear ih hq; grind) hp).2
    refine ⟨fun (c2 : (I 70 ((tIx k s l p).toNatClampNeg)) ≤ 0) => ?_, fun (c2 : ¬ (I 70 ((tIx k s l p).toNatClampNeg)) ≤ 0) => ?_⟩
    · refine qJ_nm (qWP_mono _) [(9, _)] [(8, .int (k + 1)), (7, .int (b + 0)), (6, .int y), (5, .int c), (4, .int w), (3, .int p), (2, .int l), (1, .int s), (0, .ref 65)] rfl rfl rfl ?_
      have hk : k < I 65 1 := by clear ih hq; grind
      refine ih hk _ (by clear ih hq; grind) ?_
      rw [upF_on hk] at hq
      have e : gDr (I 70) (I 71) c y s l p k b = (b + 0) := by
        unfold gDr
        first | exact if_pos (by clear ih hq; grind) | exact (if_neg (by clear ih hq; grind)).trans (by clear ih hq; grind)
      rw [e] at hq
      exact hq
    · refine ⟨?_, ?_⟩
      · exact vb (N := 6912) 6912 (by decide) (ix_rng (by clear ih hq; grind) hp).1 (ix_rng (by clear ih hq; grind) hp).2
      refine ⟨fun (c3 : ¬ ((I 70 ((tIx k s l p).toNatClampNeg)) - 1) = c) => ?_, fun (c3 : ((I 70 ((tIx k s l p).toNatClampNeg)) - 1) = c) => ?_⟩
      · refine qJ_nm (qWP_mono _) [(9, _)] [(8, .int (k + 1)), (7, .int (b + 1)), (6, .int y), (5, .int c), (4, .int w), (3, .int p), (2, .int l), (1, .int s), (0, .ref 65)] rfl rfl rfl ?_
        have hk : k < I 65 1 := by clear ih hq; grind
        refine ih hk _ (by clear ih hq; grind) ?_
        rw [upF_on hk] at hq
        have e : gDr (I 70) (I 71) c y s l p k b = (b + 1) := by
          unfold gDr
          first | exact if_pos (by clear ih hq; grind) | exact (if_neg (by clear ih hq; grind)).trans (by clear ih hq; grind)
        rw [e] at hq
        exact hq
      · refine ⟨?_, ?_⟩
        · exact vb (N := 6912) 6912 (by decide) (ix_rng (by clear ih hq; grind) hp).1 (ix_rng (by clear ih hq; grind) hp).2
        refine ⟨fun (c4 : (I 71 ((tIx k s l p).toNatClampNeg)) = y) => ?_, fun (c4 : ¬ (I 71 ((tIx k s l p).toNatClampNeg)) = y) => ?_⟩
        · refine qJ_nm (qWP_mono _) [(9, _)] [(8, .int (k + 1)), (7, .int (b + 0)), (6, .int y), (5, .int c), (4, .int w), (3, .int p), (2, .int l), (1, .int s), (0, .ref 65)] rfl rfl rfl ?_
          have hk : k < I 65 1 := by clear ih hq; grind
          refine ih hk _ (by clear ih hq; grind) ?_
          rw [upF_on hk] at hq
          have e : gDr (I 70) (I 71) c y s l p k b = (b + 0) := by
            unfold gDr
            first | exact if_pos (by clear ih hq; grind) | exact (if_neg (by clear ih hq; grind)).trans (by clear ih hq; grind)
          rw [e] at hq
          exact hq
        · refine qJ_nm (qWP_mono _) [(9, _)] [(8, .int (k + 1)), (7, .int (b + 1)), (6, .int y), (5, .int c), (4, .int w), (3, .int p), (2, .int l), (1, .int s), (0, .ref 65)] rfl rfl rfl ?_
          have hk : k < I 65 1 := by clear ih hq; grind
          refine ih hk _ (by clear ih hq; grind) ?_
          rw [upF_on hk] at hq
          have e : gDr (I 70) (I 71) c y s l p k b = (b + 1) := by
            unfold gDr
            first | exact if_pos (by clear ih hq; grind) | exact (if_neg (by clear ih hq; grind)).trans (by clear ih hq; grind)
          rw [e] at hq
          exact hq
theorem c_X12_sign {d z : Nat} {N : Nat → Nat} {I : Nat → Nat → Int32} {L : Nat → Nat → Int64} {R : Nat → Nat → Option Nat} {Q : qP} {s : Int32} {l : Int32} {p : Int32} {w : Int32} (hs : 0 ≤ I 65 0 ∧ I 65 0 ≤ 12) (hHa : RHa (I 6 2) (I 65 1) (I 7) (I 68)) (hTo : RTo (I 8) (I 70) (I 71)) (hl : ∀ x : Int32, 0 ≤ x → x < I 65 0 → I 66 x.toNatClampNeg ≤ 4 ∧ I 67 x.toNatClampNeg ≤ 24) (h0 : ¬ (((0 ≤ s ∧ s < I 65 0) ∧ 0 ≤ l ∧ l < I 66 s.toNatClampNeg) ∧ 0 ≤ p ∧ p < I 67 s.toNatClampNeg) ∨ w < 0 ∨ 3 < w → Q (some (.int (-2))) (z, N, I, L, R)) (h1 : ((0 ≤ s ∧ s < I 65 0) ∧ 0 ≤ l ∧ l < I 66 s.toNatClampNeg) ∧ 0 ≤ p ∧ p < I 67 s.toNatClampNeg → w = 0 → Q (some (.int (fKd (tLd (I 8) (I 7) (I 6 2) s l p)))) (z, N, I, L, R)) (h2 : ((0 ≤ s ∧ s < I 65 0) ∧ 0 ≤ l ∧ l < I 66 s.toNatClampNeg) ∧ 0 ≤ p ∧ p < I 67 s.toNatClampNeg → w = 1 → Q (some (.int (fMy (tLd (I 8) (I 7) (I 6 2) s l p)))) (z, N, I, L, R)) (h3 : ((0 ≤ s ∧ s < I 65 0) ∧ 0 ≤ l ∧ l < I 66 s.toNatClampNeg) ∧ 0 ≤ p ∧ p < I 67 s.toNatClampNeg → w = 2 → Q (some (.int (fLd (I 8) (I 7) (I 6 2) s l p))) (z, N, I, L, R)) (h4 : ((0 ≤ s ∧ s < I 65 0) ∧ 0 ≤ l ∧ l < I 66 s.toNatClampNeg) ∧ 0 ≤ p ∧ p < I 67 s.toNatClampNeg → w = 3 → Q (some (.int (fDs (I 8) (I 6 2) (tLd (I 8) (I 7) (I 6 2) s l p) s l p))) (z, N, I, L, R)) : qWP (d + 5) 180 [.ref 65, .int s, .int l, .int p, .int w] (z, N, I, L, R) Q := by
  refine qWP_of m_X12_sign rfl rfl [(0, .ref 65), (1, .int s), (2, .int l), (3, .int p), (4, .int w)] rfl ?_
  refine qJ_run (qWP_mono _) [79] 400 ?_
  refine ⟨⟨Nat.le_refl _, Nat.le_refl _⟩, ?_⟩
  refine c_X12_isPlace hs fun v1 hv1 => ?_
  refine ⟨fun (c1 : v1 = 0) => ?_, fun (c1 : ¬ v1 = 0) => ?_⟩
  · change Q (some (.int (-2))) (z, N, I, L, R)
    exact h0 (by clear h0 h1 h2 h3 h4; grind)
  · refine ⟨⟨Nat.le_refl _, Nat.le_refl _⟩, ?_⟩
    refine c_X12_isIn fun v2 hv2 => ?_
    refine ⟨fun (c2 : ¬ v2 = 0) => ?_, fun (c2 : v2 = 0) => ?_⟩
    · refine ⟨⟨Nat.le_refl _, Nat.le_refl _⟩, ?_⟩
      have hpl : ((0 ≤ s ∧ s < I 65 0) ∧ 0 ≤ l ∧ l < I 66 s.toNatClampNeg) ∧ 0 ≤ p ∧ p < I 67 s.toNatClampNeg := by clear h0 h1 h2 h3 h4; grind
      have hp : inP s l p := by have := hl s hpl.1.1.1 hpl.1.1.2; unfold inP; clear h0 h1 h2 h3 h4; grind
      refine c_X12_kindOf (d := d + 1) hHa hTo hp fun v3 hv3 => ?_
      refine ⟨⟨Nat.le_refl _, Nat.le_refl _⟩, ?_⟩
      refine c_X12_mayOf (d := d + 1) hHa hTo hp fun v4 hv4 => ?_
      refine ⟨fun (c3 : 2 ≤ w) => ?_, fun (c3 : ¬ 2 ≤ w) => ?_⟩
      · refine ⟨fun (c4 : ¬ w = 2) => ?_, fun (c4 : w = 2) => ?_⟩
        · refine qJ_nm (qWP_mono _) [] [(8, .int 0), (7, .int 0), (6, .int v4), (5, .int v3), (4, .int w), (3, .int p), (2, .int l), (1, .int s), (0, .ref 65)] rfl rfl rfl ?_
          have hn : 0 ≤ I 65 1 ∧ I 65 1 ≤ 6 := ⟨by rw [hHa.1]; exact hHa.2.1, by rw [hHa.1]; exact hHa.2.2.1⟩
          subst hv3 hv4
          refine l_X12_sign (d := d + 1) hn hp 0 0 (by decide) ?_
          have hd := ds_dr (n := I 6 2) (t := I 8) (rk := I 7) (kd := I 70) (my := I 71) hHa.2.1 hHa.2.2.1 (fun x a b => (hHa.2.2.2 x a b).2.1) hTo hp
          rw [hHa.1, hd]
          exact h4 hpl (by clear h0 h1 h2 h3 h4; grind)
        · refine ⟨⟨Nat.le_refl _, Nat.le_refl _⟩, ?_⟩
          refine c_X12_handOf (d := d + 2) hHa hTo hp fun v5 hv5 => ?_
          change Q (some (.int v5)) (z, N, I, L, R)
          subst hv5
          exact h3 (by clear h0 h1 h2 h3 h4; grind) (by clear h0 h1 h2 h3 h4; grind)
      · refine ⟨fun (c5 : ¬ w = 0) => ?_, fun (c5 : w = 0) => ?_⟩
        · change Q (some (.int v4)) (z, N, I, L, R)
          rw [hv4]
          exact h2 (by clear h0 h1 h2 h3 h4; grind) (by clear h0 h1 h2 h3 h4; grind)
        · change Q (some (.int v3)) (z, N, I, L, R)
          rw [hv3]
          exact h1 (by clear h0 h1 h2 h3 h4; grind) (by clear h0 h1 h2 h3 h4; grind)
    · change Q (some (.int (-2))) (z, N, I, L, R)
      exact h0 (by clear h0 h1 h2 h3 h4; grind)
theorem line_eq {n n' : Int32} {l p l' p' : Nat → Int32} (h : RSt n n' l p l' p') {s k : Int32} : ((0 ≤ s ∧ s < n') ∧ 0 ≤ k ∧ k < l' s.toNatClampNeg) ↔ ((0 ≤ s ∧ s < n) ∧ 0 ≤ k ∧ k < l s.toNatClampNeg) := by
  obtain ⟨e, _, _, h1⟩ := h
  rw [e]
  constructor
  · rintro ⟨a, b⟩; rw [(h1 s a.1 a.2).1] at b; exact ⟨a, b⟩
  · rintro ⟨a, b⟩; rw [← (h1 s a.1 a.2).1] at b; exact ⟨a, b⟩
theorem place_eq {n n' : Int32} {l p l' p' : Nat → Int32} (h : RSt n n' l p l' p') {s k q : Int32} : (((0 ≤ s ∧ s < n') ∧ 0 ≤ k ∧ k < l' s.toNatClampNeg) ∧ 0 ≤ q ∧ q < p' s.toNatClampNeg) ↔ (((0 ≤ s ∧ s < n) ∧ 0 ≤ k ∧ k < l s.toNatClampNeg) ∧ 0 ≤ q ∧ q < p s.toNatClampNeg) := by
  rw [line_eq h]
  obtain ⟨e, _, _, h1⟩ := h
  constructor
  · rintro ⟨a, b⟩; rw [(h1 s a.1.1 a.1.2).2.2.2.1] at b; exact ⟨a, b⟩
  · rintro ⟨a, b⟩; rw [← (h1 s a.1.1 a.1.2).2.2.2.1] at b; exact ⟨a, b⟩
theorem op_sign {M : qM} (hI : qInv M) (s : Int32) (l : Int32) (p : Int32) (w : Int32) : qOp 126 180 [.int s, .int l, .int p, .int w] M := by
  obtain ⟨z, N, I, L, R⟩ := M
  obtain ⟨hst, hSt, hHa, hTo, hTp, hEd, hDa, hPe, hTr, hTx, hMk, hKA⟩ := hI
  dsimp only at hst hSt hHa hTo hTp hEd hDa hPe hTr hTx hMk hKA
  have hs : 0 ≤ I 3 2 ∧ I 3 2 ≤ 12 := ⟨hSt.2.1, hSt.2.2.1⟩
  have hn : 0 ≤ I 6 2 ∧ I 6 2 ≤ 6 := ⟨hHa.2.1, hHa.2.2.1⟩
  have hl : ∀ x : Int32, 0 ≤ x → x < I 3 2 → I 4 x.toNatClampNeg ≤ 4 ∧ I 5 x.toNatClampNeg ≤ 24 := fun x a b => ⟨(hSt.2.2.2 x a b).2.2.1, (hSt.2.2.2 x a b).2.2.2.2.2⟩
  have hs2 : 0 ≤ I 65 0 ∧ I 65 0 ≤ 12 := by rw [hSt.1]; exact hs
  have hl2 : ∀ x : Int32, 0 ≤ x → x < I 65 0 → I 66 x.toNatClampNeg ≤ 4 ∧ I 67 x.toNatClampNeg ≤ 24 := fun x a b => by
    rw [hSt.1] at b
    rw [(hSt.2.2.2 x a b).1, (hSt.2.2.2 x a b).2.2.2.1]
    exact hl x a b
  have eP := fun s k q => place_eq hSt (s := s) (k := k) (q := q)
  have eL := fun s k => line_eq hSt (s := s) (k := k)
  refine c_X11_sign hs hn hl (fun a0 => ?_) (fun a0 a1 => ?_) (fun a0 a1 => ?_) (fun a0 a1 => ?_) (fun a0 a1 => ?_)
  · refine ⟨_, rfl, ⟨rfl, rfl, hst⟩, ?_⟩
    refine c_X12_sign hs2 hHa hTo hl2 (fun b0 => ?_) (fun b0 b1 => ?_) (fun b0 b1 => ?_) (fun b0 b1 => ?_) (fun b0 b1 => ?_)
    · exact ⟨rfl, ⟨by first | rfl | (simp (decide := true) only [q2_ne, q2_r1, uI_at, uI_nj, qRow_ne, qRow_at]), rfl⟩, ⟨hst, (by first | exact hSt | (simp (decide := true) only [q2_ne, q2_r1, uI_at, uI_nj, qRow_ne, qRow_at]; exact hSt)), (by first | exact hHa | (simp (decide := true) only [q2_ne, q2_r1, uI_at, uI_nj, qRow_ne, qRow_at]; exact hHa)), (by first | exact hTo | (simp (decide := true) only [q2_ne, q2_r1, uI_at, uI_nj, qRow_ne, qRow_at]; exact hTo)), (by first | exact hTp | (simp (decide := true) only [q2_ne, q2_r1, uI_at, uI_nj, qRow_ne, qRow_at]; exact hTp)), (by first | exact hEd | (simp (decide := true) only [q2_ne, q2_r1, uI_at, uI_nj, qRow_ne, qRow_at]; exact hEd)), (by first | exact hDa | (simp (decide := true) only [q2_ne, q2_r1, uI_at, uI_nj, qRow_ne, qRow_at]; exact hDa)), (by first | exact hPe | (simp (decide := true) only [q2_ne, q2_r1, uI_at, uI_nj, qRow_ne, qRow_at]; exact hPe)), (by first | exact hTr | (simp (decide := true) only [q2_ne, q2_r1, uI_at, uI_nj, qRow_ne, qRow_at]; exact hTr)), (RTx_of hTx (by simp (decide := true) only [q2_ne, q2_r1, uI_at, uI_nj, qRow_ne, qRow_at]) (by simp (decide := true) only [q2_ne, q2_r1, uI_at, uI_nj, qRow_ne, qRow_at]) (by simp (decide := true) only [q2_ne, q2_r1, uI_at, uI_nj, qRow_ne, qRow_at]) (by simp (decide := true) only [q2_ne, q2_r1, uI_at, uI_nj, qRow_ne, qRow_at]) (by simp (decide := true) only [q2_ne, q2_r1, uI_at, uI_nj, qRow_ne, qRow_at]) (fun k hk => by (try dsimp only); repeat first | rfl | rw [q2_ne (by omega)] | rw [qRow_ne (by omega)]) (fun k hk => by (try dsimp only); repeat first | rfl | rw [q2_ne (by omega)] | rw [qRow_ne (by omega)])), (by first | exact hMk | (simp (decide := true) only [q2_ne, q2_r1, uI_at, uI_nj, qRow_ne, qRow_at]; exact hMk)), (by first | exact hKA | (simp (decide := true) only [q2_ne, q2_r1, uI_at, uI_nj, qRow_ne, qRow_at]; exact hKA))⟩⟩
    · exfalso; (try simp only [eP] at *); (try simp only [eL] at *); (try rw [hSt.1] at *); clear hst hSt hHa hTo hTp hEd hDa hPe hTr hTx hMk hKA eP eL hl hl2; grind
    · exfalso; (try simp only [eP] at *); (try simp only [eL] at *); (try rw [hSt.1] at *); clear hst hSt hHa hTo hTp hEd hDa hPe hTr hTx hMk hKA eP eL hl hl2; grind
    · exfalso; (try simp only [eP] at *); (try simp only [eL] at *); (try rw [hSt.1] at *); clear hst hSt hHa hTo hTp hEd hDa hPe hTr hTx hMk hKA eP eL hl hl2; grind
    · exfalso; (try simp only [eP] at *); (try simp only [eL] at *); (try rw [hSt.1] at *); clear hst hSt hHa hTo hTp hEd hDa hPe hTr hTx hMk hKA eP eL hl hl2; grind
  · refine ⟨_, rfl, ⟨rfl, rfl, hst⟩, ?_⟩
    refine c_X12_sign hs2 hHa hTo hl2 (fun b0 => ?_) (fun b0 b1 => ?_) (fun b0 b1 => ?_) (fun b0 b1 => ?_) (fun b0 b1 => ?_)
    · exfalso; (try simp only [eP] at *); (try simp only [eL] at *); (try rw [hSt.1] at *); clear hst hSt hHa hTo hTp hEd hDa hPe hTr hTx hMk hKA eP eL hl hl2; grind
    · exact ⟨rfl, ⟨by first | rfl | (simp (decide := true) only [q2_ne, q2_r1, uI_at, uI_nj, qRow_ne, qRow_at]), rfl⟩, ⟨hst, (by first | exact hSt | (simp (decide := true) only [q2_ne, q2_r1, uI_at, uI_nj, qRow_ne, qRow_at]; exact hSt)), (by first | exact hHa | (simp (decide := true) only [q2_ne, q2_r1, uI_at, uI_nj, qRow_ne, qRow_at]; exact hHa)), (by first | exact hTo | (simp (decide := true) only [q2_ne, q2_r1, uI_at, uI_nj, qRow_ne, qRow_at]; exact hTo)), (by first | exact hTp | (simp (decide := true) only [q2_ne, q2_r1, uI_at, uI_nj, qRow_ne, qRow_at]; exact hTp)), (by first | exact hEd | (simp (decide := true) only [q2_ne, q2_r1, uI_at, uI_nj, qRow_ne, qRow_at]; exact hEd)), (by first | exact hDa | (simp (decide := true) only [q2_ne, q2_r1, uI_at, uI_nj, qRow_ne, qRow_at]; exact hDa)), (by first | exact hPe | (simp (decide := true) only [q2_ne, q2_r1, uI_at, uI_nj, qRow_ne, qRow_at]; exact hPe)), (by first | exact hTr | (simp (decide := true) only [q2_ne, q2_r1, uI_at, uI_nj, qRow_ne, qRow_at]; exact hTr)), (RTx_of hTx (by simp (decide := true) only [q2_ne, q2_r1, uI_at, uI_nj, qRow_ne, qRow_at]) (by simp (decide := true) only [q2_ne, q2_r1, uI_at, uI_nj, qRow_ne, qRow_at]) (by simp (decide := true) only [q2_ne, q2_r1, uI_at, uI_nj, qRow_ne, qRow_at]) (by simp (decide := true) only [q2_ne, q2_r1, uI_at, uI_nj, qRow_ne, qRow_at]) (by simp (decide := true) only [q2_ne, q2_r1, uI_at, uI_nj, qRow_ne, qRow_at]) (fun k hk => by (try dsimp only); repeat first | rfl | rw [q2_ne (by omega)] | rw [qRow_ne (by omega)]) (fun k hk => by (try dsimp only); repeat first | rfl | rw [q2_ne (by omega)] | rw [qRow_ne (by omega)])), (by first | exact hMk | (simp (decide := true) only [q2_ne, q2_r1, uI_at, uI_nj, qRow_ne, qRow_at]; exact hMk)), (by first | exact hKA | (simp (decide := true) only [q2_ne, q2_r1, uI_at, uI_nj, qRow_ne, qRow_at]; exact hKA))⟩⟩
    · exfalso; (try simp only [eP] at *); (try simp only [eL] at *); (try rw [hSt.1] at *); clear hst hSt hHa hTo hTp hEd hDa hPe hTr hTx hMk hKA eP eL hl hl2; grind
    · exfalso; (try simp only [eP] at *); (try simp only [eL] at *); (try rw [hSt.1] at *); clear hst hSt hHa hTo hTp hEd hDa hPe hTr hTx hMk hKA eP eL hl hl2; grind
    · exfalso; (try simp only [eP] at *); (try simp only [eL] at *); (try rw [hSt.1] at *); clear hst hSt hHa hTo hTp hEd hDa hPe hTr hTx hMk hKA eP eL hl hl2; grind
  · refine ⟨_, rfl, ⟨rfl, rfl, hst⟩, ?_⟩
    refine c_X12_sign hs2 hHa hTo hl2 (fun b0 => ?_) (fun b0 b1 => ?_) (fun b0 b1 => ?_) (fun b0 b1 => ?_) (fun b0 b1 => ?_)
    · exfalso; (try simp only [eP] at *); (try simp only [eL] at *); (try rw [hSt.1] at *); clear hst hSt hHa hTo hTp hEd hDa hPe hTr hTx hMk hKA eP eL hl hl2; grind
    · exfalso; (try simp only [eP] at *); (try simp only [eL] at *); (try rw [hSt.1] at *); clear hst hSt hHa hTo hTp hEd hDa hPe hTr hTx hMk hKA eP eL hl hl2; grind
    · exact ⟨rfl, ⟨by first | rfl | (simp (decide := true) only [q2_ne, q2_r1, uI_at, uI_nj, qRow_ne, qRow_at]), rfl⟩, ⟨hst, (by first | exact hSt | (simp (decide := true) only [q2_ne, q2_r1, uI_at, uI_nj, qRow_ne, qRow_at]; exact hSt)), (by first | exact hHa | (simp (decide := true) only [q2_ne, q2_r1, uI_at, uI_nj, qRow_ne, qRow_at]; exact hHa)), (by first | exact hTo | (simp (decide := true) only [q2_ne, q2_r1, uI_at, uI_nj, qRow_ne, qRow_at]; exact hTo)), (by first | exact hTp | (simp (decide := true) only [q2_ne, q2_r1, uI_at, uI_nj, qRow_ne, qRow_at]; exact hTp)), (by first | exact hEd | (simp (decide := true) only [q2_ne, q2_r1, uI_at, uI_nj, qRow_ne, qRow_at]; exact hEd)), (by first | exact hDa | (simp (decide := true) only [q2_ne, q2_r1, uI_at, uI_nj, qRow_ne, qRow_at]; exact hDa)), (by first | exact hPe | (simp (decide := true) only [q2_ne, q2_r1, uI_at, uI_nj, qRow_ne, qRow_at]; exact hPe)), (by first | exact hTr | (simp (decide := true) only [q2_ne, q2_r1, uI_at, uI_nj, qRow_ne, qRow_at]; exact hTr)), (RTx_of hTx (by simp (decide := true) only [q2_ne, q2_r1, uI_at, uI_nj, qRow_ne, qRow_at]) (by simp (decide := true) only [q2_ne, q2_r1, uI_at, uI_nj, qRow_ne, qRow_at]) (by simp (decide := true) only [q2_ne, q2_r1, uI_at, uI_nj, qRow_ne, qRow_at]) (by simp (decide := true) only [q2_ne, q2_r1, uI_at, uI_nj, qRow_ne, qRow_at]) (by simp (decide := true) only [q2_ne, q2_r1, uI_at, uI_nj, qRow_ne, qRow_at]) (fun k hk => by (try dsimp only); repeat first | rfl | rw [q2_ne (by omega)] | rw [qRow_ne (by omega)]) (fun k hk => by (try dsimp only); repeat first | rfl | rw [q2_ne (by omega)] | rw [qRow_ne (by omega)])), (by first | exact hMk | (simp (decide := true) only [q2_ne, q2_r1, uI_at, uI_nj, qRow_ne, qRow_at]; exact hMk)), (by first | exact hKA | (simp (decide := true) only [q2_ne, q2_r1, uI_at, uI_nj, qRow_ne, qRow_at]; exact hKA))⟩⟩
    · exfalso; (try simp only [eP] at *); (try simp only [eL] at *); (try rw [hSt.1] at *); clear hst hSt hHa hTo hTp hEd hDa hPe hTr hTx hMk hKA eP eL hl hl2; grind
    · exfalso; (try simp only [eP] at *); (try simp only [eL] at *); (try rw [hSt.1] at *); clear hst hSt hHa hTo hTp hEd hDa hPe hTr hTx hMk hKA eP eL hl hl2; grind
  · refine ⟨_, rfl, ⟨rfl, rfl, hst⟩, ?_⟩
    refine c_X12_sign hs2 hHa hTo hl2 (fun b0 => ?_) (fun b0 b1 => ?_) (fun b0 b1 => ?_) (fun b0 b1 => ?_) (fun b0 b1 => ?_)
    · exfalso; (try simp only [eP] at *); (try simp only [eL] at *); (try rw [hSt.1] at *); clear hst hSt hHa hTo hTp hEd hDa hPe hTr hTx hMk hKA eP eL hl hl2; grind
    · exfalso; (try simp only [eP] at *); (try simp only [eL] at *); (try rw [hSt.1] at *); clear hst hSt hHa hTo hTp hEd hDa hPe hTr hTx hMk hKA eP eL hl hl2; grind
    · exfalso; (try simp only [eP] at *); (try simp only [eL] at *); (try rw [hSt.1] at *); clear hst hSt hHa hTo hTp hEd hDa hPe hTr hTx hMk hKA eP eL hl hl2; grind
    · exact ⟨rfl, ⟨by first | rfl | (simp (decide := true) only [q2_ne, q2_r1, uI_at, uI_nj, qRow_ne, qRow_at]), rfl⟩, ⟨hst, (by first | exact hSt | (simp (decide := true) only [q2_ne, q2_r1, uI_at, uI_nj, qRow_ne, qRow_at]; exact hSt)), (by first | exact hHa | (simp (decide := true) only [q2_ne, q2_r1, uI_at, uI_nj, qRow_ne, qRow_at]; exact hHa)), (by first | exact hTo | (simp (decide := true) only [q2_ne, q2_r1, uI_at, uI_nj, qRow_ne, qRow_at]; exact hTo)), (by first | exact hTp | (simp (decide := true) only [q2_ne, q2_r1, uI_at, uI_nj, qRow_ne, qRow_at]; exact hTp)), (by first | exact hEd | (simp (decide := true) only [q2_ne, q2_r1, uI_at, uI_nj, qRow_ne, qRow_at]; exact hEd)), (by first | exact hDa | (simp (decide := true) only [q2_ne, q2_r1, uI_at, uI_nj, qRow_ne, qRow_at]; exact hDa)), (by first | exact hPe | (simp (decide := true) only [q2_ne, q2_r1, uI_at, uI_nj, qRow_ne, qRow_at]; exact hPe)), (by first | exact hTr | (simp (decide := true) only [q2_ne, q2_r1, uI_at, uI_nj, qRow_ne, qRow_at]; exact hTr)), (RTx_of hTx (by simp (decide := true) only [q2_ne, q2_r1, uI_at, uI_nj, qRow_ne, qRow_at]) (by simp (decide := true) only [q2_ne, q2_r1, uI_at, uI_nj, qRow_ne, qRow_at]) (by simp (decide := true) only [q2_ne, q2_r1, uI_at, uI_nj, qRow_ne, qRow_at]) (by simp (decide := true) only [q2_ne, q2_r1, uI_at, uI_nj, qRow_ne, qRow_at]) (by simp (decide := true) only [q2_ne, q2_r1, uI_at, uI_nj, qRow_ne, qRow_at]) (fun k hk => by (try dsimp only); repeat first | rfl | rw [q2_ne (by omega)] | rw [qRow_ne (by omega)]) (fun k hk => by (try dsimp only); repeat first | rfl | rw [q2_ne (by omega)] | rw [qRow_ne (by omega)])), (by first | exact hMk | (simp (decide := true) only [q2_ne, q2_r1, uI_at, uI_nj, qRow_ne, qRow_at]; exact hMk)), (by first | exact hKA | (simp (decide := true) only [q2_ne, q2_r1, uI_at, uI_nj, qRow_ne, qRow_at]; exact hKA))⟩⟩
    · exfalso; (try simp only [eP] at *); (try simp only [eL] at *); (try rw [hSt.1] at *); clear hst hSt hHa hTo hTp hEd hDa hPe hTr hTx hMk hKA eP eL hl hl2; grind
  · refine ⟨_, rfl, ⟨rfl, rfl, hst⟩, ?_⟩
    refine c_X12_sign hs2 hHa hTo hl2 (fun b0 => ?_) (fun b0 b1 => ?_) (fun b0 b1 => ?_) (fun b0 b1 => ?_) (fun b0 b1 => ?_)
    · exfalso; (try simp only [eP] at *); (try simp only [eL] at *); (try rw [hSt.1] at *); clear hst hSt hHa hTo hTp hEd hDa hPe hTr hTx hMk hKA eP eL hl hl2; grind
    · exfalso; (try simp only [eP] at *); (try simp only [eL] at *); (try rw [hSt.1] at *); clear hst hSt hHa hTo hTp hEd hDa hPe hTr hTx hMk hKA eP eL hl hl2; grind
    · exfalso; (try simp only [eP] at *); (try simp only [eL] at *); (try rw [hSt.1] at *); clear hst hSt hHa hTo hTp hEd hDa hPe hTr hTx hMk hKA eP eL hl hl2; grind
    · exfalso; (try simp only [eP] at *); (try simp only [eL] at *); (try rw [hSt.1] at *); clear hst hSt hHa hTo hTp hEd hDa hPe hTr hTx hMk hKA eP eL hl hl2; grind
    · exact ⟨rfl, ⟨by first | rfl | (simp (decide := true) only [q2_ne, q2_r1, uI_at, uI_nj, qRow_ne, qRow_at]), rfl⟩, ⟨hst, (by first | exact hSt | (simp (decide := true) only [q2_ne, q2_r1, uI_at, uI_nj, qRow_ne, qRow_at]; exact hSt)), (by first | exact hHa | (simp (decide := true) only [q2_ne, q2_r1, uI_at, uI_nj, qRow_ne, qRow_at]; exact hHa)), (by first | exact hTo | (simp (decide := true) only [q2_ne, q2_r1, uI_at, uI_nj, qRow_ne, qRow_at]; exact hTo)), (by first | exact hTp | (simp (decide := true) only [q2_ne, q2_r1, uI_at, uI_nj, qRow_ne, qRow_at]; exact hTp)), (by first | exact hEd | (simp (decide := true) only [q2_ne, q2_r1, uI_at, uI_nj, qRow_ne, qRow_at]; exact hEd)), (by first | exact hDa | (simp (decide := true) only [q2_ne, q2_r1, uI_at, uI_nj, qRow_ne, qRow_at]; exact hDa)), (by first | exact hPe | (simp (decide := true) only [q2_ne, q2_r1, uI_at, uI_nj, qRow_ne, qRow_at]; exact hPe)), (by first | exact hTr | (simp (decide := true) only [q2_ne, q2_r1, uI_at, uI_nj, qRow_ne, qRow_at]; exact hTr)), (RTx_of hTx (by simp (decide := true) only [q2_ne, q2_r1, uI_at, uI_nj, qRow_ne, qRow_at]) (by simp (decide := true) only [q2_ne, q2_r1, uI_at, uI_nj, qRow_ne, qRow_at]) (by simp (decide := true) only [q2_ne, q2_r1, uI_at, uI_nj, qRow_ne, qRow_at]) (by simp (decide := true) only [q2_ne, q2_r1, uI_at, uI_nj, qRow_ne, qRow_at]) (by simp (decide := true) only [q2_ne, q2_r1, uI_at, uI_nj, qRow_ne, qRow_at]) (fun k hk => by (try dsimp only); repeat first | rfl | rw [q2_ne (by omega)] | rw [qRow_ne (by omega)]) (fun k hk => by (try dsimp only); repeat first | rfl | rw [q2_ne (by omega)] | rw [qRow_ne (by omega)])), (by first | exact hMk | (simp (decide := true) only [q2_ne, q2_r1, uI_at, uI_nj, qRow_ne, qRow_at]; exact hMk)), (by first | exact hKA | (simp (decide := true) only [q2_ne, q2_r1, uI_at, uI_nj, qRow_ne, qRow_at]; exact hKA))⟩⟩
end
section
/-! how many bits -/
def us32 (x n : Int32) : Int32 := (x.toUInt32 >>> (n.toUInt32 &&& Int32.toUInt32 31)).toInt32
def fB1 (x : Int32) : Int32 := x - (us32 x 1 &&& 1431655765)
def fB2 (x : Int32) : Int32 := (x &&& 858993459) + (us32 x 2 &&& 858993459)
def fB3 (x : Int32) : Int32 := (x + us32 x 4) &&& 252645135
def fB4 (x : Int32) : Int32 := x + us32 x 8
def fB5 (x : Int32) : Int32 := x + us32 x 16
def fBC (x : Int32) : Int32 := fB5 (fB4 (fB3 (fB2 (fB1 x)))) &&& 63
def bS1 (M x : Nat) : Nat := x - (x / 2 &&& M)
def bS2 (M x : Nat) : Nat := (x &&& M) + (x / 4 &&& M)
def bS3 (M x : Nat) : Nat := (x + x / 16) &&& M
theorem and_split (u m M : Nat) (hm : m < 256) : u &&& (m + 256 * M) = (u % 256 &&& m) + 256 * (u / 256 &&& M) := by
  have h1 : (u &&& (m + 256 * M)) % 256 = (u % 256 &&& m) := by
    have := Nat.and_mod_two_pow (a := u) (b := m + 256 * M) (n := 8)
    rw [show (2 : Nat) ^ 8 = 256 from rfl] at this
    rw [this, show (m + 256 * M) % 256 = m from by omega]
  have h2 : (u &&& (m + 256 * M)) / 256 = (u / 256 &&& M) := by
    have := Nat.and_div_two_pow (a := u) (b := m + 256 * M) (n := 8)
    rw [show (2 : Nat) ^ 8 = 256 from rfl] at this
    rw [this, show (m + 256 * M) / 256 = M from by omega]
  omega
theorem bS1_split (M a q : Nat) (ha : a < 256) : bS1 (85 + 256 * M) (a + 256 * q) = bS1 85 a + 256 * bS1 M q := by
  unfold bS1
  rw [and_split _ _ _ (by decide)]
  have h1 : (a + 256 * q) / 2 / 256 = q / 2 := by omega
  have h2 : (a + 256 * q) / 2 % 256 = a / 2 + 128 * (q % 2) := by omega
  have h3 : ∀ a < 256, ∀ b < 2, (a / 2 + 128 * b) &&& 85 = (a / 2 &&& 85) := by decide +kernel
  rw [h1, h2, h3 a ha _ (Nat.mod_lt _ (by decide))]
  have h4 : (a / 2 &&& 85) ≤ a / 2 := Nat.and_le_left
  have h5 : (q / 2 &&& M) ≤ q / 2 := Nat.and_le_left
  omega
theorem bS2_split (M a q : Nat) (ha : a < 256) : bS2 (51 + 256 * M) (a + 256 * q) = bS2 51 a + 256 * bS2 M q := by
  unfold bS2
  rw [and_split _ _ _ (by decide), and_split _ _ _ (by decide)]
  have h1 : (a + 256 * q) / 4 / 256 = q / 4 := by omega
  have h2 : (a + 256 * q) / 4 % 256 = a / 4 + 64 * (q % 4) := by omega
  have h3 : ∀ a < 256, ∀ b < 4, (a / 4 + 64 * b) &&& 51 = (a / 4 &&& 51) := by decide +kernel
  have h4 : (a + 256 * q) % 256 = a := by omega
  have h5 : (a + 256 * q) / 256 = q := by omega
  rw [h1, h2, h3 a ha _ (Nat.mod_lt _ (by decide)), h4, h5]
  omega
theorem bS3_split (M a q : Nat) (ha : a ≤ 68) (hq : q % 16 ≤ 4) : bS3 (15 + 256 * M) (a + 256 * q) = bS3 15 a + 256 * bS3 M q := by
  unfold bS3
  rw [and_split _ _ _ (by decide)]
  have h1 : (a + 256 * q + (a + 256 * q) / 16) / 256 = q + q / 16 := by omega
  have h2 : (a + 256 * q + (a + 256 * q) / 16) % 256 = a + a / 16 + 16 * (q % 16) := by omega
  have h3 : (a + a / 16 + 16 * (q % 16)) &&& 15 = (a + a / 16) &&& 15 := by
    have e : ∀ x : Nat, x &&& 15 = x % 16 := fun x => Nat.and_two_pow_sub_one_eq_mod x 4
    rw [e, e]; omega
  rw [h1, h2, h3]
def c8 (a : Nat) : Nat := bS3 15 (bS2 51 (bS1 85 a))
theorem c8_s2 : ∀ a < 256, bS1 85 a < 256 ∧ bS2 51 (bS1 85 a) ≤ 68 ∧ bS2 51 (bS1 85 a) % 16 ≤ 4 ∧ c8 a ≤ 8 ∧ (c8 a = 0 ↔ a = 0) ∧ (2 ≤ c8 a ↔ ¬ a &&& (a - 1) = 0) := by decide +kernel
theorem bS_all (x : Nat) (hx : x < 4294967296) : bS3 252645135 (bS2 858993459 (bS1 1431655765 x)) = c8 (x % 256) + 256 * (c8 (x / 256 % 256) + 256 * (c8 (x / 65536 % 256) + 256 * c8 (x / 16777216))) := by
  have e : x = x % 256 + 256 * (x / 256 % 256 + 256 * (x / 65536 % 256 + 256 * (x / 16777216))) := by omega
  have h0 : x % 256 < 256 := by omega
  have h1 : x / 256 % 256 < 256 := by omega
  have h2 : x / 65536 % 256 < 256 := by omega
  have h3 : x / 16777216 < 256 := by omega
  generalize x % 256 = a0 at e h0 ⊢
  generalize x / 256 % 256 = a1 at e h1 ⊢
  generalize x / 65536 % 256 = a2 at e h2 ⊢
  generalize x / 16777216 = a3 at e h3 ⊢
  obtain ⟨p0, p1, p2, _⟩ := c8_s2 a0 h0
  obtain ⟨q0, q1, q2, _⟩ := c8_s2 a1 h1
  obtain ⟨r0, r1, r2, _⟩ := c8_s2 a2 h2
  obtain ⟨s0, s1, s2, _⟩ := c8_s2 a3 h3
  subst e
  rw [show (1431655765 : Nat) = 85 + 256 * (85 + 256 * (85 + 256 * 85)) from rfl, bS1_split _ _ _ h0, bS1_split _ _ _ h1, bS1_split _ _ _ h2,
    show (858993459 : Nat) = 51 + 256 * (51 + 256 * (51 + 256 * 51)) from rfl, bS2_split _ _ _ p0, bS2_split _ _ _ q0, bS2_split _ _ _ r0,
    show (252645135 : Nat) = 15 + 256 * (15 + 256 * (15 + 256 * 15)) from rfl, bS3_split _ _ _ p1 (by omega), bS3_split _ _ _ q1 (by omega), bS3_split _ _ _ r1 (by omega)]
  rfl
def tc8 : Nat → Nat → Nat
  | 0, _ => 0
  | n + 1, x => c8 (x % 256) + tc8 n (x / 256)
theorem tc8_spec : ∀ (n x : Nat), x < 256 ^ n → (tc8 n x = 0 ↔ x = 0) ∧ (2 ≤ tc8 n x ↔ ¬ x &&& (x - 1) = 0) := by
  intro n
  induction n with
  | zero =>
    intro x hx
    have : x = 0 := by simpa using hx
    subst this
    decide
  | succ n ih =>
    intro x hx
    have hq : x / 256 < 256 ^ n := by rw [Nat.pow_succ] at hx; exact Nat.div_lt_of_lt_mul (by omega)
    obtain ⟨i1, i2⟩ := ih _ hq
    have ha : x % 256 < 256 := Nat.mod_lt _ (by decide)
    obtain ⟨_, _, _, _, b1, b2⟩ := c8_s2 _ ha
    simp only [tc8]
    have e : x = x % 256 + 256 * (x / 256) := by omega
    generalize x % 256 = a at *
    generalize x / 256 = q at *
    subst e
    refine ⟨by omega, ?_⟩
    have hs := and_split (a + 256 * q - 1) a q ha
    rw [Nat.and_comm, hs]
    rcases Nat.eq_zero_or_pos a with h | h
    · subst h
      rcases Nat.eq_zero_or_pos q with h2 | h2
      · subst h2
        have h3 : tc8 n 0 = 0 := i1.mpr rfl
        rw [h3]
        decide
      · have h4 : (0 + 256 * q - 1) % 256 = 255 := by omega
        have h5 : (0 + 256 * q - 1) / 256 = q - 1 := by omega
        rw [h4, h5, Nat.and_comm (q - 1) q]
        have h6 : c8 0 = 0 := by decide
        have h7 : 255 &&& 0 = 0 := by decide
        rw [h6, h7]
        omega
    · have h4 : (a + 256 * q - 1) % 256 = a - 1 := by omega
      have h5 : (a + 256 * q - 1) / 256 = q := by omega
      rw [h4, h5, Nat.and_comm (a - 1) a, Nat.and_self]
      omega
theorem us_nat (x : Int32) (n : Int32) (k : Nat) (hn : n.toUInt32 &&& Int32.toUInt32 31 = UInt32.ofNat k) (hk : k < 32) : (us32 x n).toBitVec.toNat = x.toBitVec.toNat / 2 ^ k := by
  have : (us32 x n).toBitVec = x.toBitVec >>> k := by
    unfold us32
    rw [hn]
    have h1 : (x.toUInt32 >>> UInt32.ofNat k).toInt32.toBitVec = (x.toUInt32 >>> UInt32.ofNat k).toBitVec := rfl
    rw [h1, UInt32.toBitVec_shiftRight]
    have h2 : ((UInt32.ofNat k).toBitVec % 32).toNat = k := by
      rw [BitVec.toNat_umod]
      have : (UInt32.ofNat k).toBitVec.toNat = k % 2 ^ 32 := by simp
      rw [this]
      simp
      omega
    rw [BitVec.ushiftRight_eq', h2]
    rfl
  rw [this, BitVec.toNat_ushiftRight, Nat.shiftRight_eq_div_pow]
theorem fBC_nat (x : Int32) : (fBC x).toBitVec.toNat = tc8 4 x.toBitVec.toNat := by
  have hx := x.toBitVec.isLt
  generalize hX : x.toBitVec.toNat = X at hx
  have h1 : (fB1 x).toBitVec.toNat = bS1 1431655765 X := by
    have e : (fB1 x).toBitVec = x.toBitVec - ((us32 x 1).toBitVec &&& 1431655765#32) := rfl
    rw [e, BitVec.toNat_sub, BitVec.toNat_and, us_nat x 1 1 rfl (by decide), hX]
    have h2 : (X / 2 ^ 1 &&& 1431655765) ≤ X / 2 := Nat.and_le_left
    show (2 ^ 32 - (X / 2 &&& 1431655765) + X) % 2 ^ 32 = X - (X / 2 &&& 1431655765)
    have h3 : (X / 2 &&& 1431655765) ≤ X / 2 := Nat.and_le_left
    generalize (X / 2 &&& 1431655765) = t at h3 ⊢
    omega
  have b1 := (fB1 x).toBitVec.isLt
  generalize hY : (fB1 x).toBitVec.toNat = Y at h1 b1
  have h2 : (fB2 (fB1 x)).toBitVec.toNat = bS2 858993459 Y := by
    have e : (fB2 (fB1 x)).toBitVec = ((fB1 x).toBitVec &&& 858993459#32) + ((us32 (fB1 x) 2).toBitVec &&& 858993459#32) := rfl
    rw [e, BitVec.toNat_add, BitVec.toNat_and, BitVec.toNat_and, us_nat _ 2 2 rfl (by decide), hY]
    have h2 : (Y / 2 ^ 2 &&& 858993459) ≤ 858993459 := Nat.and_le_right
    have h3 : (Y &&& 858993459) ≤ 858993459 := Nat.and_le_right
    show ((Y &&& 858993459) + (Y / 4 &&& 858993459)) % 2 ^ 32 = (Y &&& 858993459) + (Y / 4 &&& 858993459)
    have h2 : (Y / 4 &&& 858993459) ≤ 858993459 := Nat.and_le_right
    generalize (Y / 4 &&& 858993459) = t at h2 ⊢
    generalize (Y &&& 858993459) = u at h3 ⊢
    omega
  have b2 : (fB2 (fB1 x)).toBitVec.toNat ≤ 1717986918 := by
    rw [h2]
    have h2 : (Y / 4 &&& 858993459) ≤ 858993459 := Nat.and_le_right
    have h3 : (Y &&& 858993459) ≤ 858993459 := Nat.and_le_right
    unfold bS2
    omega
  generalize hZ : (fB2 (fB1 x)).toBitVec.toNat = Z at h2 b2
  have h3 : (fB3 (fB2 (fB1 x))).toBitVec.toNat = bS3 252645135 Z := by
    have e : (fB3 (fB2 (fB1 x))).toBitVec = ((fB2 (fB1 x)).toBitVec + (us32 (fB2 (fB1 x)) 4).toBitVec) &&& 252645135#32 := rfl
    rw [e, BitVec.toNat_and, BitVec.toNat_add, us_nat _ 4 4 rfl (by decide), hZ]
    show (Z + Z / 2 ^ 4) % 2 ^ 32 &&& 252645135 = (Z + Z / 16) &&& 252645135
    rw [Nat.mod_eq_of_lt (by omega)]
  rw [h2, h1, bS_all X hx] at h3
  obtain ⟨_, _, _, p0, _⟩ := c8_s2 (X % 256) (by omega)
  obtain ⟨_, _, _, p1, _⟩ := c8_s2 (X / 256 % 256) (by omega)
  obtain ⟨_, _, _, p2, _⟩ := c8_s2 (X / 65536 % 256) (by omega)
  obtain ⟨_, _, _, p3, _⟩ := c8_s2 (X / 16777216) (by omega)
  have ht : tc8 4 X = c8 (X % 256) + (c8 (X / 256 % 256) + (c8 (X / 65536 % 256) + c8 (X / 16777216))) := by
    simp only [tc8]
    rw [show X / 256 / 256 = X / 65536 from by omega, show X / 65536 / 256 = X / 16777216 from by omega, show X / 16777216 % 256 = X / 16777216 from by omega]
    omega
  rw [ht]
  generalize c8 (X % 256) = a0 at *
  generalize c8 (X / 256 % 256) = a1 at *
  generalize c8 (X / 65536 % 256) = a2 at *
  generalize c8 (X / 16777216) = a3 at *
  generalize hW : (fB3 (fB2 (fB1 x))).toBitVec.toNat = W at h3
  have h4 : (fB4 (fB3 (fB2 (fB1 x)))).toBitVec.toNat = W + W / 256 := by
    have e : (fB4 (fB3 (fB2 (fB1 x)))).toBitVec = (fB3 (fB2 (fB1 x))).toBitVec + (us32 (fB3 (fB2 (fB1 x))) 8).toBitVec := rfl
    rw [e, BitVec.toNat_add, us_nat _ 8 8 rfl (by decide), hW]
    omega
  have h5 : (fB5 (fB4 (fB3 (fB2 (fB1 x))))).toBitVec.toNat = (W + W / 256) + (W + W / 256) / 65536 := by
    have e : (fB5 (fB4 (fB3 (fB2 (fB1 x))))).toBitVec = (fB4 (fB3 (fB2 (fB1 x)))).toBitVec + (us32 (fB4 (fB3 (fB2 (fB1 x)))) 16).toBitVec := rfl
    rw [e, BitVec.toNat_add, us_nat _ 16 16 rfl (by decide), h4]
    omega
  have h6 : (fBC x).toBitVec.toNat = ((W + W / 256) + (W + W / 256) / 65536) % 64 := by
    have e : (fBC x).toBitVec = (fB5 (fB4 (fB3 (fB2 (fB1 x))))).toBitVec &&& 63#32 := rfl
    rw [e, BitVec.toNat_and, h5]
    exact Nat.and_two_pow_sub_one_eq_mod _ 6
  rw [h6]
  have w1 : W / 256 = a1 + 256 * (a2 + 256 * a3) := by clear h6 h5 h4 hW ht; omega
  have w2 : (W + W / 256) / 65536 = a2 + a3 + 256 * a3 := by rw [w1]; clear h6 h5 h4 hW ht; omega
  rw [w2, w1, h3]
  clear h6 h5 h4 hW ht w1 w2 h3
  omega
theorem fBC_two {v : Int32} (h0 : 0 ≤ v) : 2 ≤ fBC v ↔ ¬ v &&& (v - 1) = 0 := by
  have hx := v.toBitVec.isLt
  have h1 := fBC_nat v
  have ht := tc8_spec 4 v.toBitVec.toNat hx
  have hb : tc8 4 v.toBitVec.toNat ≤ 32 := by
    have := fun a (h : a < 256) => (c8_s2 a h).2.2.2.1
    simp only [tc8]
    have g0 := this (v.toBitVec.toNat % 256) (by omega)
    have g1 := this (v.toBitVec.toNat / 256 % 256) (by omega)
    have g2 := this (v.toBitVec.toNat / 256 / 256 % 256) (by omega)
    have g3 := this (v.toBitVec.toNat / 256 / 256 / 256 % 256) (by omega)
    omega
  have hi : (fBC v).toInt = (tc8 4 v.toBitVec.toNat : Int) := by
    have e : (fBC v).toInt = (fBC v).toBitVec.toInt := rfl
    rw [e, BitVec.toInt_eq_toNat_cond, if_pos (by omega), h1]
  have h2 : (2 : Int32) ≤ fBC v ↔ 2 ≤ tc8 4 v.toBitVec.toNat := by
    rw [Int32.le_iff_toInt_le, hi, show (2 : Int32).toInt = 2 from rfl]
    omega
  rw [h2, ht.2]
  have h3 : (v &&& (v - 1) = 0) ↔ (v.toBitVec.toNat &&& (v.toBitVec.toNat - 1) = 0) := by
    have hv := tN h0
    have hlt := Int32.toInt_lt v
    rcases Nat.eq_zero_or_pos v.toBitVec.toNat with hz | hz
    · have hv0 : v = 0 := Int32.toInt_inj.mp (by rw [hv, hz]; rfl)
      rw [hz, hv0]
      decide
    · have e1 : (v &&& (v - 1)).toBitVec.toNat = v.toBitVec.toNat &&& (v.toBitVec.toNat - 1) := by
        have e : (v &&& (v - 1)).toBitVec = v.toBitVec &&& (v.toBitVec - 1#32) := rfl
        rw [e, BitVec.toNat_and, BitVec.toNat_sub]
        congr 1
        show (2 ^ 32 - 1 % 2 ^ 32 + v.toBitVec.toNat) % 2 ^ 32 = _
        omega
      rw [← e1]
      constructor
      · intro h; rw [h]; rfl
      · intro h
        apply Int32.toBitVec_inj.mp
        exact BitVec.eq_of_toNat_eq (by rw [h]; rfl)
  rw [h3]
end
section
/-! readings told -/
def pk (k y : Int32) : Int32 := ((k + 1) <<< (27 &&& 31)) ||| y
def fTd (k v : Int32) : Int32 := if k = 0 ∨ k = 1 ∨ k = 5 then (if 0 ≤ v ∧ v < 27 then pk k (1 <<< (v &&& 31)) else 0) else if k = 2 then (if 0 ≤ v ∧ v ≤ 134217727 ∧ 2 ≤ fBC v then pk k v else 0) else if k = 3 ∨ k = 4 then pk k 134217727 else 0
def fMv (k v : Int32) : Int32 := if k = 3 ∨ k = 4 then 134217727 else if k = 2 then v else 1 <<< (v &&& 31)
def okR (k v : Int32) : Prop := (0 ≤ k ∧ k < 6) ∧ (k = 2 → 0 ≤ v ∧ v ≤ 134217727 ∧ ¬ v &&& (v - 1) = 0) ∧ (k = 0 ∨ k = 1 ∨ k = 5 → 0 ≤ v ∧ v < 27)
theorem mul_add27 {k : Int32} (K : Nat) (hK : k = nI K) (h : K < 7) {y : Int32} (h0 : 0 ≤ y) (h1 : y ≤ 134217727) : (k * 134217728 + y).toInt = 2 ^ 27 * (K : Int) + y.toInt := by
  obtain ⟨y, hy, rfl⟩ := nI_ofL (x := y) (n := 134217728) (by decide) h0 (by show y < 134217728; grind)
  rw [hK, show (134217728 : Int32) = nI 134217728 from rfl, nI_mul, nI_add, nI_toInt (by omega), nI_toInt (by omega)]
  omega
theorem pkk_eq {k y : Int32} (hk : 0 ≤ k ∧ k ≤ 5) (h0 : 0 ≤ y) (h1 : y ≤ 134217727) : pk k y = (k + 1) * 134217728 + y := by
  obtain ⟨k, hk2, rfl⟩ := nI_ofL (x := k) (n := 6) (by decide) hk.1 (by show k < 6; grind)
  apply Int32.toInt_inj.mp
  rw [mul_add27 (k + 1) (nI_1 k) (by omega) h0 h1]
  unfold pk
  have hc : ∀ k < 6, ((nI k + 1) <<< (27 &&& 31)).toBitVec = BitVec.ofNat 32 (2 ^ 27 * (k + 1)) := by decide +kernel
  have hy := tN h0
  have hy1 := Int32.le_iff_toInt_le.mp h1
  have e1 : (134217727 : Int32).toInt = 134217727 := rfl
  have e : ((nI k + 1) <<< (27 &&& 31) ||| y).toBitVec.toNat = 2 ^ 27 * (k + 1) + y.toBitVec.toNat := by
    have : ((nI k + 1) <<< (27 &&& 31) ||| y).toBitVec = ((nI k + 1) <<< (27 &&& 31)).toBitVec ||| y.toBitVec := rfl
    rw [this, BitVec.toNat_or, hc k hk2, BitVec.toNat_ofNat, Nat.mod_eq_of_lt (by omega)]
    exact (Nat.two_pow_add_eq_or_of_lt (by omega) (k + 1)).symm
  have e2 : ((nI k + 1) <<< (27 &&& 31) ||| y).toInt = ((nI k + 1) <<< (27 &&& 31) ||| y).toBitVec.toInt := rfl
  rw [e2, BitVec.toInt_eq_toNat_cond, e, if_pos (by omega)]
  omega
theorem sh1 {v : Int32} (h : 0 ≤ v ∧ v < 27) : 0 ≤ (1 : Int32) <<< (v &&& 31) ∧ (1 : Int32) <<< (v &&& 31) ≤ 134217727 ∧ (1 : Int32) <<< (v &&& 31) = 1 <<< v ∧ 0 < (1 : Int32) <<< (v &&& 31) := by
  obtain ⟨v, hv, rfl⟩ := nI_ofL (x := v) (n := 27) (by decide) h.1 h.2
  have hc : ∀ v < 27, 0 ≤ (1 : Int32) <<< (nI v &&& 31) ∧ (1 : Int32) <<< (nI v &&& 31) ≤ 134217727 ∧ (1 : Int32) <<< (nI v &&& 31) = 1 <<< nI v ∧ 0 < (1 : Int32) <<< (nI v &&& 31) := by decide +kernel
  exact hc v hv
theorem pk_rd {k y : Int32} (hk : 0 ≤ k ∧ k ≤ 5) (h0 : 0 ≤ y) (h1 : y ≤ 134217727) (hv : k = 0 ∨ k = 1 ∨ k = 5 → ∃ v : Int32, 0 ≤ v ∧ v < 27 ∧ y = 1 <<< v) : rd1 (pk k y) (k + 1) y :=
  Or.inr ⟨by grind, by grind, h0, h1, pkk_eq hk h0 h1, fun h => hv (by grind)⟩
theorem rd1_nz {t k y : Int32} (h : rd1 t k y) (hk : 0 < k) : ¬ t = 0 := fun e => by
  have := (rd1_un h).1.mp e
  grind
theorem td_ok {k v : Int32} (h : okR k v) : rd1 (fTd k v) (k + 1) (fMv k v) ∧ ¬ fTd k v = 0 := by
  obtain ⟨h1, h2, h3⟩ := h
  have hr : rd1 (fTd k v) (k + 1) (fMv k v) := by
    unfold fTd fMv
    by_cases ha : k = 0 ∨ k = 1 ∨ k = 5
    · have h4 := h3 ha
      have h5 := sh1 h4
      rw [if_pos ha, if_pos h4, if_neg (by grind), if_neg (by grind)]
      exact pk_rd (by grind) h5.1 h5.2.1 fun _ => ⟨v, h4.1, h4.2, h5.2.2.1⟩
    · rw [if_neg ha]
      by_cases hb : k = 2
      · have h4 := h2 hb
        rw [if_pos hb, if_pos ⟨h4.1, h4.2.1, (fBC_two h4.1).mpr h4.2.2⟩, if_neg (by grind), if_pos hb]
        exact pk_rd (by grind) h4.1 h4.2.1 fun h => absurd h ha
      · rw [if_neg hb]
        have hc : k = 3 ∨ k = 4 := by grind
        rw [if_pos hc, if_pos hc]
        exact pk_rd (by grind) (by decide) (by decide) fun h => absurd h ha
  exact ⟨hr, rd1_nz hr (by grind)⟩
theorem td_bad {k v : Int32} (h : ¬ okR k v) : fTd k v = 0 := by
  unfold fTd
  by_cases ha : k = 0 ∨ k = 1 ∨ k = 5
  · rw [if_pos ha]
    by_cases h4 : 0 ≤ v ∧ v < 27
    · exact absurd ⟨by grind, fun h2 => by grind, fun _ => h4⟩ h
    · exact if_neg h4
  · rw [if_neg ha]
    by_cases hb : k = 2
    · rw [if_pos hb]
      by_cases h4 : 0 ≤ v ∧ v ≤ 134217727 ∧ 2 ≤ fBC v
      · exact absurd ⟨by grind, fun _ => ⟨h4.1, h4.2.1, (fBC_two h4.1).mp h4.2.2⟩, fun h5 => absurd h5 ha⟩ h
      · exact if_neg h4
    · rw [if_neg hb]
      by_cases hc : k = 3 ∨ k = 4
      · exact absurd ⟨by grind, fun h5 => absurd h5 hb, fun h5 => absurd h5 ha⟩ h
      · exact if_neg hc
theorem RTo_f1 {t k y : Nat → Int32} {j : Nat} (h : RTo t k y) : RTo (uI t j 0) (uI k j 0) y := by
  intro x hx
  by_cases e : x = j
  · subst e; rw [uI_at, uI_at]; exact Or.inl ⟨rfl, rfl⟩
  · rw [uI_nj e, uI_nj e]; exact h x hx
theorem RTo_f0 {t k y : Nat → Int32} {j : Nat} (h : RTo t k y) (hz : t j = 0) : RTo t (uI k j 0) y := by
  intro x hx
  by_cases e : x = j
  · subst e; rw [uI_at]; exact Or.inl ⟨hz, rfl⟩
  · rw [uI_nj e]; exact h x hx
theorem qKA_v {a : Int32} (h : 0 ≤ a ∧ a < 6) : (a = 0 → qKA a.toNatClampNeg = -1) ∧ (a = 4 → qKA a.toNatClampNeg = 3) ∧ (¬ a = 0 → ¬ a = 4 → qKA a.toNatClampNeg = 0) := by
  obtain ⟨a, ha, rfl⟩ := nI_ofL (x := a) (n := 6) (by decide) h.1 h.2
  have hc : ∀ a < 6, (nI a = 0 → qKA (nI a).toNatClampNeg = -1) ∧ (nI a = 4 → qKA (nI a).toNatClampNeg = 3) ∧ (¬ nI a = 0 → ¬ nI a = 4 → qKA (nI a).toNatClampNeg = 0) := by decide +kernel
  exact hc a ha
theorem c_J6_bitCount_0f7a4 {d z : Nat} {N : Nat → Nat} {I : Nat → Nat → Int32} {L : Nat → Nat → Int64} {R : Nat → Nat → Option Nat} {Q : qP} {x : Int32}  (h : ∀ v : Int32, v = fBC x → Q (some (.int v)) (z, N, I, L, R)) : qWP (d + 1) 246 [.int x] (z, N, I, L, R) Q := by
  refine qWP_of m_J6_bitCount_0f7a4 rfl rfl [(0, .int x)] rfl ?_
  refine qJ_run (qWP_mono _) [] 400 ?_
  change Q (some (.int ((((((((x - ((((x).toUInt32 >>> ((1 : Int32).toUInt32 &&& Int32.toUInt32 31)).toInt32) &&& 1431655765)) &&& 858993459) + ((((x - ((((x).toUInt32 >>> ((1 : Int32).toUInt32 &&& Int32.toUInt32 31)).toInt32) &&& 1431655765)).toUInt32 >>> ((2 : Int32).toUInt32 &&& Int32.toUInt32 31)).toInt32) &&& 858993459)) + (((((x - ((((x).toUInt32 >>> ((1 : Int32).toUInt32 &&& Int32.toUInt32 31)).toInt32) &&& 1431655765)) &&& 858993459) + ((((x - ((((x).toUInt32 >>> ((1 : Int32).toUInt32 &&& Int32.toUInt32 31)).toInt32) &&& 1431655765)).toUInt32 >>> ((2 : Int32).toUInt32 &&& Int32.toUInt32 31)).toInt32) &&& 858993459)).toUInt32 >>> ((4 : Int32).toUInt32 &&& Int32.toUInt32 31)).toInt32)) &&& 252645135) + (((((((x - ((((x).toUInt32 >>> ((1 : Int32).toUInt32 &&& Int32.toUInt32 31)).toInt32) &&& 1431655765)) &&& 858993459) + ((((x - ((((x).toUInt32 >>> ((1 : Int32).toUInt32 &&& Int32.toUInt32 31)).toInt32) &&& 1431655765)).toUInt32 >>> ((2 : Int32).toUInt32 &&& Int32.toUInt32 31)).toInt32) &&& 858993459)) + (((((x - ((((x).toUInt32 >>> ((1 : Int32).toUInt32 &&& Int32.toUInt32 31)).toInt32) &&& 1431655765)) &&& 858993459) + ((((x - ((((x).toUInt32 >>> ((1 : Int32).toUInt32 &&& Int32.toUInt32 31)).toInt32) &&& 1431655765)).toUInt32 >>> ((2 : Int32).toUInt32 &&& Int32.toUInt32 31)).toInt32) &&& 858993459)).toUInt32 >>> ((4 : Int32).toUInt32 &&& Int32.toUInt32 31)).toInt32)) &&& 252645135).toUInt32 >>> ((8 : Int32).toUInt32 &&& Int32.toUInt32 31)).toInt32)) + ((((((((x - ((((x).toUInt32 >>> ((1 : Int32).toUInt32 &&& Int32.toUInt32 31)).toInt32) &&& 1431655765)) &&& 858993459) + ((((x - ((((x).toUInt32 >>> ((1 : Int32).toUInt32 &&& Int32.toUInt32 31)).toInt32) &&& 1431655765)).toUInt32 >>> ((2 : Int32).toUInt32 &&& Int32.toUInt32 31)).toInt32) &&& 858993459)) + (((((x - ((((x).toUInt32 >>> ((1 : Int32).toUInt32 &&& Int32.toUInt32 31)).toInt32) &&& 1431655765)) &&& 858993459) + ((((x - ((((x).toUInt32 >>> ((1 : Int32).toUInt32 &&& Int32.toUInt32 31)).toInt32) &&& 1431655765)).toUInt32 >>> ((2 : Int32).toUInt32 &&& Int32.toUInt32 31)).toInt32) &&& 858993459)).toUInt32 >>> ((4 : Int32).toUInt32 &&& Int32.toUInt32 31)).toInt32)) &&& 252645135) + (((((((x - ((((x).toUInt32 >>> ((1 : Int32).toUInt32 &&& Int32.toUInt32 31)).toInt32) &&& 1431655765)) &&& 858993459) + ((((x - ((((x).toUInt32 >>> ((1 : Int32).toUInt32 &&& Int32.toUInt32 31)).toInt32) &&& 1431655765)).toUInt32 >>> ((2 : Int32).toUInt32 &&& Int32.toUInt32 31)).toInt32) &&& 858993459)) + (((((x - ((((x).toUInt32 >>> ((1 : Int32).toUInt32 &&& Int32.toUInt32 31)).toInt32) &&& 1431655765)) &&& 858993459) + ((((x - ((((x).toUInt32 >>> ((1 : Int32).toUInt32 &&& Int32.toUInt32 31)).toInt32) &&& 1431655765)).toUInt32 >>> ((2 : Int32).toUInt32 &&& Int32.toUInt32 31)).toInt32) &&& 858993459)).toUInt32 >>> ((4 : Int32).toUInt32 &&& Int32.toUInt32 31)).toInt32)) &&& 252645135).toUInt32 >>> ((8 : Int32).toUInt32 &&& Int32.toUInt32 31)).toInt32)).toUInt32 >>> ((16 : Int32).toUInt32 &&& Int32.toUInt32 31)).toInt32)) &&& 63))) (z, N, I, L, R)
  exact h _ rfl
theorem c_X5_packed {d z : Nat} {N : Nat → Nat} {I : Nat → Nat → Int32} {L : Nat → Nat → Int64} {R : Nat → Nat → Option Nat} {Q : qP} {k : Int32} {y : Int32}  (h : ∀ v : Int32, v = pk k y → Q (some (.int v)) (z, N, I, L, R)) : qWP (d + 1) 63 [.int k, .int y] (z, N, I, L, R) Q := by
  refine qWP_of m_X5_packed rfl rfl [(0, .int k), (1, .int y)] rfl ?_
  refine qJ_run (qWP_mono _) [] 400 ?_
  change Q (some (.int (((k + 1) <<< (27 &&& 31)) ||| y))) (z, N, I, L, R)
  exact h _ rfl
theorem c_X5_told {d z : Nat} {N : Nat → Nat} {I : Nat → Nat → Int32} {L : Nat → Nat → Int64} {R : Nat → Nat → Option Nat} {Q : qP} {k : Int32} {y : Int32} (hst : qStat (z, N, I, L, R)) (h : ∀ v : Int32, v = fTd k y → Q (some (.int v)) (z, N, I, L, R)) : qWP (d + 2) 62 [.int k, .int y] (z, N, I, L, R) Q := by
  refine qWP_of m_X5_told rfl rfl [(0, .int k), (1, .int y)] rfl ?_
  refine qJ_run (qWP_mono _) [] 400 ?_
  refine ⟨fun c1 => ?_, fun c1 => ?_, fun c1 => ?_, fun c1 => ?_, fun c1 => ?_, fun c1 => ?_, fun c1 => ?_, trivial⟩
  · replace c1 : k < 0 ∨ 5 < k := by rw [fa_lt, fa_lt]; exact c1
    change Q (some (.int 0)) (z, N, I, L, R)
    refine h _ ?_
    unfold fTd
    clear h
    grind
  · replace c1 : k = 0 := Int32.toInt_inj.mp c1
    refine ⟨fun (c2 : y < 0) => ?_, fun (c2 : ¬ y < 0) => ?_⟩
    · change Q (some (.int 0)) (z, N, I, L, R)
      refine h _ ?_
      unfold fTd
      clear h
      grind
    · refine ⟨fun (c3 : 27 ≤ y) => ?_, fun (c3 : ¬ 27 ≤ y) => ?_⟩
      · change Q (some (.int 0)) (z, N, I, L, R)
        refine h _ ?_
        unfold fTd
        clear h
        grind
      · refine ⟨⟨Nat.le_refl _, Nat.le_refl _⟩, ?_⟩
        refine c_X5_packed (d := d) fun v1 hv1 => ?_
        change Q (some (.int v1)) (z, N, I, L, R)
        refine h _ ?_
        subst hv1
        unfold fTd
        clear h
        grind
  · replace c1 : k = 1 := Int32.toInt_inj.mp c1
    refine ⟨fun (c4 : y < 0) => ?_, fun (c4 : ¬ y < 0) => ?_⟩
    · change Q (some (.int 0)) (z, N, I, L, R)
      refine h _ ?_
      unfold fTd
      clear h
      grind
    · refine ⟨fun (c5 : 27 ≤ y) => ?_, fun (c5 : ¬ 27 ≤ y) => ?_⟩
      · change Q (some (.int 0)) (z, N, I, L, R)
        refine h _ ?_
        unfold fTd
        clear h
        grind
      · refine ⟨⟨Nat.le_refl _, Nat.le_refl _⟩, ?_⟩
        refine c_X5_packed (d := d) fun v2 hv2 => ?_
        change Q (some (.int v2)) (z, N, I, L, R)
        refine h _ ?_
        subst hv2
        unfold fTd
        clear h
        grind
  · replace c1 : k = 2 := Int32.toInt_inj.mp c1
    refine ⟨fun (c6 : y < 0) => ?_, fun (c6 : ¬ y < 0) => ?_⟩
    · change Q (some (.int 0)) (z, N, I, L, R)
      refine h _ ?_
      unfold fTd
      clear h
      grind
    · refine ⟨fun (c7 : 134217727 < y) => ?_, fun (c7 : ¬ 134217727 < y) => ?_⟩
      · change Q (some (.int 0)) (z, N, I, L, R)
        refine h _ ?_
        unfold fTd
        clear h
        grind
      · refine ⟨⟨Nat.le_refl _, Nat.le_refl _⟩, ?_⟩
        refine c_J6_bitCount_0f7a4 (d := d) fun v3 hv3 => ⟨hst, ?_⟩
        refine ⟨fun (c8 : v3 < 2) => ?_, fun (c8 : ¬ v3 < 2) => ?_⟩
        · change Q (some (.int 0)) (z, N, I, L, R)
          refine h _ ?_
          unfold fTd
          clear h
          grind
        · refine ⟨⟨Nat.le_refl _, Nat.le_refl _⟩, ?_⟩
          refine c_X5_packed (d := d) fun v4 hv4 => ?_
          change Q (some (.int v4)) (z, N, I, L, R)
          refine h _ ?_
          subst hv4
          unfold fTd
          clear h
          grind
  · replace c1 : k = 3 := Int32.toInt_inj.mp c1
    refine ⟨⟨Nat.le_refl _, Nat.le_refl _⟩, ?_⟩
    refine c_X5_packed (d := d) fun v5 hv5 => ?_
    change Q (some (.int v5)) (z, N, I, L, R)
    refine h _ ?_
    subst hv5
    unfold fTd
    clear h
    grind
  · replace c1 : k = 4 := Int32.toInt_inj.mp c1
    refine ⟨⟨Nat.le_refl _, Nat.le_refl _⟩, ?_⟩
    refine c_X5_packed (d := d) fun v6 hv6 => ?_
    change Q (some (.int v6)) (z, N, I, L, R)
    refine h _ ?_
    subst hv6
    unfold fTd
    clear h
    grind
  · replace c1 : k = 5 := Int32.toInt_inj.mp c1
    refine ⟨fun (c9 : y < 0) => ?_, fun (c9 : ¬ y < 0) => ?_⟩
    · change Q (some (.int 0)) (z, N, I, L, R)
      refine h _ ?_
      unfold fTd
      clear h
      grind
    · refine ⟨fun (c10 : 27 ≤ y) => ?_, fun (c10 : ¬ 27 ≤ y) => ?_⟩
      · change Q (some (.int 0)) (z, N, I, L, R)
        refine h _ ?_
        unfold fTd
        clear h
        grind
      · refine ⟨⟨Nat.le_refl _, Nat.le_refl _⟩, ?_⟩
        refine c_X5_packed (d := d) fun v7 hv7 => ?_
        change Q (some (.int v7)) (z, N, I, L, R)
        refine h _ ?_
        subst hv7
        unfold fTd
        clear h
        grind
theorem l_X5_isUnder {d z : Nat} {N : Nat → Nat} {I : Nat → Nat → Int32} {L : Nat → Nat → Int64} {R : Nat → Nat → Option Nat} {Q : qP} {c w : Int32} (hKA : I 1 = qKA) : ∀ (k : Int32), ∀ a : Int32, 0 ≤ k → (a = -1 ∧ k ≤ 6) ∨ (a = 0 ∧ k ≤ 5) ∨ ((a = 1 ∨ a = 2 ∨ a = 3 ∨ a = 5) ∧ k ≤ 4) ∨ (a = 4 ∧ k ≤ 3) → Q (some (.int (if (0 ≤ a ∧ a < 6) ∧ (w = a ∨ w = 0 ∨ (a = 4 ∧ w = 3)) then 1 else 0))) (z, N, I, L, R) → qJ m_X5_isUnder (qWP (d + 0)) Q 4 [(3, .int k), (2, .int a), (1, .int w), (0, .int c)] [] 0 0 (z, N, I, L, R) := by
  refine up_ind (6) fun k ih => ?_
  intro a h0 ha hq
  refine qJ_run (qWP_mono _) [4] 400 ?_
  refine ⟨fun (c1 : 6 ≤ k) => ?_, fun (c1 : ¬ 6 ≤ k) => ?_⟩
  · refine ⟨by first | exact Or.inl rfl | exact Or.inr rfl | (clear ih hq; grind), ?_⟩
    change Q (some (.int 0)) (z, N, I, L, R)
    first | (rw [if_pos (by clear ih hq; grind)] at hq; exact hq) | (rw [if_neg (by clear ih hq; grind)] at hq; exact hq)
  · refine ⟨fun (c2 : a < 0) => ?_, fun (c2 : ¬ a < 0) => ?_⟩
    · refine ⟨by first | exact Or.inl rfl | exact Or.inr rfl | (clear ih hq; grind), ?_⟩
      change Q (some (.int 0)) (z, N, I, L, R)
      first | (rw [if_pos (by clear ih hq; grind)] at hq; exact hq) | (rw [if_neg (by clear ih hq; grind)] at hq; exact hq)
    · refine ⟨fun (c3 : 6 ≤ a) => ?_, fun (c3 : ¬ 6 ≤ a) => ?_⟩
      · refine ⟨by first | exact Or.inl rfl | exact Or.inr rfl | (clear ih hq; grind), ?_⟩
        change Q (some (.int 0)) (z, N, I, L, R)
        first | (rw [if_pos (by clear ih hq; grind)] at hq; exact hq) | (rw [if_neg (by clear ih hq; grind)] at hq; exact hq)
      · refine ⟨fun (c4 : ¬ a = w) => ?_, fun (c4 : a = w) => ?_⟩
        · refine ⟨?_, ?_⟩
          · exact vb (x := a) (N := 6) 6 (by decide) (by clear ih hq; grind) (by clear ih hq; grind)
          have hv := qKA_v (a := a) (by clear ih hq; grind)
          rw [← hKA] at hv
          refine ih (by clear ih hq; grind) _ (by clear ih hq; grind) (by clear ih hq; grind) ?_
          have e : ((0 ≤ I 1 a.toNatClampNeg ∧ I 1 a.toNatClampNeg < 6) ∧ (w = I 1 a.toNatClampNeg ∨ w = 0 ∨ (I 1 a.toNatClampNeg = 4 ∧ w = 3))) ↔ ((0 ≤ a ∧ a < 6) ∧ (w = a ∨ w = 0 ∨ (a = 4 ∧ w = 3))) := by clear ih hq; grind
          simp only [e]
          exact hq
        · refine ⟨by first | exact Or.inl rfl | exact Or.inr rfl | (clear ih hq; grind), ?_⟩
          change Q (some (.int 1)) (z, N, I, L, R)
          first | (rw [if_pos (by clear ih hq; grind)] at hq; exact hq) | (rw [if_neg (by clear ih hq; grind)] at hq; exact hq)
theorem c_X5_isUnder {d z : Nat} {N : Nat → Nat} {I : Nat → Nat → Int32} {L : Nat → Nat → Int64} {R : Nat → Nat → Option Nat} {Q : qP} {c : Int32} {w : Int32} (hKA : I 1 = qKA) (hc : 0 ≤ c ∧ c ≤ 5) (h : ∀ v : Int32, v = (if w = c ∨ w = 0 ∨ (c = 4 ∧ w = 3) then 1 else 0) → Q (some (.int v)) (z, N, I, L, R)) : qWP (d + 2) 66 [.int c, .int w] (z, N, I, L, R) Q := by
  refine qWP_of m_X5_isUnder rfl rfl [(0, .int c), (1, .int w)] rfl ?_
  refine qJ_run (qWP_mono _) [4] 400 ?_
  refine qJ_nm (qWP_mono _) [] [(3, .int 0), (2, .int c), (1, .int w), (0, .int c)] rfl rfl rfl ?_
  refine l_X5_isUnder (d := d + 1) hKA 0 c (by decide) (by clear h; grind) (h _ ?_)
  clear h
  grind
end
section
theorem c_X11_forget {d z : Nat} {N : Nat → Nat} {I : Nat → Nat → Int32} {L : Nat → Nat → Int64} {R : Nat → Nat → Option Nat} {Q : qP} {a : Int32} {s : Int32} {l : Int32} {p : Int32} (hs : 0 ≤ I 3 2 ∧ I 3 2 ≤ 12) (hn : 0 ≤ I 6 2 ∧ I 6 2 ≤ 6) (hl : ∀ x : Int32, 0 ≤ x → x < I 3 2 → I 4 x.toNatClampNeg ≤ 4 ∧ I 5 x.toNatClampNeg ≤ 24) (h0 : ¬ ((0 ≤ a ∧ a < I 6 2) ∧ ((0 ≤ s ∧ s < I 3 2) ∧ 0 ≤ l ∧ l < I 4 s.toNatClampNeg) ∧ 0 ≤ p ∧ p < I 5 s.toNatClampNeg) → Q (some (.int (-2))) (z, N, I, L, R)) (h1 : ((0 ≤ a ∧ a < I 6 2) ∧ ((0 ≤ s ∧ s < I 3 2) ∧ 0 ≤ l ∧ l < I 4 s.toNatClampNeg) ∧ 0 ≤ p ∧ p < I 5 s.toNatClampNeg) → I 8 (tIx a s l p).toNatClampNeg = 0 → Q (some (.int (0))) (z, N, I, L, R)) (h2 : ((0 ≤ a ∧ a < I 6 2) ∧ ((0 ≤ s ∧ s < I 3 2) ∧ 0 ≤ l ∧ l < I 4 s.toNatClampNeg) ∧ 0 ≤ p ∧ p < I 5 s.toNatClampNeg) → ¬ I 8 (tIx a s l p).toNatClampNeg = 0 → Q (some (.int 1)) (z, N, q2 I 8 (tIx a s l p).toNatClampNeg 0, L, R)) : qWP (d + 5) 125 [.ref 2, .int a, .int s, .int l, .int p] (z, N, I, L, R) Q := by
  refine qWP_of m_X11_forget rfl rfl [(0, .ref 2), (1, .int a), (2, .int s), (3, .int l), (4, .int p)] rfl ?_
  refine qJ_run (qWP_mono _) [] 400 ?_
  refine ⟨⟨Nat.le_refl _, Nat.le_refl _⟩, ?_⟩
  refine c_X5_hasHand hn fun v1 hv1 => ?_
  refine ⟨fun (c1 : v1 = 0) => ?_, fun (c1 : ¬ v1 = 0) => ?_⟩
  · change Q (some (.int (-2))) (z, N, I, L, R)
    exact h0 (by clear h0 h1 h2; grind)
  · refine ⟨⟨Nat.le_refl _, Nat.le_refl _⟩, ?_⟩
    refine c_X6_hasPlace hs fun v2 hv2 => ?_
    refine ⟨fun (c2 : ¬ v2 = 0) => ?_, fun (c2 : v2 = 0) => ?_⟩
    · refine ⟨⟨Nat.le_refl _, Nat.le_refl _⟩, ?_⟩
      have hpl : (0 ≤ a ∧ a < I 6 2) ∧ ((0 ≤ s ∧ s < I 3 2) ∧ 0 ≤ l ∧ l < I 4 s.toNatClampNeg) ∧ 0 ≤ p ∧ p < I 5 s.toNatClampNeg := by clear h0 h1 h2; grind
      have hp : inP s l p := by have := hl s hpl.2.1.1.1 hpl.2.1.1.2; unfold inP; clear h0 h1 h2; grind
      have ha : 0 ≤ a ∧ a < 6 := by clear h0 h1 h2; grind
      refine c_X5_at (d := d + 2) fun v3 hv3 => ?_
      replace hv3 : v3 = tAt (I 8) a s l p := hv3
      rw [ix_at ha hp] at hv3
      subst hv3
      refine ⟨fun (c3 : ¬ (I 8 (tIx a s l p).toNatClampNeg) = 0) => ?_, fun (c3 : (I 8 (tIx a s l p).toNatClampNeg) = 0) => ?_⟩
      · refine ⟨⟨Nat.le_refl _, Nat.le_refl _⟩, ?_⟩
        refine c_X5_put (d := d + 2) (fun _ _ => ?_) (fun e => absurd (ix_rng ha hp) e)
        change Q (some (.int 1)) (z, N, q2 I 8 ((tIx a s l p).toNatClampNeg) 0, L, R)
        exact h2 hpl (by assumption)
      · change Q (some (.int 0)) (z, N, I, L, R)
        exact h1 hpl (by assumption)
    · change Q (some (.int (-2))) (z, N, I, L, R)
      exact h0 (by clear h0 h1 h2; grind)
theorem c_X12_forget {d z : Nat} {N : Nat → Nat} {I : Nat → Nat → Int32} {L : Nat → Nat → Int64} {R : Nat → Nat → Option Nat} {Q : qP} {a : Int32} {s : Int32} {l : Int32} {p : Int32} (hs : 0 ≤ I 65 0 ∧ I 65 0 ≤ 12) (hn : 0 ≤ I 65 1 ∧ I 65 1 ≤ 6) (hl : ∀ x : Int32, 0 ≤ x → x < I 65 0 → I 66 x.toNatClampNeg ≤ 4 ∧ I 67 x.toNatClampNeg ≤ 24) (h0 : ¬ ((0 ≤ a ∧ a < I 65 1) ∧ ((0 ≤ s ∧ s < I 65 0) ∧ 0 ≤ l ∧ l < I 66 s.toNatClampNeg) ∧ 0 ≤ p ∧ p < I 67 s.toNatClampNeg) → Q (some (.int (-2))) (z, N, I, L, R)) (h1 : ((0 ≤ a ∧ a < I 65 1) ∧ ((0 ≤ s ∧ s < I 65 0) ∧ 0 ≤ l ∧ l < I 66 s.toNatClampNeg) ∧ 0 ≤ p ∧ p < I 67 s.toNatClampNeg) → I 70 (tIx a s l p).toNatClampNeg ≤ 0 → Q (some (.int 0)) (z, N, q2 I 70 (tIx a s l p).toNatClampNeg 0, L, R)) (h2 : ((0 ≤ a ∧ a < I 65 1) ∧ ((0 ≤ s ∧ s < I 65 0) ∧ 0 ≤ l ∧ l < I 66 s.toNatClampNeg) ∧ 0 ≤ p ∧ p < I 67 s.toNatClampNeg) → 0 < I 70 (tIx a s l p).toNatClampNeg → Q (some (.int 1)) (z, N, q2 I 70 (tIx a s l p).toNatClampNeg 0, L, R)) : qWP (d + 5) 176 [.ref 65, .int a, .int s, .int l, .int p] (z, N, I, L, R) Q := by
  refine qWP_of m_X12_forget rfl rfl [(0, .ref 65), (1, .int a), (2, .int s), (3, .int l), (4, .int p)] rfl ?_
  refine qJ_run (qWP_mono _) [] 400 ?_
  refine ⟨⟨Nat.le_refl _, Nat.le_refl _⟩, ?_⟩
  refine c_X12_isIn fun v1 hv1 => ?_
  refine ⟨fun (c1 : v1 = 0) => ?_, fun (c1 : ¬ v1 = 0) => ?_⟩
  · change Q (some (.int (-2))) (z, N, I, L, R)
    exact h0 (by clear h0 h1 h2; grind)
  · refine ⟨⟨Nat.le_refl _, Nat.le_refl _⟩, ?_⟩
    refine c_X12_isPlace hs fun v2 hv2 => ?_
    refine ⟨fun (c2 : ¬ v2 = 0) => ?_, fun (c2 : v2 = 0) => ?_⟩
    · refine ⟨⟨Nat.le_refl _, Nat.le_refl _⟩, ?_⟩
      have hpl : (0 ≤ a ∧ a < I 65 1) ∧ ((0 ≤ s ∧ s < I 65 0) ∧ 0 ≤ l ∧ l < I 66 s.toNatClampNeg) ∧ 0 ≤ p ∧ p < I 67 s.toNatClampNeg := by clear h0 h1 h2; grind
      have hp : inP s l p := by have := hl s hpl.2.1.1.1 hpl.2.1.1.2; unfold inP; clear h0 h1 h2; grind
      have ha : 0 ≤ a ∧ a < 6 := by clear h0 h1 h2; grind
      refine c_X12_at fun v3 hv3 => ?_
      replace hv3 : v3 = tIx a s l p := hv3
      subst hv3
      refine ⟨?_, ?_⟩
      · exact vb (N := 6912) 6912 (by decide) (ix_rng ha hp).1 (ix_rng ha hp).2
      refine ⟨fun (c3 : (I 70 ((tIx a s l p).toNatClampNeg)) ≤ 0) => ?_, fun (c3 : ¬ (I 70 ((tIx a s l p).toNatClampNeg)) ≤ 0) => ?_⟩
      · refine ⟨?_, ?_⟩
        · exact vb (N := 6912) 6912 (by decide) (ix_rng ha hp).1 (ix_rng ha hp).2
        change Q (some (.int 0)) (z, N, q2 I 70 ((tIx a s l p).toNatClampNeg) 0, L, R)
        exact h1 hpl (by assumption)
      · refine ⟨?_, ?_⟩
        · exact vb (N := 6912) 6912 (by decide) (ix_rng ha hp).1 (ix_rng ha hp).2
        change Q (some (.int 1)) (z, N, q2 I 70 ((tIx a s l p).toNatClampNeg) 0, L, R)
        exact h2 hpl (by grind)
    · change Q (some (.int (-2))) (z, N, I, L, R)
      exact h0 (by clear h0 h1 h2; grind)
theorem op_forget {M : qM} (hI : qInv M) (a : Int32) (s : Int32) (l : Int32) (p : Int32) : qOp 125 176 [.int a, .int s, .int l, .int p] M := by
  obtain ⟨z, N, I, L, R⟩ := M
  obtain ⟨hst, hSt, hHa, hTo, hTp, hEd, hDa, hPe, hTr, hTx, hMk, hKA⟩ := hI
  dsimp only at hst hSt hHa hTo hTp hEd hDa hPe hTr hTx hMk hKA
  have hs : 0 ≤ I 3 2 ∧ I 3 2 ≤ 12 := ⟨hSt.2.1, hSt.2.2.1⟩
  have hn : 0 ≤ I 6 2 ∧ I 6 2 ≤ 6 := ⟨hHa.2.1, hHa.2.2.1⟩
  have hl : ∀ x : Int32, 0 ≤ x → x < I 3 2 → I 4 x.toNatClampNeg ≤ 4 ∧ I 5 x.toNatClampNeg ≤ 24 := fun x a b => ⟨(hSt.2.2.2 x a b).2.2.1, (hSt.2.2.2 x a b).2.2.2.2.2⟩
  have hs2 : 0 ≤ I 65 0 ∧ I 65 0 ≤ 12 := by rw [hSt.1]; exact hs
  have hl2 : ∀ x : Int32, 0 ≤ x → x < I 65 0 → I 66 x.toNatClampNeg ≤ 4 ∧ I 67 x.toNatClampNeg ≤ 24 := fun x a b => by
    rw [hSt.1] at b
    rw [(hSt.2.2.2 x a b).1, (hSt.2.2.2 x a b).2.2.2.1]
    exact hl x a b
  have hn2 : 0 ≤ I 65 1 ∧ I 65 1 ≤ 6 := by rw [hHa.1]; exact hn
  refine c_X11_forget hs hn hl (fun a0 => ?_) (fun a0 a1 => ?_) (fun a0 a1 => ?_)
  · refine ⟨_, rfl, ⟨rfl, rfl, hst⟩, ?_⟩
    refine c_X12_forget (by first | exact hs2 | (simp (decide := true) only [q2_ne, q2_r1, uI_at, uI_nj, qRow_ne, qRow_at]; exact hs2)) (by first | exact hn2 | (simp (decide := true) only [q2_ne, q2_r1, uI_at, uI_nj, qRow_ne, qRow_at]; exact hn2)) (by first | exact hl2 | (simp (decide := true) only [q2_ne, q2_r1, uI_at, uI_nj, qRow_ne, qRow_at]; exact hl2)) (fun b0 => ?_) (fun b0 b1 => ?_) (fun b0 b1 => ?_)
    · exact ⟨rfl, ⟨by first | rfl | (simp (decide := true) only [q2_ne, q2_r1, uI_at, uI_nj, qRow_ne, qRow_at]), rfl⟩, ⟨hst, (by first | exact hSt | (simp (decide := true) only [q2_ne, q2_r1, uI_at, uI_nj, qRow_ne, qRow_at]; exact hSt)), (by first | exact hHa | (simp (decide := true) only [q2_ne, q2_r1, uI_at, uI_nj, qRow_ne, qRow_at]; exact hHa)), (by first | exact hTo | (simp (decide := true) only [q2_ne, q2_r1, uI_at, uI_nj, qRow_ne, qRow_at]; exact hTo)), (by first | exact hTp | (simp (decide := true) only [q2_ne, q2_r1, uI_at, uI_nj, qRow_ne, qRow_at]; exact hTp)), (by first | exact hEd | (simp (decide := true) only [q2_ne, q2_r1, uI_at, uI_nj, qRow_ne, qRow_at]; exact hEd)), (by first | exact hDa | (simp (decide := true) only [q2_ne, q2_r1, uI_at, uI_nj, qRow_ne, qRow_at]; exact hDa)), (by first | exact hPe | (simp (decide := true) only [q2_ne, q2_r1, uI_at, uI_nj, qRow_ne, qRow_at]; exact hPe)), (by first | exact hTr | (simp (decide := true) only [q2_ne, q2_r1, uI_at, uI_nj, qRow_ne, qRow_at]; exact hTr)), (RTx_of hTx (by simp (decide := true) only [q2_ne, q2_r1, uI_at, uI_nj, qRow_ne, qRow_at]) (by simp (decide := true) only [q2_ne, q2_r1, uI_at, uI_nj, qRow_ne, qRow_at]) (by simp (decide := true) only [q2_ne, q2_r1, uI_at, uI_nj, qRow_ne, qRow_at]) (by simp (decide := true) only [q2_ne, q2_r1, uI_at, uI_nj, qRow_ne, qRow_at]) (by simp (decide := true) only [q2_ne, q2_r1, uI_at, uI_nj, qRow_ne, qRow_at]) (fun k hk => by (try dsimp only); repeat first | rfl | rw [q2_ne (by omega)] | rw [qRow_ne (by omega)]) (fun k hk => by (try dsimp only); repeat first | rfl | rw [q2_ne (by omega)] | rw [qRow_ne (by omega)])), (by first | exact hMk | (simp (decide := true) only [q2_ne, q2_r1, uI_at, uI_nj, qRow_ne, qRow_at]; exact hMk)), (by first | exact hKA | (simp (decide := true) only [q2_ne, q2_r1, uI_at, uI_nj, qRow_ne, qRow_at]; exact hKA))⟩⟩
    · exfalso; (try simp (decide := true) only [q2_ne, q2_r1, uI_at, uI_nj, qRow_ne, qRow_at] at *); (try simp only [place_eq hSt] at *); (try simp only [line_eq hSt] at *); (try rw [hSt.1] at *); (try rw [hHa.1] at *); clear hst hSt hHa hTo hTp hEd hDa hPe hTr hTx hMk hKA hl hl2; grind
    · exfalso; (try simp (decide := true) only [q2_ne, q2_r1, uI_at, uI_nj, qRow_ne, qRow_at] at *); (try simp only [place_eq hSt] at *); (try simp only [line_eq hSt] at *); (try rw [hSt.1] at *); (try rw [hHa.1] at *); clear hst hSt hHa hTo hTp hEd hDa hPe hTr hTx hMk hKA hl hl2; grind
  · have hpl := a0
    have hp : inP s l p := by have := hl s hpl.2.1.1.1 hpl.2.1.1.2; unfold inP; clear hst hSt hHa hTo hTp hEd hDa hPe hTr hTx hMk hKA; grind
    have ha : 0 ≤ a ∧ a < 6 := by clear hst hSt hHa hTo hTp hEd hDa hPe hTr hTx hMk hKA; grind
    obtain ⟨hz, hz0, _⟩ := rd1_un (hTo _ (ix_lt ha hp))
    refine ⟨_, rfl, ⟨rfl, rfl, hst⟩, ?_⟩
    refine c_X12_forget (by first | exact hs2 | (simp (decide := true) only [q2_ne, q2_r1, uI_at, uI_nj, qRow_ne, qRow_at]; exact hs2)) (by first | exact hn2 | (simp (decide := true) only [q2_ne, q2_r1, uI_at, uI_nj, qRow_ne, qRow_at]; exact hn2)) (by first | exact hl2 | (simp (decide := true) only [q2_ne, q2_r1, uI_at, uI_nj, qRow_ne, qRow_at]; exact hl2)) (fun b0 => ?_) (fun b0 b1 => ?_) (fun b0 b1 => ?_)
    · exfalso; (try simp (decide := true) only [q2_ne, q2_r1, uI_at, uI_nj, qRow_ne, qRow_at] at *); (try simp only [place_eq hSt] at *); (try simp only [line_eq hSt] at *); (try rw [hSt.1] at *); (try rw [hHa.1] at *); clear hst hSt hHa hTo hTp hEd hDa hPe hTr hTx hMk hKA hl hl2; grind
    · exact ⟨rfl, ⟨by first | rfl | (simp (decide := true) only [q2_ne, q2_r1, uI_at, uI_nj, qRow_ne, qRow_at]), rfl⟩, ⟨hst, (by first | exact hSt | (simp (decide := true) only [q2_ne, q2_r1, uI_at, uI_nj, qRow_ne, qRow_at]; exact hSt)), (by first | exact hHa | (simp (decide := true) only [q2_ne, q2_r1, uI_at, uI_nj, qRow_ne, qRow_at]; exact hHa)), (by simp (decide := true) only [q2_ne, q2_r1, uI_at, uI_nj, qRow_ne, qRow_at]; exact RTo_f0 hTo a1), (by first | exact hTp | (simp (decide := true) only [q2_ne, q2_r1, uI_at, uI_nj, qRow_ne, qRow_at]; exact hTp)), (by first | exact hEd | (simp (decide := true) only [q2_ne, q2_r1, uI_at, uI_nj, qRow_ne, qRow_at]; exact hEd)), (by first | exact hDa | (simp (decide := true) only [q2_ne, q2_r1, uI_at, uI_nj, qRow_ne, qRow_at]; exact hDa)), (by first | exact hPe | (simp (decide := true) only [q2_ne, q2_r1, uI_at, uI_nj, qRow_ne, qRow_at]; exact hPe)), (by first | exact hTr | (simp (decide := true) only [q2_ne, q2_r1, uI_at, uI_nj, qRow_ne, qRow_at]; exact hTr)), (RTx_of hTx (by simp (decide := true) only [q2_ne, q2_r1, uI_at, uI_nj, qRow_ne, qRow_at]) (by simp (decide := true) only [q2_ne, q2_r1, uI_at, uI_nj, qRow_ne, qRow_at]) (by simp (decide := true) only [q2_ne, q2_r1, uI_at, uI_nj, qRow_ne, qRow_at]) (by simp (decide := true) only [q2_ne, q2_r1, uI_at, uI_nj, qRow_ne, qRow_at]) (by simp (decide := true) only [q2_ne, q2_r1, uI_at, uI_nj, qRow_ne, qRow_at]) (fun k hk => by (try dsimp only); repeat first | rfl | rw [q2_ne (by omega)] | rw [qRow_ne (by omega)]) (fun k hk => by (try dsimp only); repeat first | rfl | rw [q2_ne (by omega)] | rw [qRow_ne (by omega)])), (by first | exact hMk | (simp (decide := true) only [q2_ne, q2_r1, uI_at, uI_nj, qRow_ne, qRow_at]; exact hMk)), (by first | exact hKA | (simp (decide := true) only [q2_ne, q2_r1, uI_at, uI_nj, qRow_ne, qRow_at]; exact hKA))⟩⟩
    · exfalso; (try simp (decide := true) only [q2_ne, q2_r1, uI_at, uI_nj, qRow_ne, qRow_at] at *); (try simp only [place_eq hSt] at *); (try simp only [line_eq hSt] at *); (try rw [hSt.1] at *); (try rw [hHa.1] at *); clear hst hSt hHa hTo hTp hEd hDa hPe hTr hTx hMk hKA hl hl2; grind
  · have hpl := a0
    have hp : inP s l p := by have := hl s hpl.2.1.1.1 hpl.2.1.1.2; unfold inP; clear hst hSt hHa hTo hTp hEd hDa hPe hTr hTx hMk hKA; grind
    have ha : 0 ≤ a ∧ a < 6 := by clear hst hSt hHa hTo hTp hEd hDa hPe hTr hTx hMk hKA; grind
    obtain ⟨hz, hz0, _⟩ := rd1_un (hTo _ (ix_lt ha hp))
    refine ⟨_, rfl, ⟨by simp (decide := true) only [q2_ne, q2_r1, uI_at, uI_nj, qRow_ne, qRow_at], rfl, hst⟩, ?_⟩
    refine c_X12_forget (by first | exact hs2 | (simp (decide := true) only [q2_ne, q2_r1, uI_at, uI_nj, qRow_ne, qRow_at]; exact hs2)) (by first | exact hn2 | (simp (decide := true) only [q2_ne, q2_r1, uI_at, uI_nj, qRow_ne, qRow_at]; exact hn2)) (by first | exact hl2 | (simp (decide := true) only [q2_ne, q2_r1, uI_at, uI_nj, qRow_ne, qRow_at]; exact hl2)) (fun b0 => ?_) (fun b0 b1 => ?_) (fun b0 b1 => ?_)
    · exfalso; (try simp (decide := true) only [q2_ne, q2_r1, uI_at, uI_nj, qRow_ne, qRow_at] at *); (try simp only [place_eq hSt] at *); (try simp only [line_eq hSt] at *); (try rw [hSt.1] at *); (try rw [hHa.1] at *); clear hst hSt hHa hTo hTp hEd hDa hPe hTr hTx hMk hKA hl hl2; grind
    · exfalso; (try simp (decide := true) only [q2_ne, q2_r1, uI_at, uI_nj, qRow_ne, qRow_at] at *); (try simp only [place_eq hSt] at *); (try simp only [line_eq hSt] at *); (try rw [hSt.1] at *); (try rw [hHa.1] at *); clear hst hSt hHa hTo hTp hEd hDa hPe hTr hTx hMk hKA hl hl2; grind
    · exact ⟨rfl, ⟨by first | rfl | (simp (decide := true) only [q2_ne, q2_r1, uI_at, uI_nj, qRow_ne, qRow_at]), rfl⟩, ⟨hst, (by first | exact hSt | (simp (decide := true) only [q2_ne, q2_r1, uI_at, uI_nj, qRow_ne, qRow_at]; exact hSt)), (by first | exact hHa | (simp (decide := true) only [q2_ne, q2_r1, uI_at, uI_nj, qRow_ne, qRow_at]; exact hHa)), (by simp (decide := true) only [q2_ne, q2_r1, uI_at, uI_nj, qRow_ne, qRow_at]; exact RTo_f1 hTo), (by first | exact hTp | (simp (decide := true) only [q2_ne, q2_r1, uI_at, uI_nj, qRow_ne, qRow_at]; exact hTp)), (by first | exact hEd | (simp (decide := true) only [q2_ne, q2_r1, uI_at, uI_nj, qRow_ne, qRow_at]; exact hEd)), (by first | exact hDa | (simp (decide := true) only [q2_ne, q2_r1, uI_at, uI_nj, qRow_ne, qRow_at]; exact hDa)), (by first | exact hPe | (simp (decide := true) only [q2_ne, q2_r1, uI_at, uI_nj, qRow_ne, qRow_at]; exact hPe)), (by first | exact hTr | (simp (decide := true) only [q2_ne, q2_r1, uI_at, uI_nj, qRow_ne, qRow_at]; exact hTr)), (RTx_of hTx (by simp (decide := true) only [q2_ne, q2_r1, uI_at, uI_nj, qRow_ne, qRow_at]) (by simp (decide := true) only [q2_ne, q2_r1, uI_at, uI_nj, qRow_ne, qRow_at]) (by simp (decide := true) only [q2_ne, q2_r1, uI_at, uI_nj, qRow_ne, qRow_at]) (by simp (decide := true) only [q2_ne, q2_r1, uI_at, uI_nj, qRow_ne, qRow_at]) (by simp (decide := true) only [q2_ne, q2_r1, uI_at, uI_nj, qRow_ne, qRow_at]) (fun k hk => by (try dsimp only); repeat first | rfl | rw [q2_ne (by omega)] | rw [qRow_ne (by omega)]) (fun k hk => by (try dsimp only); repeat first | rfl | rw [q2_ne (by omega)] | rw [qRow_ne (by omega)])), (by first | exact hMk | (simp (decide := true) only [q2_ne, q2_r1, uI_at, uI_nj, qRow_ne, qRow_at]; exact hMk)), (by first | exact hKA | (simp (decide := true) only [q2_ne, q2_r1, uI_at, uI_nj, qRow_ne, qRow_at]; exact hKA))⟩⟩

theorem c_X11_taken {d z : Nat} {N : Nat → Nat} {I : Nat → Nat → Int32} {L : Nat → Nat → Int64} {R : Nat → Nat → Option Nat} {Q : qP} {a : Int32} {s : Int32} {l : Int32} {p : Int32} {k : Int32} (hs : 0 ≤ I 3 2 ∧ I 3 2 ≤ 12) (hn : 0 ≤ I 6 2 ∧ I 6 2 ≤ 6) (hl : ∀ x : Int32, 0 ≤ x → x < I 3 2 → I 4 x.toNatClampNeg ≤ 4 ∧ I 5 x.toNatClampNeg ≤ 24) (hTo : RTo (I 8) (I 70) (I 71)) (hKA : I 1 = qKA) (h0 : ¬ ((0 ≤ a ∧ a < I 6 2) ∧ (((0 ≤ s ∧ s < I 3 2) ∧ 0 ≤ l ∧ l < I 4 s.toNatClampNeg) ∧ 0 ≤ p ∧ p < I 5 s.toNatClampNeg) ∧ 0 ≤ k ∧ k < 6) → Q (some (.int (-2))) (z, N, I, L, R)) (h1 : ((0 ≤ a ∧ a < I 6 2) ∧ (((0 ≤ s ∧ s < I 3 2) ∧ 0 ≤ l ∧ l < I 4 s.toNatClampNeg) ∧ 0 ≤ p ∧ p < I 5 s.toNatClampNeg) ∧ 0 ≤ k ∧ k < 6) → I 8 (tIx a s l p).toNatClampNeg = 0 → Q (some (.int (-11))) (z, N, I, L, R)) (h2 : ((0 ≤ a ∧ a < I 6 2) ∧ (((0 ≤ s ∧ s < I 3 2) ∧ 0 ≤ l ∧ l < I 4 s.toNatClampNeg) ∧ 0 ≤ p ∧ p < I 5 s.toNatClampNeg) ∧ 0 ≤ k ∧ k < 6) → ¬ I 8 (tIx a s l p).toNatClampNeg = 0 → (k = fKd (I 8 (tIx a s l p).toNatClampNeg) ∨ k = 0 ∨ (fKd (I 8 (tIx a s l p).toNatClampNeg) = 4 ∧ k = 3)) → Q (some (.int (fMy (I 8 (tIx a s l p).toNatClampNeg)))) (z, N, I, L, R)) (h3 : ((0 ≤ a ∧ a < I 6 2) ∧ (((0 ≤ s ∧ s < I 3 2) ∧ 0 ≤ l ∧ l < I 4 s.toNatClampNeg) ∧ 0 ≤ p ∧ p < I 5 s.toNatClampNeg) ∧ 0 ≤ k ∧ k < 6) → ¬ I 8 (tIx a s l p).toNatClampNeg = 0 → ¬ (k = fKd (I 8 (tIx a s l p).toNatClampNeg) ∨ k = 0 ∨ (fKd (I 8 (tIx a s l p).toNatClampNeg) = 4 ∧ k = 3)) → Q (some (.int (-13))) (z, N, I, L, R)) : qWP (d + 5) 165 [.ref 2, .int a, .int s, .int l, .int p, .int k] (z, N, I, L, R) Q := by
  refine qWP_of m_X11_taken rfl rfl [(0, .ref 2), (1, .int a), (2, .int s), (3, .int l), (4, .int p), (5, .int k)] rfl ?_
  refine qJ_run (qWP_mono _) [] 400 ?_
  refine ⟨⟨Nat.le_refl _, Nat.le_refl _⟩, ?_⟩
  refine c_X5_hasHand hn fun v1 hv1 => ?_
  refine ⟨fun (c1 : v1 = 0) => ?_, fun (c1 : ¬ v1 = 0) => ?_⟩
  · refine ⟨fun (c2 : 0 = 0) => ?_, fun (c2 : ¬ 0 = 0) => ?_⟩
    · change Q (some (.int (-2))) (z, N, I, L, R)
      exact h0 (by clear h0 h1 h2 h3; grind)
    · refine ⟨fun (c3 : k < 0) => ?_, fun (c3 : ¬ k < 0) => ?_⟩
      · change Q (some (.int (-2))) (z, N, I, L, R)
        exact h0 (by clear h0 h1 h2 h3; grind)
      · refine ⟨fun (c4 : k < 6) => ?_, fun (c4 : ¬ k < 6) => ?_⟩
        · refine ⟨⟨Nat.le_refl _, Nat.le_refl _⟩, ?_⟩
          have hpl : (0 ≤ a ∧ a < I 6 2) ∧ ((0 ≤ s ∧ s < I 3 2) ∧ 0 ≤ l ∧ l < I 4 s.toNatClampNeg) ∧ 0 ≤ p ∧ p < I 5 s.toNatClampNeg := by clear h0 h1 h2 h3; grind
          have hp : inP s l p := by have := hl s hpl.2.1.1.1 hpl.2.1.1.2; unfold inP; clear h0 h1 h2 h3; grind
          have ha : 0 ≤ a ∧ a < 6 := by clear h0 h1 h2 h3; grind
          refine c_X5_at (d := d + 2) fun v2 hv2 => ?_
          replace hv2 : v2 = tAt (I 8) a s l p := hv2
          rw [ix_at ha hp] at hv2
          subst hv2
          refine ⟨fun (c5 : ¬ (I 8 (tIx a s l p).toNatClampNeg) = 0) => ?_, fun (c5 : (I 8 (tIx a s l p).toNatClampNeg) = 0) => ?_⟩
          · refine ⟨⟨Nat.le_refl _, Nat.le_refl _⟩, ?_⟩
            refine c_X5_kindOf (d := d + 3) fun v3 hv3 => ?_
            subst hv3
            have hkr : 0 ≤ fKd (I 8 (tIx a s l p).toNatClampNeg) ∧ fKd (I 8 (tIx a s l p).toNatClampNeg) ≤ 5 := by
              have h9 := hTo _ (ix_lt ha hp)
              have h8 := rd1_un h9
              rw [(h8.2.2 (by assumption)).1]
              rcases h9 with h9 | h9
              · exact absurd h9.1 (by assumption)
              · clear h0 h1 h2 h3; grind
            refine ⟨⟨Nat.le_refl _, Nat.le_refl _⟩, ?_⟩
            refine c_X5_isUnder (d := d + 2) hKA hkr fun v4 hv4 => ?_
            refine ⟨fun (c6 : v4 = 0) => ?_, fun (c6 : ¬ v4 = 0) => ?_⟩
            · change Q (some (.int (-13))) (z, N, I, L, R)
              exact h3 (by clear h0 h1 h2 h3; grind) (by assumption) (by clear h0 h1 h2 h3; grind)
            · refine ⟨⟨Nat.le_refl _, Nat.le_refl _⟩, ?_⟩
              refine c_X5_mayOf (d := d + 3) fun v5 hv5 => ?_
              change Q (some (.int v5)) (z, N, I, L, R)
              subst hv5
              exact h2 (by clear h0 h1 h2 h3; grind) (by assumption) (by clear h0 h1 h2 h3; grind)
          · change Q (some (.int (-11))) (z, N, I, L, R)
            exact h1 (by clear h0 h1 h2 h3; grind) (by assumption)
        · change Q (some (.int (-2))) (z, N, I, L, R)
          exact h0 (by clear h0 h1 h2 h3; grind)
  · refine ⟨⟨Nat.le_refl _, Nat.le_refl _⟩, ?_⟩
    refine c_X6_hasPlace hs fun v6 hv6 => ?_
    refine ⟨fun (c7 : v6 = 0) => ?_, fun (c7 : ¬ v6 = 0) => ?_⟩
    · refine ⟨fun (c8 : 0 = 0) => ?_, fun (c8 : ¬ 0 = 0) => ?_⟩
      · change Q (some (.int (-2))) (z, N, I, L, R)
        exact h0 (by clear h0 h1 h2 h3; grind)
      · refine ⟨fun (c9 : k < 0) => ?_, fun (c9 : ¬ k < 0) => ?_⟩
        · change Q (some (.int (-2))) (z, N, I, L, R)
          exact h0 (by clear h0 h1 h2 h3; grind)
        · refine ⟨fun (c10 : k < 6) => ?_, fun (c10 : ¬ k < 6) => ?_⟩
          · refine ⟨⟨Nat.le_refl _, Nat.le_refl _⟩, ?_⟩
            have hpl : (0 ≤ a ∧ a < I 6 2) ∧ ((0 ≤ s ∧ s < I 3 2) ∧ 0 ≤ l ∧ l < I 4 s.toNatClampNeg) ∧ 0 ≤ p ∧ p < I 5 s.toNatClampNeg := by clear h0 h1 h2 h3; grind
            have hp : inP s l p := by have := hl s hpl.2.1.1.1 hpl.2.1.1.2; unfold inP; clear h0 h1 h2 h3; grind
            have ha : 0 ≤ a ∧ a < 6 := by clear h0 h1 h2 h3; grind
            refine c_X5_at (d := d + 2) fun v7 hv7 => ?_
            replace hv7 : v7 = tAt (I 8) a s l p := hv7
            rw [ix_at ha hp] at hv7
            subst hv7
            refine ⟨fun (c11 : ¬ (I 8 (tIx a s l p).toNatClampNeg) = 0) => ?_, fun (c11 : (I 8 (tIx a s l p).toNatClampNeg) = 0) => ?_⟩
            · refine ⟨⟨Nat.le_refl _, Nat.le_refl _⟩, ?_⟩
              refine c_X5_kindOf (d := d + 3) fun v8 hv8 => ?_
              subst hv8
              have hkr : 0 ≤ fKd (I 8 (tIx a s l p).toNatClampNeg) ∧ fKd (I 8 (tIx a s l p).toNatClampNeg) ≤ 5 := by
                have h9 := hTo _ (ix_lt ha hp)
                have h8 := rd1_un h9
                rw [(h8.2.2 (by assumption)).1]
                rcases h9 with h9 | h9
                · exact absurd h9.1 (by assumption)
                · clear h0 h1 h2 h3; grind
              refine ⟨⟨Nat.le_refl _, Nat.le_refl _⟩, ?_⟩
              refine c_X5_isUnder (d := d + 2) hKA hkr fun v9 hv9 => ?_
              refine ⟨fun (c12 : v9 = 0) => ?_, fun (c12 : ¬ v9 = 0) => ?_⟩
              · change Q (some (.int (-13))) (z, N, I, L, R)
                exact h3 (by clear h0 h1 h2 h3; grind) (by assumption) (by clear h0 h1 h2 h3; grind)
              · refine ⟨⟨Nat.le_refl _, Nat.le_refl _⟩, ?_⟩
                refine c_X5_mayOf (d := d + 3) fun v10 hv10 => ?_
                change Q (some (.int v10)) (z, N, I, L, R)
                subst hv10
                exact h2 (by clear h0 h1 h2 h3; grind) (by assumption) (by clear h0 h1 h2 h3; grind)
            · change Q (some (.int (-11))) (z, N, I, L, R)
              exact h1 (by clear h0 h1 h2 h3; grind) (by assumption)
          · change Q (some (.int (-2))) (z, N, I, L, R)
            exact h0 (by clear h0 h1 h2 h3; grind)
    · refine ⟨fun (c13 : 1 = 0) => ?_, fun (c13 : ¬ 1 = 0) => ?_⟩
      · change Q (some (.int (-2))) (z, N, I, L, R)
        exact h0 (by clear h0 h1 h2 h3; grind)
      · refine ⟨fun (c14 : k < 0) => ?_, fun (c14 : ¬ k < 0) => ?_⟩
        · change Q (some (.int (-2))) (z, N, I, L, R)
          exact h0 (by clear h0 h1 h2 h3; grind)
        · refine ⟨fun (c15 : k < 6) => ?_, fun (c15 : ¬ k < 6) => ?_⟩
          · refine ⟨⟨Nat.le_refl _, Nat.le_refl _⟩, ?_⟩
            have hpl : (0 ≤ a ∧ a < I 6 2) ∧ ((0 ≤ s ∧ s < I 3 2) ∧ 0 ≤ l ∧ l < I 4 s.toNatClampNeg) ∧ 0 ≤ p ∧ p < I 5 s.toNatClampNeg := by clear h0 h1 h2 h3; grind
            have hp : inP s l p := by have := hl s hpl.2.1.1.1 hpl.2.1.1.2; unfold inP; clear h0 h1 h2 h3; grind
            have ha : 0 ≤ a ∧ a < 6 := by clear h0 h1 h2 h3; grind
            refine c_X5_at (d := d + 2) fun v11 hv11 => ?_
            replace hv11 : v11 = tAt (I 8) a s l p := hv11
            rw [ix_at ha hp] at hv11
            subst hv11
            refine ⟨fun (c16 : ¬ (I 8 (tIx a s l p).toNatClampNeg) = 0) => ?_, fun (c16 : (I 8 (tIx a s l p).toNatClampNeg) = 0) => ?_⟩
            · refine ⟨⟨Nat.le_refl _, Nat.le_refl _⟩, ?_⟩
              refine c_X5_kindOf (d := d + 3) fun v12 hv12 => ?_
              subst hv12
              have hkr : 0 ≤ fKd (I 8 (tIx a s l p).toNatClampNeg) ∧ fKd (I 8 (tIx a s l p).toNatClampNeg) ≤ 5 := by
                have h9 := hTo _ (ix_lt ha hp)
                have h8 := rd1_un h9
                rw [(h8.2.2 (by assumption)).1]
                rcases h9 with h9 | h9
                · exact absurd h9.1 (by assumption)
                · clear h0 h1 h2 h3; grind
              refine ⟨⟨Nat.le_refl _, Nat.le_refl _⟩, ?_⟩
              refine c_X5_isUnder (d := d + 2) hKA hkr fun v13 hv13 => ?_
              refine ⟨fun (c17 : v13 = 0) => ?_, fun (c17 : ¬ v13 = 0) => ?_⟩
              · change Q (some (.int (-13))) (z, N, I, L, R)
                exact h3 (by clear h0 h1 h2 h3; grind) (by assumption) (by clear h0 h1 h2 h3; grind)
              · refine ⟨⟨Nat.le_refl _, Nat.le_refl _⟩, ?_⟩
                refine c_X5_mayOf (d := d + 3) fun v14 hv14 => ?_
                change Q (some (.int v14)) (z, N, I, L, R)
                subst hv14
                exact h2 (by clear h0 h1 h2 h3; grind) (by assumption) (by clear h0 h1 h2 h3; grind)
            · change Q (some (.int (-11))) (z, N, I, L, R)
              exact h1 (by clear h0 h1 h2 h3; grind) (by assumption)
          · change Q (some (.int (-2))) (z, N, I, L, R)
            exact h0 (by clear h0 h1 h2 h3; grind)
theorem c_X12_taken {d z : Nat} {N : Nat → Nat} {I : Nat → Nat → Int32} {L : Nat → Nat → Int64} {R : Nat → Nat → Option Nat} {Q : qP} {a : Int32} {s : Int32} {l : Int32} {p : Int32} {k : Int32} (hs : 0 ≤ I 65 0 ∧ I 65 0 ≤ 12) (hn : 0 ≤ I 65 1 ∧ I 65 1 ≤ 6) (hl : ∀ x : Int32, 0 ≤ x → x < I 65 0 → I 66 x.toNatClampNeg ≤ 4 ∧ I 67 x.toNatClampNeg ≤ 24) (hk0 : ∀ x : Nat, x < 6912 → 0 ≤ I 70 x ∧ I 70 x ≤ 6) (h0 : ¬ ((0 ≤ a ∧ a < I 65 1) ∧ (((0 ≤ s ∧ s < I 65 0) ∧ 0 ≤ l ∧ l < I 66 s.toNatClampNeg) ∧ 0 ≤ p ∧ p < I 67 s.toNatClampNeg) ∧ 0 ≤ k ∧ k < 6) → Q (some (.int (-2))) (z, N, I, L, R)) (h1 : ((0 ≤ a ∧ a < I 65 1) ∧ (((0 ≤ s ∧ s < I 65 0) ∧ 0 ≤ l ∧ l < I 66 s.toNatClampNeg) ∧ 0 ≤ p ∧ p < I 67 s.toNatClampNeg) ∧ 0 ≤ k ∧ k < 6) → I 70 (tIx a s l p).toNatClampNeg = 0 → Q (some (.int (-11))) (z, N, I, L, R)) (h2 : ((0 ≤ a ∧ a < I 65 1) ∧ (((0 ≤ s ∧ s < I 65 0) ∧ 0 ≤ l ∧ l < I 66 s.toNatClampNeg) ∧ 0 ≤ p ∧ p < I 67 s.toNatClampNeg) ∧ 0 ≤ k ∧ k < 6) → ¬ I 70 (tIx a s l p).toNatClampNeg = 0 → (k = I 70 (tIx a s l p).toNatClampNeg - 1 ∨ k = 0 ∨ (I 70 (tIx a s l p).toNatClampNeg - 1 = 4 ∧ k = 3)) → Q (some (.int (I 71 (tIx a s l p).toNatClampNeg))) (z, N, I, L, R)) (h3 : ((0 ≤ a ∧ a < I 65 1) ∧ (((0 ≤ s ∧ s < I 65 0) ∧ 0 ≤ l ∧ l < I 66 s.toNatClampNeg) ∧ 0 ≤ p ∧ p < I 67 s.toNatClampNeg) ∧ 0 ≤ k ∧ k < 6) → ¬ I 70 (tIx a s l p).toNatClampNeg = 0 → ¬ (k = I 70 (tIx a s l p).toNatClampNeg - 1 ∨ k = 0 ∨ (I 70 (tIx a s l p).toNatClampNeg - 1 = 4 ∧ k = 3)) → Q (some (.int (-13))) (z, N, I, L, R)) : qWP (d + 5) 245 [.ref 65, .int a, .int s, .int l, .int p, .int k] (z, N, I, L, R) Q := by
  refine qWP_of m_X12_taken rfl rfl [(0, .ref 65), (1, .int a), (2, .int s), (3, .int l), (4, .int p), (5, .int k)] rfl ?_
  refine qJ_run (qWP_mono _) [] 400 ?_
  refine ⟨⟨Nat.le_refl _, Nat.le_refl _⟩, ?_⟩
  refine c_X12_isIn fun v1 hv1 => ?_
  refine ⟨fun (c1 : v1 = 0) => ?_, fun (c1 : ¬ v1 = 0) => ?_⟩
  · change Q (some (.int (-2))) (z, N, I, L, R)
    exact h0 (by clear h0 h1 h2 h3; grind)
  · refine ⟨⟨Nat.le_refl _, Nat.le_refl _⟩, ?_⟩
    refine c_X12_isPlace hs fun v2 hv2 => ?_
    refine ⟨fun (c2 : v2 = 0) => ?_, fun (c2 : ¬ v2 = 0) => ?_⟩
    · change Q (some (.int (-2))) (z, N, I, L, R)
      exact h0 (by clear h0 h1 h2 h3; grind)
    · refine ⟨⟨Nat.le_refl _, Nat.le_refl _⟩, ?_⟩
      refine c_X12_isIn fun v3 hv3 => ?_
      refine ⟨fun (c3 : ¬ v3 = 0) => ?_, fun (c3 : v3 = 0) => ?_⟩
      · refine ⟨⟨Nat.le_refl _, Nat.le_refl _⟩, ?_⟩
        have hpl : (0 ≤ a ∧ a < I 65 1) ∧ ((0 ≤ s ∧ s < I 65 0) ∧ 0 ≤ l ∧ l < I 66 s.toNatClampNeg) ∧ 0 ≤ p ∧ p < I 67 s.toNatClampNeg := by clear h0 h1 h2 h3; grind
        have hp : inP s l p := by have := hl s hpl.2.1.1.1 hpl.2.1.1.2; unfold inP; clear h0 h1 h2 h3; grind
        have ha : 0 ≤ a ∧ a < 6 := by clear h0 h1 h2 h3; grind
        refine c_X12_at fun v4 hv4 => ?_
        replace hv4 : v4 = tIx a s l p := hv4
        subst hv4
        refine ⟨?_, ?_⟩
        · exact vb (N := 6912) 6912 (by decide) (ix_rng ha hp).1 (ix_rng ha hp).2
        refine ⟨fun (c4 : 0 ≤ ((I 70 ((tIx a s l p).toNatClampNeg)) - 1)) => ?_, fun (c4 : ¬ 0 ≤ ((I 70 ((tIx a s l p).toNatClampNeg)) - 1)) => ?_⟩
        · refine ⟨fun (c5 : k = 0) => ?_, fun (c5 : ¬ k = 0) => ?_⟩
          · refine ⟨⟨Nat.le_refl _, Nat.le_refl _⟩, ?_⟩
            refine c_X12_at fun v5 hv5 => ?_
            replace hv5 : v5 = tIx a s l p := hv5
            subst hv5
            refine ⟨?_, ?_⟩
            · exact vb (N := 6912) 6912 (by decide) (ix_rng ha hp).1 (ix_rng ha hp).2
            change Q (some (.int (I 71 ((tIx a s l p).toNatClampNeg)))) (z, N, I, L, R)
            exact h2 (by clear h0 h1 h2 h3; grind) (by clear h0 h1 h2 h3; grind) (by clear h0 h1 h2 h3; grind)
          · refine ⟨fun (c6 : k = ((I 70 ((tIx a s l p).toNatClampNeg)) - 1)) => ?_, fun (c6 : ¬ k = ((I 70 ((tIx a s l p).toNatClampNeg)) - 1)) => ?_⟩
            · refine ⟨⟨Nat.le_refl _, Nat.le_refl _⟩, ?_⟩
              refine c_X12_at fun v6 hv6 => ?_
              replace hv6 : v6 = tIx a s l p := hv6
              subst hv6
              refine ⟨?_, ?_⟩
              · exact vb (N := 6912) 6912 (by decide) (ix_rng ha hp).1 (ix_rng ha hp).2
              change Q (some (.int (I 71 ((tIx a s l p).toNatClampNeg)))) (z, N, I, L, R)
              exact h2 (by clear h0 h1 h2 h3; grind) (by clear h0 h1 h2 h3; grind) (by clear h0 h1 h2 h3; grind)
            · refine ⟨fun (c7 : ¬ k = 3) => ?_, fun (c7 : k = 3) => ?_⟩
              · change Q (some (.int (-13))) (z, N, I, L, R)
                exact h3 (by clear h0 h1 h2 h3; grind) (by clear h0 h1 h2 h3; grind) (by clear h0 h1 h2 h3; grind)
              · refine ⟨fun (c8 : ¬ ((I 70 ((tIx a s l p).toNatClampNeg)) - 1) = 4) => ?_, fun (c8 : ((I 70 ((tIx a s l p).toNatClampNeg)) - 1) = 4) => ?_⟩
                · change Q (some (.int (-13))) (z, N, I, L, R)
                  exact h3 (by clear h0 h1 h2 h3; grind) (by clear h0 h1 h2 h3; grind) (by clear h0 h1 h2 h3; grind)
                · refine ⟨⟨Nat.le_refl _, Nat.le_refl _⟩, ?_⟩
                  refine c_X12_at fun v7 hv7 => ?_
                  replace hv7 : v7 = tIx a s l p := hv7
                  subst hv7
                  refine ⟨?_, ?_⟩
                  · exact vb (N := 6912) 6912 (by decide) (ix_rng ha hp).1 (ix_rng ha hp).2
                  change Q (some (.int (I 71 ((tIx a s l p).toNatClampNeg)))) (z, N, I, L, R)
                  exact h2 (by clear h0 h1 h2 h3; grind) (by clear h0 h1 h2 h3; grind) (by clear h0 h1 h2 h3; grind)
        · change Q (some (.int (-11))) (z, N, I, L, R)
          exact h1 (by clear h0 h1 h2 h3; grind) (by have := hk0 _ (ix_lt ha hp); clear h0 h1 h2 h3; grind)
      · change Q (some (.int (-2))) (z, N, I, L, R)
        exact h0 (by clear h0 h1 h2 h3; grind)
theorem op_taken {M : qM} (hI : qInv M) (a : Int32) (s : Int32) (l : Int32) (p : Int32) (k : Int32) : qOp 165 245 [.int a, .int s, .int l, .int p, .int k] M := by
  obtain ⟨z, N, I, L, R⟩ := M
  obtain ⟨hst, hSt, hHa, hTo, hTp, hEd, hDa, hPe, hTr, hTx, hMk, hKA⟩ := hI
  dsimp only at hst hSt hHa hTo hTp hEd hDa hPe hTr hTx hMk hKA
  have hs : 0 ≤ I 3 2 ∧ I 3 2 ≤ 12 := ⟨hSt.2.1, hSt.2.2.1⟩
  have hn : 0 ≤ I 6 2 ∧ I 6 2 ≤ 6 := ⟨hHa.2.1, hHa.2.2.1⟩
  have hl : ∀ x : Int32, 0 ≤ x → x < I 3 2 → I 4 x.toNatClampNeg ≤ 4 ∧ I 5 x.toNatClampNeg ≤ 24 := fun x a b => ⟨(hSt.2.2.2 x a b).2.2.1, (hSt.2.2.2 x a b).2.2.2.2.2⟩
  have hs2 : 0 ≤ I 65 0 ∧ I 65 0 ≤ 12 := by rw [hSt.1]; exact hs
  have hl2 : ∀ x : Int32, 0 ≤ x → x < I 65 0 → I 66 x.toNatClampNeg ≤ 4 ∧ I 67 x.toNatClampNeg ≤ 24 := fun x a b => by
    rw [hSt.1] at b
    rw [(hSt.2.2.2 x a b).1, (hSt.2.2.2 x a b).2.2.2.1]
    exact hl x a b
  have hn2 : 0 ≤ I 65 1 ∧ I 65 1 ≤ 6 := by rw [hHa.1]; exact hn
  have hk0 : ∀ x : Nat, x < 6912 → 0 ≤ I 70 x ∧ I 70 x ≤ 6 := fun x hx => by
    rcases hTo x hx with h | h
    · rw [h.2]; decide
    · exact ⟨by clear hst hSt hHa hTp hEd hDa hPe hTr hTx hMk hKA; grind, h.2.1⟩
  refine c_X11_taken hs hn hl hTo hKA (fun a0 => ?_) (fun a0 a1 => ?_) (fun a0 a1 a2 => ?_) (fun a0 a1 a2 => ?_)
  · refine ⟨_, rfl, ⟨rfl, rfl, hst⟩, ?_⟩
    refine c_X12_taken (by first | exact hs2 | (simp (decide := true) only [q2_ne, q2_r1, uI_at, uI_nj, qRow_ne, qRow_at]; exact hs2)) (by first | exact hn2 | (simp (decide := true) only [q2_ne, q2_r1, uI_at, uI_nj, qRow_ne, qRow_at]; exact hn2)) (by first | exact hl2 | (simp (decide := true) only [q2_ne, q2_r1, uI_at, uI_nj, qRow_ne, qRow_at]; exact hl2)) (by first | exact hk0 | (simp (decide := true) only [q2_ne, q2_r1, uI_at, uI_nj, qRow_ne, qRow_at]; exact hk0)) (fun b0 => ?_) (fun b0 b1 => ?_) (fun b0 b1 b2 => ?_) (fun b0 b1 b2 => ?_)
    · exact ⟨rfl, ⟨by first | rfl | (simp (decide := true) only [q2_ne, q2_r1, uI_at, uI_nj, qRow_ne, qRow_at]), rfl⟩, ⟨hst, (by first | exact hSt | (simp (decide := true) only [q2_ne, q2_r1, uI_at, uI_nj, qRow_ne, qRow_at]; exact hSt)), (by first | exact hHa | (simp (decide := true) only [q2_ne, q2_r1, uI_at, uI_nj, qRow_ne, qRow_at]; exact hHa)), (by first | exact hTo | (simp (decide := true) only [q2_ne, q2_r1, uI_at, uI_nj, qRow_ne, qRow_at]; exact hTo)), (by first | exact hTp | (simp (decide := true) only [q2_ne, q2_r1, uI_at, uI_nj, qRow_ne, qRow_at]; exact hTp)), (by first | exact hEd | (simp (decide := true) only [q2_ne, q2_r1, uI_at, uI_nj, qRow_ne, qRow_at]; exact hEd)), (by first | exact hDa | (simp (decide := true) only [q2_ne, q2_r1, uI_at, uI_nj, qRow_ne, qRow_at]; exact hDa)), (by first | exact hPe | (simp (decide := true) only [q2_ne, q2_r1, uI_at, uI_nj, qRow_ne, qRow_at]; exact hPe)), (by first | exact hTr | (simp (decide := true) only [q2_ne, q2_r1, uI_at, uI_nj, qRow_ne, qRow_at]; exact hTr)), (RTx_of hTx (by simp (decide := true) only [q2_ne, q2_r1, uI_at, uI_nj, qRow_ne, qRow_at]) (by simp (decide := true) only [q2_ne, q2_r1, uI_at, uI_nj, qRow_ne, qRow_at]) (by simp (decide := true) only [q2_ne, q2_r1, uI_at, uI_nj, qRow_ne, qRow_at]) (by simp (decide := true) only [q2_ne, q2_r1, uI_at, uI_nj, qRow_ne, qRow_at]) (by simp (decide := true) only [q2_ne, q2_r1, uI_at, uI_nj, qRow_ne, qRow_at]) (fun k hk => by (try dsimp only); repeat first | rfl | rw [q2_ne (by omega)] | rw [qRow_ne (by omega)]) (fun k hk => by (try dsimp only); repeat first | rfl | rw [q2_ne (by omega)] | rw [qRow_ne (by omega)])), (by first | exact hMk | (simp (decide := true) only [q2_ne, q2_r1, uI_at, uI_nj, qRow_ne, qRow_at]; exact hMk)), (by first | exact hKA | (simp (decide := true) only [q2_ne, q2_r1, uI_at, uI_nj, qRow_ne, qRow_at]; exact hKA))⟩⟩
    · exfalso; (try simp (decide := true) only [q2_ne, q2_r1, uI_at, uI_nj, qRow_ne, qRow_at] at *); (try simp only [place_eq hSt] at *); (try simp only [line_eq hSt] at *); (try rw [hSt.1] at *); (try rw [hHa.1] at *); clear hst hSt hHa hTo hTp hEd hDa hPe hTr hTx hMk hKA hl hl2; grind
    · exfalso; (try simp (decide := true) only [q2_ne, q2_r1, uI_at, uI_nj, qRow_ne, qRow_at] at *); (try simp only [place_eq hSt] at *); (try simp only [line_eq hSt] at *); (try rw [hSt.1] at *); (try rw [hHa.1] at *); clear hst hSt hHa hTo hTp hEd hDa hPe hTr hTx hMk hKA hl hl2; grind
    · exfalso; (try simp (decide := true) only [q2_ne, q2_r1, uI_at, uI_nj, qRow_ne, qRow_at] at *); (try simp only [place_eq hSt] at *); (try simp only [line_eq hSt] at *); (try rw [hSt.1] at *); (try rw [hHa.1] at *); clear hst hSt hHa hTo hTp hEd hDa hPe hTr hTx hMk hKA hl hl2; grind
  · have hpl := And.intro a0.1 a0.2.1
    have hp : inP s l p := by have := hl s hpl.2.1.1.1 hpl.2.1.1.2; unfold inP; clear hst hSt hHa hTo hTp hEd hDa hPe hTr hTx hMk hKA; grind
    have ha : 0 ≤ a ∧ a < 6 := by clear hst hSt hHa hTo hTp hEd hDa hPe hTr hTx hMk hKA; grind
    obtain ⟨hz, hz0, hzu⟩ := rd1_un (hTo _ (ix_lt ha hp))
    refine ⟨_, rfl, ⟨rfl, rfl, hst⟩, ?_⟩
    refine c_X12_taken (by first | exact hs2 | (simp (decide := true) only [q2_ne, q2_r1, uI_at, uI_nj, qRow_ne, qRow_at]; exact hs2)) (by first | exact hn2 | (simp (decide := true) only [q2_ne, q2_r1, uI_at, uI_nj, qRow_ne, qRow_at]; exact hn2)) (by first | exact hl2 | (simp (decide := true) only [q2_ne, q2_r1, uI_at, uI_nj, qRow_ne, qRow_at]; exact hl2)) (by first | exact hk0 | (simp (decide := true) only [q2_ne, q2_r1, uI_at, uI_nj, qRow_ne, qRow_at]; exact hk0)) (fun b0 => ?_) (fun b0 b1 => ?_) (fun b0 b1 b2 => ?_) (fun b0 b1 b2 => ?_)
    · exfalso; (try simp (decide := true) only [q2_ne, q2_r1, uI_at, uI_nj, qRow_ne, qRow_at] at *); (try simp only [place_eq hSt] at *); (try simp only [line_eq hSt] at *); (try rw [hSt.1] at *); (try rw [hHa.1] at *); clear hst hSt hHa hTo hTp hEd hDa hPe hTr hTx hMk hKA hl hl2; grind
    · exact ⟨rfl, ⟨by first | rfl | (simp (decide := true) only [q2_ne, q2_r1, uI_at, uI_nj, qRow_ne, qRow_at]), rfl⟩, ⟨hst, (by first | exact hSt | (simp (decide := true) only [q2_ne, q2_r1, uI_at, uI_nj, qRow_ne, qRow_at]; exact hSt)), (by first | exact hHa | (simp (decide := true) only [q2_ne, q2_r1, uI_at, uI_nj, qRow_ne, qRow_at]; exact hHa)), (by first | exact hTo | (simp (decide := true) only [q2_ne, q2_r1, uI_at, uI_nj, qRow_ne, qRow_at]; exact hTo)), (by first | exact hTp | (simp (decide := true) only [q2_ne, q2_r1, uI_at, uI_nj, qRow_ne, qRow_at]; exact hTp)), (by first | exact hEd | (simp (decide := true) only [q2_ne, q2_r1, uI_at, uI_nj, qRow_ne, qRow_at]; exact hEd)), (by first | exact hDa | (simp (decide := true) only [q2_ne, q2_r1, uI_at, uI_nj, qRow_ne, qRow_at]; exact hDa)), (by first | exact hPe | (simp (decide := true) only [q2_ne, q2_r1, uI_at, uI_nj, qRow_ne, qRow_at]; exact hPe)), (by first | exact hTr | (simp (decide := true) only [q2_ne, q2_r1, uI_at, uI_nj, qRow_ne, qRow_at]; exact hTr)), (RTx_of hTx (by simp (decide := true) only [q2_ne, q2_r1, uI_at, uI_nj, qRow_ne, qRow_at]) (by simp (decide := true) only [q2_ne, q2_r1, uI_at, uI_nj, qRow_ne, qRow_at]) (by simp (decide := true) only [q2_ne, q2_r1, uI_at, uI_nj, qRow_ne, qRow_at]) (by simp (decide := true) only [q2_ne, q2_r1, uI_at, uI_nj, qRow_ne, qRow_at]) (by simp (decide := true) only [q2_ne, q2_r1, uI_at, uI_nj, qRow_ne, qRow_at]) (fun k hk => by (try dsimp only); repeat first | rfl | rw [q2_ne (by omega)] | rw [qRow_ne (by omega)]) (fun k hk => by (try dsimp only); repeat first | rfl | rw [q2_ne (by omega)] | rw [qRow_ne (by omega)])), (by first | exact hMk | (simp (decide := true) only [q2_ne, q2_r1, uI_at, uI_nj, qRow_ne, qRow_at]; exact hMk)), (by first | exact hKA | (simp (decide := true) only [q2_ne, q2_r1, uI_at, uI_nj, qRow_ne, qRow_at]; exact hKA))⟩⟩
    · exfalso; (try simp (decide := true) only [q2_ne, q2_r1, uI_at, uI_nj, qRow_ne, qRow_at] at *); (try simp only [place_eq hSt] at *); (try simp only [line_eq hSt] at *); (try rw [hSt.1] at *); (try rw [hHa.1] at *); clear hst hSt hHa hTo hTp hEd hDa hPe hTr hTx hMk hKA hl hl2; grind
    · exfalso; (try simp (decide := true) only [q2_ne, q2_r1, uI_at, uI_nj, qRow_ne, qRow_at] at *); (try simp only [place_eq hSt] at *); (try simp only [line_eq hSt] at *); (try rw [hSt.1] at *); (try rw [hHa.1] at *); clear hst hSt hHa hTo hTp hEd hDa hPe hTr hTx hMk hKA hl hl2; grind
  · have hpl := And.intro a0.1 a0.2.1
    have hp : inP s l p := by have := hl s hpl.2.1.1.1 hpl.2.1.1.2; unfold inP; clear hst hSt hHa hTo hTp hEd hDa hPe hTr hTx hMk hKA; grind
    have ha : 0 ≤ a ∧ a < 6 := by clear hst hSt hHa hTo hTp hEd hDa hPe hTr hTx hMk hKA; grind
    obtain ⟨hz, hz0, hzu⟩ := rd1_un (hTo _ (ix_lt ha hp))
    have hzk := (hzu a1).1
    refine ⟨_, rfl, ⟨rfl, rfl, hst⟩, ?_⟩
    refine c_X12_taken (by first | exact hs2 | (simp (decide := true) only [q2_ne, q2_r1, uI_at, uI_nj, qRow_ne, qRow_at]; exact hs2)) (by first | exact hn2 | (simp (decide := true) only [q2_ne, q2_r1, uI_at, uI_nj, qRow_ne, qRow_at]; exact hn2)) (by first | exact hl2 | (simp (decide := true) only [q2_ne, q2_r1, uI_at, uI_nj, qRow_ne, qRow_at]; exact hl2)) (by first | exact hk0 | (simp (decide := true) only [q2_ne, q2_r1, uI_at, uI_nj, qRow_ne, qRow_at]; exact hk0)) (fun b0 => ?_) (fun b0 b1 => ?_) (fun b0 b1 b2 => ?_) (fun b0 b1 b2 => ?_)
    · exfalso; (try simp (decide := true) only [q2_ne, q2_r1, uI_at, uI_nj, qRow_ne, qRow_at] at *); (try simp only [place_eq hSt] at *); (try simp only [line_eq hSt] at *); (try rw [hSt.1] at *); (try rw [hHa.1] at *); clear hst hSt hHa hTo hTp hEd hDa hPe hTr hTx hMk hKA hl hl2; grind
    · exfalso; (try simp (decide := true) only [q2_ne, q2_r1, uI_at, uI_nj, qRow_ne, qRow_at] at *); (try simp only [place_eq hSt] at *); (try simp only [line_eq hSt] at *); (try rw [hSt.1] at *); (try rw [hHa.1] at *); clear hst hSt hHa hTo hTp hEd hDa hPe hTr hTx hMk hKA hl hl2; grind
    · exact ⟨by rw [(hzu a1).2], ⟨by first | rfl | (simp (decide := true) only [q2_ne, q2_r1, uI_at, uI_nj, qRow_ne, qRow_at]), rfl⟩, ⟨hst, (by first | exact hSt | (simp (decide := true) only [q2_ne, q2_r1, uI_at, uI_nj, qRow_ne, qRow_at]; exact hSt)), (by first | exact hHa | (simp (decide := true) only [q2_ne, q2_r1, uI_at, uI_nj, qRow_ne, qRow_at]; exact hHa)), (by first | exact hTo | (simp (decide := true) only [q2_ne, q2_r1, uI_at, uI_nj, qRow_ne, qRow_at]; exact hTo)), (by first | exact hTp | (simp (decide := true) only [q2_ne, q2_r1, uI_at, uI_nj, qRow_ne, qRow_at]; exact hTp)), (by first | exact hEd | (simp (decide := true) only [q2_ne, q2_r1, uI_at, uI_nj, qRow_ne, qRow_at]; exact hEd)), (by first | exact hDa | (simp (decide := true) only [q2_ne, q2_r1, uI_at, uI_nj, qRow_ne, qRow_at]; exact hDa)), (by first | exact hPe | (simp (decide := true) only [q2_ne, q2_r1, uI_at, uI_nj, qRow_ne, qRow_at]; exact hPe)), (by first | exact hTr | (simp (decide := true) only [q2_ne, q2_r1, uI_at, uI_nj, qRow_ne, qRow_at]; exact hTr)), (RTx_of hTx (by simp (decide := true) only [q2_ne, q2_r1, uI_at, uI_nj, qRow_ne, qRow_at]) (by simp (decide := true) only [q2_ne, q2_r1, uI_at, uI_nj, qRow_ne, qRow_at]) (by simp (decide := true) only [q2_ne, q2_r1, uI_at, uI_nj, qRow_ne, qRow_at]) (by simp (decide := true) only [q2_ne, q2_r1, uI_at, uI_nj, qRow_ne, qRow_at]) (by simp (decide := true) only [q2_ne, q2_r1, uI_at, uI_nj, qRow_ne, qRow_at]) (fun k hk => by (try dsimp only); repeat first | rfl | rw [q2_ne (by omega)] | rw [qRow_ne (by omega)]) (fun k hk => by (try dsimp only); repeat first | rfl | rw [q2_ne (by omega)] | rw [qRow_ne (by omega)])), (by first | exact hMk | (simp (decide := true) only [q2_ne, q2_r1, uI_at, uI_nj, qRow_ne, qRow_at]; exact hMk)), (by first | exact hKA | (simp (decide := true) only [q2_ne, q2_r1, uI_at, uI_nj, qRow_ne, qRow_at]; exact hKA))⟩⟩
    · exfalso; (try simp (decide := true) only [q2_ne, q2_r1, uI_at, uI_nj, qRow_ne, qRow_at] at *); (try simp only [place_eq hSt] at *); (try simp only [line_eq hSt] at *); (try rw [hSt.1] at *); (try rw [hHa.1] at *); clear hst hSt hHa hTo hTp hEd hDa hPe hTr hTx hMk hKA hl hl2; grind
  · have hpl := And.intro a0.1 a0.2.1
    have hp : inP s l p := by have := hl s hpl.2.1.1.1 hpl.2.1.1.2; unfold inP; clear hst hSt hHa hTo hTp hEd hDa hPe hTr hTx hMk hKA; grind
    have ha : 0 ≤ a ∧ a < 6 := by clear hst hSt hHa hTo hTp hEd hDa hPe hTr hTx hMk hKA; grind
    obtain ⟨hz, hz0, hzu⟩ := rd1_un (hTo _ (ix_lt ha hp))
    have hzk := (hzu a1).1
    refine ⟨_, rfl, ⟨rfl, rfl, hst⟩, ?_⟩
    refine c_X12_taken (by first | exact hs2 | (simp (decide := true) only [q2_ne, q2_r1, uI_at, uI_nj, qRow_ne, qRow_at]; exact hs2)) (by first | exact hn2 | (simp (decide := true) only [q2_ne, q2_r1, uI_at, uI_nj, qRow_ne, qRow_at]; exact hn2)) (by first | exact hl2 | (simp (decide := true) only [q2_ne, q2_r1, uI_at, uI_nj, qRow_ne, qRow_at]; exact hl2)) (by first | exact hk0 | (simp (decide := true) only [q2_ne, q2_r1, uI_at, uI_nj, qRow_ne, qRow_at]; exact hk0)) (fun b0 => ?_) (fun b0 b1 => ?_) (fun b0 b1 b2 => ?_) (fun b0 b1 b2 => ?_)
    · exfalso; (try simp (decide := true) only [q2_ne, q2_r1, uI_at, uI_nj, qRow_ne, qRow_at] at *); (try simp only [place_eq hSt] at *); (try simp only [line_eq hSt] at *); (try rw [hSt.1] at *); (try rw [hHa.1] at *); clear hst hSt hHa hTo hTp hEd hDa hPe hTr hTx hMk hKA hl hl2; grind
    · exfalso; (try simp (decide := true) only [q2_ne, q2_r1, uI_at, uI_nj, qRow_ne, qRow_at] at *); (try simp only [place_eq hSt] at *); (try simp only [line_eq hSt] at *); (try rw [hSt.1] at *); (try rw [hHa.1] at *); clear hst hSt hHa hTo hTp hEd hDa hPe hTr hTx hMk hKA hl hl2; grind
    · exfalso; (try simp (decide := true) only [q2_ne, q2_r1, uI_at, uI_nj, qRow_ne, qRow_at] at *); (try simp only [place_eq hSt] at *); (try simp only [line_eq hSt] at *); (try rw [hSt.1] at *); (try rw [hHa.1] at *); clear hst hSt hHa hTo hTp hEd hDa hPe hTr hTx hMk hKA hl hl2; grind
    · exact ⟨rfl, ⟨by first | rfl | (simp (decide := true) only [q2_ne, q2_r1, uI_at, uI_nj, qRow_ne, qRow_at]), rfl⟩, ⟨hst, (by first | exact hSt | (simp (decide := true) only [q2_ne, q2_r1, uI_at, uI_nj, qRow_ne, qRow_at]; exact hSt)), (by first | exact hHa | (simp (decide := true) only [q2_ne, q2_r1, uI_at, uI_nj, qRow_ne, qRow_at]; exact hHa)), (by first | exact hTo | (simp (decide := true) only [q2_ne, q2_r1, uI_at, uI_nj, qRow_ne, qRow_at]; exact hTo)), (by first | exact hTp | (simp (decide := true) only [q2_ne, q2_r1, uI_at, uI_nj, qRow_ne, qRow_at]; exact hTp)), (by first | exact hEd | (simp (decide := true) only [q2_ne, q2_r1, uI_at, uI_nj, qRow_ne, qRow_at]; exact hEd)), (by first | exact hDa | (simp (decide := true) only [q2_ne, q2_r1, uI_at, uI_nj, qRow_ne, qRow_at]; exact hDa)), (by first | exact hPe | (simp (decide := true) only [q2_ne, q2_r1, uI_at, uI_nj, qRow_ne, qRow_at]; exact hPe)), (by first | exact hTr | (simp (decide := true) only [q2_ne, q2_r1, uI_at, uI_nj, qRow_ne, qRow_at]; exact hTr)), (RTx_of hTx (by simp (decide := true) only [q2_ne, q2_r1, uI_at, uI_nj, qRow_ne, qRow_at]) (by simp (decide := true) only [q2_ne, q2_r1, uI_at, uI_nj, qRow_ne, qRow_at]) (by simp (decide := true) only [q2_ne, q2_r1, uI_at, uI_nj, qRow_ne, qRow_at]) (by simp (decide := true) only [q2_ne, q2_r1, uI_at, uI_nj, qRow_ne, qRow_at]) (by simp (decide := true) only [q2_ne, q2_r1, uI_at, uI_nj, qRow_ne, qRow_at]) (fun k hk => by (try dsimp only); repeat first | rfl | rw [q2_ne (by omega)] | rw [qRow_ne (by omega)]) (fun k hk => by (try dsimp only); repeat first | rfl | rw [q2_ne (by omega)] | rw [qRow_ne (by omega)])), (by first | exact hMk | (simp (decide := true) only [q2_ne, q2_r1, uI_at, uI_nj, qRow_ne, qRow_at]; exact hMk)), (by first | exact hKA | (simp (decide := true) only [q2_ne, q2_r1, uI_at, uI_nj, qRow_ne, qRow_at]; exact hKA))⟩⟩
end
section
theorem bp_b (x : Int32) : x.toInt8.toInt32 &&& 255 = x &&& 255 := by
  apply Int32.toBitVec_inj.mp
  rw [Int32.toBitVec_and, Int32.toBitVec_and, Int8.toBitVec_toInt32, Int32.toBitVec_toInt8]
  apply BitVec.eq_of_getLsbD_eq
  intro i hi
  rw [BitVec.getLsbD_and, BitVec.getLsbD_and]
  have hm : ∀ i < 32, 8 ≤ i → (255 : Int32).toBitVec.getLsbD i = false := by decide
  rcases Nat.lt_or_ge i 8 with z | z
  · rw [BitVec.getLsbD_signExtend, BitVec.getLsbD_signExtend, if_pos z, if_pos hi]
    simp only [z, hi, decide_true, Bool.true_and]
  · rw [hm i hi z]; simp
/-! trays -/
theorem a255 (x : Int32) : 0 ≤ x &&& 255 ∧ x &&& 255 ≤ 255 := by
  have h2 : (x &&& 255).toBitVec.toNat = x.toBitVec.toNat % 256 := by
    have : (x &&& 255).toBitVec = x.toBitVec &&& 255#32 := rfl
    rw [this, BitVec.toNat_and]
    exact Nat.and_two_pow_sub_one_eq_mod _ 8
  have h4 : (x &&& 255).toInt = ((x &&& 255).toBitVec.toNat : Int) := by
    have : (x &&& 255).toInt = (x &&& 255).toBitVec.toInt := rfl
    rw [this, BitVec.toInt_eq_toNat_cond, if_pos (by rw [h2]; omega)]
  rw [fa_le, fa_le, h4, h2, show (0 : Int32).toInt = 0 from rfl, show (255 : Int32).toInt = 255 from rfl]
  omega
def fillR (e : Nat → Int32) (a b : Nat) (v : Int32) : Nat → Int32 := fun i => if a ≤ i ∧ i < b then v else e i
theorem fillR_s {e : Nat → Int32} {a b : Nat} {v : Int32} (h : a < b) : fillR (uI e a v) (a + 1) b v = fillR e a b v := by
  funext i
  unfold fillR uI
  by_cases h1 : a + 1 ≤ i ∧ i < b
  · rw [if_pos h1, if_pos (by omega)]
  · rw [if_neg h1]
    by_cases h2 : i = a
    · rw [if_pos h2, if_pos (by omega)]
    · rw [if_neg h2, if_neg (by omega)]
theorem fillR_e {e : Nat → Int32} {a b : Nat} {v : Int32} (h : b ≤ a) : fillR e a b v = e := by
  funext i
  unfold fillR
  rw [if_neg (by omega)]
theorem upS_rel2 {σ τ α β : Type} {n : Int32} {g : Int32 → σ → Sum σ α} {e : σ → α} {g' : Int32 → τ → Sum τ β} {e' : τ → β} (P : Int32 → σ → τ → Prop) (E : α → β → Prop)
    (he : ∀ x y, P n x y → E (e x) (e' y))
    (hg : ∀ k x y, 0 ≤ k → k < n → P k x y → (∃ x' y', g k x = .inl x' ∧ g' k y = .inl y' ∧ P (k + 1) x' y') ∨ (∃ a b, g k x = .inr a ∧ g' k y = .inr b ∧ E a b)) (k : Int32) : ∀ x y, 0 ≤ k → k ≤ n → P k x y → E (upS n g e k x) (upS n g' e' k y) := by
  refine up_ind n (P := fun k => ∀ x y, 0 ≤ k → k ≤ n → P k x y → E (upS n g e k x) (upS n g' e' k y)) (fun k ih x y h0 h1 h => ?_) k
  by_cases hk : k < n
  · rcases hg k x y h0 hk h with ⟨x', y', e1, e2, h2⟩ | ⟨a, b, e1, e2, h2⟩
    · rw [upS_on hk e1, upS_on hk e2]
      exact ih hk _ _ (by grind) (by grind) h2
    · rw [upS_out hk e1, upS_out hk e2]
      exact h2
  · have : k = n := by grind
    subst this
    rw [upS_ge hk, upS_ge hk]
    exact he x y h
theorem tr_ix {t i : Int32} (ht : 0 ≤ t ∧ t < 4) (hi : 0 ≤ i ∧ i < 40) : (0 ≤ t * 40 + i ∧ t * 40 + i < 160) ∧ 40 * t + i = t * 40 + i ∧ (t * 40 + i).toNatClampNeg = t.toNatClampNeg * 40 + i.toNatClampNeg := by
  obtain ⟨t, ht, rfl⟩ := nI_ofL (x := t) (n := 4) (by decide) ht.1 ht.2
  obtain ⟨i, hi, rfl⟩ := nI_ofL (x := i) (n := 40) (by decide) hi.1 hi.2
  rw [show (40 : Int32) = nI 40 from rfl, nI_mul, nI_mul, nI_add, nI_add, Nat.mul_comm 40 t, nI_clamp (by omega), nI_clamp (by omega), nI_clamp (by omega)]
  refine ⟨⟨nI_pos' (by omega), ?_⟩, rfl, rfl⟩
  show _ < nI 160
  exact (nI_ltI (by omega) (by decide)).mpr (by omega)
theorem tr_e {t : Int32} (ht : 0 ≤ t ∧ t < 4) : (0 ≤ t * 40 ∧ t * 40 < 160) ∧ (0 ≤ (t + 1) * 40 ∧ (t + 1) * 40 ≤ 160) ∧ t * 40 ≤ (t + 1) * 40 ∧ (t * 40).toNatClampNeg = t.toNatClampNeg * 40 ∧ ((t + 1) * 40).toNatClampNeg = t.toNatClampNeg * 40 + 40 ∧ 40 * t = t * 40 ∧ (t * 40 + 40).toNatClampNeg = t.toNatClampNeg * 40 + 40 ∧ t.toNatClampNeg < 4 := by
  obtain ⟨t, ht2, rfl⟩ := nI_ofL (x := t) (n := 4) (by decide) ht.1 ht.2
  have : ∀ t < 4, (0 ≤ nI t * 40 ∧ nI t * 40 < 160) ∧ (0 ≤ (nI t + 1) * 40 ∧ (nI t + 1) * 40 ≤ 160) ∧ nI t * 40 ≤ (nI t + 1) * 40 ∧ (nI t * 40).toNatClampNeg = (nI t).toNatClampNeg * 40 ∧ ((nI t + 1) * 40).toNatClampNeg = (nI t).toNatClampNeg * 40 + 40 ∧ 40 * nI t = nI t * 40 ∧ (nI t * 40 + 40).toNatClampNeg = (nI t).toNatClampNeg * 40 + 40 ∧ (nI t).toNatClampNeg < 4 := by decide +kernel
  exact this t ht2
theorem ti_add {a b : Int32} (h : -2147483648 ≤ a.toInt + b.toInt ∧ a.toInt + b.toInt < 2147483648) : (a + b).toInt = a.toInt + b.toInt := by
  rw [Int32.toInt_add]; exact Int.bmod_eq_of_le (by omega) (by omega)
theorem ti_sub {a b : Int32} (h : -2147483648 ≤ a.toInt - b.toInt ∧ a.toInt - b.toInt < 2147483648) : (a - b).toInt = a.toInt - b.toInt := by
  rw [Int32.toInt_sub]; exact Int.bmod_eq_of_le (by omega) (by omega)
theorem fp_rng {f p z : Int32} (h1 : ¬ f < 0) (hp : 0 ≤ p ∧ p < 24) (hz : -1 ≤ z ∧ z ≤ 40) (h3 : ¬ z - p ≤ f) : (0 ≤ f + p ∧ f + p < 40) ∧ f + p < z ∧ (f + p).toInt = f.toInt + p.toInt := by
  simp only [fa_lt, fa_le] at *
  rw [show (0 : Int32).toInt = 0 from rfl] at *
  rw [show (-1 : Int32).toInt = -1 from rfl] at *
  rw [show (40 : Int32).toInt = 40 from rfl] at *
  rw [show (24 : Int32).toInt = 24 from rfl] at *
  have e1 := ti_sub (a := z) (b := p) (by omega)
  rw [e1] at h3
  have e2 := ti_add (a := f) (b := p) (by omega)
  rw [e2]
  omega
theorem RTr_put {sz sz' b b' : Nat → Int32} {t n : Int32} (h : RTr sz sz' b b') (ht : 0 ≤ t ∧ t < 4) (hn : -1 ≤ n ∧ n ≤ 40) : RTr (uI sz t.toNatClampNeg n) (uI sz' t.toNatClampNeg n) (fillR b (t * 40).toNatClampNeg ((t + 1) * 40).toNatClampNeg 0) (fillR b' (t * 40).toNatClampNeg (t * 40 + 40).toNatClampNeg 0) := by
  obtain ⟨h1, h2⟩ := h
  obtain ⟨_, _, _, e1, e2, _, e4, _⟩ := tr_e ht
  refine ⟨fun x h0 hx => ?_, fun j hj => ?_⟩
  · rw [uI_t h0 ht.1, uI_t h0 ht.1]
    by_cases e : x = t
    · simp only [if_pos e]; exact ⟨trivial, hn⟩
    · simp only [if_neg e]; exact h1 x h0 hx
  · rw [e1, e2, e4]
    unfold fillR
    by_cases e : t.toNatClampNeg * 40 ≤ j ∧ j < t.toNatClampNeg * 40 + 40
    · simp only [if_pos e]; decide
    · simp only [if_neg e]; exact h2 j hj
theorem RTr_cell {sz sz' b b' : Nat → Int32} {v : Int32} {j : Nat} (h : RTr sz sz' b b') : RTr sz sz' (uI b j (vp_nar .byte v.toInt8.toInt32)) (uI b' j (v &&& 255)) := by
  obtain ⟨h1, h2⟩ := h
  refine ⟨h1, fun i hi => ?_⟩
  by_cases e : i = j
  · subst e
    rw [uI_at, uI_at, pk_vb, bp_b]
    exact ⟨rfl, a255 v⟩
  · rw [uI_nj e, uI_nj e]; exact h2 i hi
theorem l_fill_42 {d z : Nat} {N : Nat → Nat} {I : Nat → Nat → Int32} {L : Nat → Nat → Int64} {R : Nat → Nat → Option Nat} {Q : qP} {y : Int32} (hlt : 42 < z + 2) : ∀ (k : Int32), ∀ e : Nat → Int32, 0 ≤ k → k ≤ 24 → Q none (z, N, qRow I 42 (fillR e k.toNatClampNeg 24 y), L, R) → qJ m_J7_fill_53178 (qWP (d + 0)) Q 5 [(3, .int 24), (2, .int k), (1, .int y), (0, .ref 42)] [] 0 0 (z, N, qRow I 42 e, L, R) := by
  refine up_ind (24) fun k ih => ?_
  intro e h0 h1 hq
  refine qJ_run (qWP_mono _) [5, 14] 400 ?_
  refine ⟨fun (c1 : 24 ≤ k) => ?_, fun (c1 : ¬ 24 ≤ k) => ?_⟩
  · change Q none (z, N, qRow I 42 e, L, R)
    rw [show k = 24 from by clear ih hq; grind] at hq
    rw [fillR_e (by decide)] at hq
    exact hq
  · refine ⟨hlt, ?_⟩
    refine ⟨?_, ?_⟩
    · exact vb (x := k) (N := 24) 24 (by decide) (by clear ih hq; grind) (by clear ih hq; grind)
    refine qJ_M (M2 := (z, N, qRow I 42 (uI e ((k).toNatClampNeg) y), L, R)) (by (try dsimp only); (simp (decide := true) only [q2_qRow, q2_qRow2, q2_qRow3]) <;> rfl) ?_
    change qJ m_J7_fill_53178 (qWP _) Q 14 [(3, .int 24), (2, .int k), (1, .int y), (0, .ref 42)] [] _ _ (z, N, qRow I 42 (uI e ((k).toNatClampNeg) y), L, R)
    refine qJ_run (qWP_mono _) [5, 14] 400 ?_
    refine qJ_nm (qWP_mono _) [] [(3, .int 24), (2, .int (k + 1)), (1, .int y), (0, .ref 42)] rfl rfl rfl ?_
    have hk : k < 24 := by clear ih hq; grind
    refine ih hk _ (by clear ih hq; grind) (by clear ih hq; grind) ?_
    rw [tn1 h0 (by clear ih hq; grind), fillR_s (by rw [tcn]; have := Int32.lt_iff_toInt_lt.mp hk; have e9 : (24 : Int32).toInt = 24 := rfl; have := i0 h0; omega)]
    exact hq
theorem c_fill_42 {d z : Nat} {N : Nat → Nat} {I : Nat → Nat → Int32} {L : Nat → Nat → Int64} {R : Nat → Nat → Option Nat} {Q : qP} {y : Int32} (hlt : 42 < z + 2) (h : Q none (z, N, qRow I 42 (fun i => if i < 24 then y else I 42 i), L, R)) : qWP (d + 1) 249 [.ref 42, .int y] (z, N, I, L, R) Q := by
  refine qWP_of m_J7_fill_53178 rfl rfl [(0, .ref 42), (1, .int y)] rfl ?_
  refine qJ_run (qWP_mono _) [5] 400 ?_
  refine ⟨hlt, ?_⟩
  refine qJ_nm (qWP_mono _) [] [(3, .int 24), (2, .int 0), (1, .int y), (0, .ref 42)] rfl rfl rfl ?_
  refine qJ_M (M2 := (z, N, qRow I 42 (I 42), L, R)) (by rw [qRow_self]) ?_
  refine l_fill_42 (d := d) hlt 0 _ (by decide) (by decide) ?_
  rw [show fillR (I 42) (0 : Int32).toNatClampNeg 24 y = (fun i => if i < 24 then y else I 42 i) from by funext i; simp [fillR]]
  exact h
theorem l_fill_45 {d z : Nat} {N : Nat → Nat} {I : Nat → Nat → Int32} {L : Nat → Nat → Int64} {R : Nat → Nat → Option Nat} {Q : qP} {y : Int32} (hlt : 45 < z + 2) : ∀ (k : Int32), ∀ e : Nat → Int32, 0 ≤ k → k ≤ 24 → Q none (z, N, qRow I 45 (fillR e k.toNatClampNeg 24 y), L, R) → qJ m_J7_fill_53178 (qWP (d + 0)) Q 5 [(3, .int 24), (2, .int k), (1, .int y), (0, .ref 45)] [] 0 0 (z, N, qRow I 45 e, L, R) := by
  refine up_ind (24) fun k ih => ?_
  intro e h0 h1 hq
  refine qJ_run (qWP_mono _) [5, 14] 400 ?_
  refine ⟨fun (c1 : 24 ≤ k) => ?_, fun (c1 : ¬ 24 ≤ k) => ?_⟩
  · change Q none (z, N, qRow I 45 e, L, R)
    rw [show k = 24 from by clear ih hq; grind] at hq
    rw [fillR_e (by decide)] at hq
    exact hq
  · refine ⟨hlt, ?_⟩
    refine ⟨?_, ?_⟩
    · exact vb (x := k) (N := 24) 24 (by decide) (by clear ih hq; grind) (by clear ih hq; grind)
    refine qJ_M (M2 := (z, N, qRow I 45 (uI e ((k).toNatClampNeg) y), L, R)) (by (try dsimp only); (simp (decide := true) only [q2_qRow, q2_qRow2, q2_qRow3]) <;> rfl) ?_
    change qJ m_J7_fill_53178 (qWP _) Q 14 [(3, .int 24), (2, .int k), (1, .int y), (0, .ref 45)] [] _ _ (z, N, qRow I 45 (uI e ((k).toNatClampNeg) y), L, R)
    refine qJ_run (qWP_mono _) [5, 14] 400 ?_
    refine qJ_nm (qWP_mono _) [] [(3, .int 24), (2, .int (k + 1)), (1, .int y), (0, .ref 45)] rfl rfl rfl ?_
    have hk : k < 24 := by clear ih hq; grind
    refine ih hk _ (by clear ih hq; grind) (by clear ih hq; grind) ?_
    rw [tn1 h0 (by clear ih hq; grind), fillR_s (by rw [tcn]; have := Int32.lt_iff_toInt_lt.mp hk; have e9 : (24 : Int32).toInt = 24 := rfl; have := i0 h0; omega)]
    exact hq
theorem c_fill_45 {d z : Nat} {N : Nat → Nat} {I : Nat → Nat → Int32} {L : Nat → Nat → Int64} {R : Nat → Nat → Option Nat} {Q : qP} {y : Int32} (hlt : 45 < z + 2) (h : Q none (z, N, qRow I 45 (fun i => if i < 24 then y else I 45 i), L, R)) : qWP (d + 1) 249 [.ref 45, .int y] (z, N, I, L, R) Q := by
  refine qWP_of m_J7_fill_53178 rfl rfl [(0, .ref 45), (1, .int y)] rfl ?_
  refine qJ_run (qWP_mono _) [5] 400 ?_
  refine ⟨hlt, ?_⟩
  refine qJ_nm (qWP_mono _) [] [(3, .int 24), (2, .int 0), (1, .int y), (0, .ref 45)] rfl rfl rfl ?_
  refine qJ_M (M2 := (z, N, qRow I 45 (I 45), L, R)) (by rw [qRow_self]) ?_
  refine l_fill_45 (d := d) hlt 0 _ (by decide) (by decide) ?_
  rw [show fillR (I 45) (0 : Int32).toNatClampNeg 24 y = (fun i => if i < 24 then y else I 45 i) from by funext i; simp [fillR]]
  exact h
theorem l_fill_63 {d z : Nat} {N : Nat → Nat} {I : Nat → Nat → Int32} {L : Nat → Nat → Int64} {R : Nat → Nat → Option Nat} {Q : qP} {y f t : Int32} (hlt : 63 < z + 2) (hf : 0 ≤ f) (ht : t ≤ 160) : ∀ (k : Int32), ∀ e : Nat → Int32, 0 ≤ k → k ≤ t → Q none (z, N, qRow I 63 (fillR e k.toNatClampNeg t.toNatClampNeg (vp_nar .byte y)), L, R) → qJ m_J7_fill_eb02e (qWP (d + 1)) Q 10 [(4, .int k), (3, .int y), (2, .int t), (1, .int f), (0, .ref 63)] [] 0 0 (z, N, qRow I 63 e, L, R) := by
  refine up_ind (t) fun k ih => ?_
  intro e h0 h1 hq
  refine qJ_run (qWP_mono _) [10, 21] 400 ?_
  refine ⟨fun (c1 : t ≤ k) => ?_, fun (c1 : ¬ t ≤ k) => ?_⟩
  · change Q none (z, N, qRow I 63 e, L, R)
    rw [show k = t from by clear ih hq; grind] at hq
    rw [fillR_e (Nat.le_refl _)] at hq
    exact hq
  · refine ⟨hlt, ?_⟩
    refine ⟨?_, ?_⟩
    · exact vb (x := k) (N := 160) 160 (by decide) (by clear ih hq; grind) (by clear ih hq; grind)
    refine qJ_M (M2 := (z, N, qRow I 63 (uI e ((k).toNatClampNeg) (vp_nar .byte y)), L, R)) (by (try dsimp only); (simp (decide := true) only [q2_qRow, q2_qRow2, q2_qRow3]) <;> rfl) ?_
    change qJ m_J7_fill_eb02e (qWP _) Q 21 [(4, .int k), (3, .int y), (2, .int t), (1, .int f), (0, .ref 63)] [] _ _ (z, N, qRow I 63 (uI e ((k).toNatClampNeg) (vp_nar .byte y)), L, R)
    refine qJ_run (qWP_mono _) [10, 21] 400 ?_
    have hk : k < t := by clear ih hq; grind
    refine ih hk _ (by clear ih hq; grind) (by clear ih hq; grind) ?_
    rw [tn1 h0 (by clear ih hq; grind), fillR_s (by rw [tcn, tcn]; have := Int32.lt_iff_toInt_lt.mp hk; have := i0 h0; omega)]
    exact hq
theorem c_J7_rangeCheck_23922 {d z : Nat} {N : Nat → Nat} {I : Nat → Nat → Int32} {L : Nat → Nat → Int64} {R : Nat → Nat → Option Nat} {Q : qP} {n f t : Int32} (h1 : f ≤ t) (h2 : 0 ≤ f) (h3 : t ≤ n) (h : Q none (z, N, I, L, R)) : qWP (d + 1) 248 [.int n, .int f, .int t] (z, N, I, L, R) Q := by
  refine qWP_of m_J7_rangeCheck_23922 rfl rfl [(0, .int n), (1, .int f), (2, .int t)] rfl ?_
  refine qJ_run (qWP_mono _) [] 400 ?_
  refine br_t (show f ≤ t from h1) ?_
  refine br_t (show 0 ≤ f from h2) ?_
  refine br_t (show t ≤ n from h3) ?_
  change Q none (z, N, I, L, R)
  exact h
theorem c_fill_63 {d z : Nat} {N : Nat → Nat} {I : Nat → Nat → Int32} {L : Nat → Nat → Int64} {R : Nat → Nat → Option Nat} {Q : qP} {y f t : Int32} (hlt : 63 < z + 2) (hf : 0 ≤ f) (hft : f ≤ t) (ht : t ≤ 160) (h : Q none (z, N, qRow I 63 (fillR (I 63) f.toNatClampNeg t.toNatClampNeg (vp_nar .byte y)), L, R)) : qWP (d + 2) 250 [.ref 63, .int f, .int t, .int y] (z, N, I, L, R) Q := by
  refine qWP_of m_J7_fill_eb02e rfl rfl [(0, .ref 63), (1, .int f), (2, .int t), (3, .int y)] rfl ?_
  refine qJ_run (qWP_mono _) [10] 400 ?_
  refine ⟨hlt, ?_⟩
  refine ⟨⟨Nat.le_refl _, Nat.le_refl _⟩, ?_⟩
  refine c_J7_rangeCheck_23922 hft hf ht ?_
  refine qJ_nm (qWP_mono _) [] [(4, .int f), (3, .int y), (2, .int t), (1, .int f), (0, .ref 63)] rfl rfl rfl ?_
  refine qJ_M (M2 := (z, N, qRow I 63 (I 63), L, R)) (by rw [qRow_self]) ?_
  exact l_fill_63 (d := d) hlt hf ht f _ hf hft h
theorem c_X10_put {d z : Nat} {N : Nat → Nat} {I : Nat → Nat → Int32} {L : Nat → Nat → Int64} {R : Nat → Nat → Option Nat} {Q : qP} {t : Int32} {n : Int32} (ht : 0 ≤ t ∧ t < 4) (hst : qStat (z, N, I, L, R)) (h : Q none (z, N, qRow (q2 I 64 t.toNatClampNeg n) 63 (fillR (I 63) (t * 40).toNatClampNeg ((t + 1) * 40).toNatClampNeg 0), L, R)) : qWP (d + 3) 118 [.ref 62, .int t, .int n] (z, N, I, L, R) Q := by
  refine qWP_of m_X10_put rfl rfl [(0, .ref 62), (1, .int t), (2, .int n)] rfl ?_
  refine qJ_run (qWP_mono _) [] 400 ?_
  refine ⟨⟨Nat.le_refl _, Nat.le_refl _⟩, ?_⟩
  refine c_X10_has fun v1 hv1 => ?_
  refine ⟨fun (c1 : v1 = 0) => ?_, fun (c1 : ¬ v1 = 0) => ?_⟩
  · change Q none (z, N, I, L, R)
    exact absurd ht (by clear h; grind)
  · refine ⟨?_, ?_⟩
    · exact vb (x := t) (N := 4) 4 (by decide) (by clear h; grind) (by clear h; grind)
    refine ⟨⟨Nat.le_refl _, Nat.le_refl _⟩, ?_⟩
    obtain ⟨g1, g2, g3, _⟩ := tr_e ht
    refine c_fill_63 (Nat.lt_of_lt_of_le (by decide) hst.1) g1.1 g3 g2.2 ⟨hst, ?_⟩
    change Q none (z, N, qRow (q2 I 64 t.toNatClampNeg n) 63 (fillR (I 63) (t * 40).toNatClampNeg ((t + 1) * 40).toNatClampNeg 0), L, R)
    exact h
theorem c_X10_set {d z : Nat} {N : Nat → Nat} {I : Nat → Nat → Int32} {L : Nat → Nat → Int64} {R : Nat → Nat → Option Nat} {Q : qP} {t : Int32} {i : Int32} {y : Int32} (ht : 0 ≤ t ∧ t < 4) (hz : -1 ≤ I 64 t.toNatClampNeg ∧ I 64 t.toNatClampNeg ≤ 40) (h0 : ¬ (0 ≤ i ∧ i < I 64 t.toNatClampNeg) → Q (some (.int 0)) (z, N, I, L, R)) (h1 : 0 ≤ i → i < I 64 t.toNatClampNeg → Q (some (.int 1)) (z, N, q2 I 63 (t * 40 + i).toNatClampNeg (vp_nar .byte y.toInt8.toInt32), L, R)) : qWP (d + 3) 119 [.ref 62, .int t, .int i, .int y] (z, N, I, L, R) Q := by
  refine qWP_of m_X10_set rfl rfl [(0, .ref 62), (1, .int t), (2, .int i), (3, .int y)] rfl ?_
  refine qJ_run (qWP_mono _) [] 400 ?_
  refine ⟨⟨Nat.le_refl _, Nat.le_refl _⟩, ?_⟩
  refine c_X10_has fun v1 hv1 => ?_
  refine ⟨fun (c1 : v1 = 0) => ?_, fun (c1 : ¬ v1 = 0) => ?_⟩
  · refine ⟨by first | exact Or.inl rfl | exact Or.inr rfl | (clear h0 h1; grind), ?_⟩
    change Q (some (.int 0)) (z, N, I, L, R)
    exact h0 (by clear h0 h1; grind)
  · refine ⟨fun (c2 : i < 0) => ?_, fun (c2 : ¬ i < 0) => ?_⟩
    · refine ⟨by first | exact Or.inl rfl | exact Or.inr rfl | (clear h0 h1; grind), ?_⟩
      change Q (some (.int 0)) (z, N, I, L, R)
      exact h0 (by clear h0 h1; grind)
    · refine ⟨⟨Nat.le_refl _, Nat.le_refl _⟩, ?_⟩
      refine c_X10_sizeOf fun v2 hv2 => ?_
      refine ⟨fun (c3 : v2 ≤ i) => ?_, fun (c3 : ¬ v2 ≤ i) => ?_⟩
      · refine ⟨by first | exact Or.inl rfl | exact Or.inr rfl | (clear h0 h1; grind), ?_⟩
        change Q (some (.int 0)) (z, N, I, L, R)
        exact h0 (by clear h0 h1; grind)
      · refine ⟨fun (c4 : i < 40) => ?_, fun (c4 : ¬ i < 40) => ?_⟩
        · refine ⟨?_, ?_⟩
          · exact vb (N := 160) 160 (by decide) (tr_ix ht (by clear h0 h1; grind)).1.1 (tr_ix ht (by clear h0 h1; grind)).1.2
          refine ⟨by first | exact Or.inl rfl | exact Or.inr rfl | (clear h0 h1; grind), ?_⟩
          change Q (some (.int 1)) (z, N, q2 I 63 (((t * 40) + i).toNatClampNeg) (vp_nar .byte ((y).toInt8.toInt32)), L, R)
          exact h1 (by clear h0 h1; grind) (by clear h0 h1; grind)
        · refine ⟨by first | exact Or.inl rfl | exact Or.inr rfl | (clear h0 h1; grind), ?_⟩
          change Q (some (.int 0)) (z, N, I, L, R)
          exact h0 (by clear h0 h1; grind)
theorem c_X10_byteAt {d z : Nat} {N : Nat → Nat} {I : Nat → Nat → Int32} {L : Nat → Nat → Int64} {R : Nat → Nat → Option Nat} {Q : qP} {t : Int32} {f : Int32} {p : Int32} (ht : 0 ≤ t ∧ t < 4) (hz : -1 ≤ I 64 t.toNatClampNeg ∧ I 64 t.toNatClampNeg ≤ 40) (hp : 0 ≤ p ∧ p < 24) (h : ∀ v : Int32, v = (if f < 0 ∨ I 64 t.toNatClampNeg - p ≤ f then -1 else I 63 (t * 40 + f + p).toNatClampNeg &&& 255) → Q (some (.int v)) (z, N, I, L, R)) : qWP (d + 3) 120 [.ref 62, .int t, .int f, .int p] (z, N, I, L, R) Q := by
  refine qWP_of m_X10_byteAt rfl rfl [(0, .ref 62), (1, .int t), (2, .int f), (3, .int p)] rfl ?_
  refine qJ_run (qWP_mono _) [] 400 ?_
  refine ⟨⟨Nat.le_refl _, Nat.le_refl _⟩, ?_⟩
  refine c_X10_sizeOf fun v1 hv1 => ?_
  refine ⟨fun (c1 : f < 0) => ?_, fun (c1 : ¬ f < 0) => ?_⟩
  · change Q (some (.int (-1))) (z, N, I, L, R)
    rw [if_pos ht] at hv1
    rw [hv1] at *
    first | exact h _ (if_pos (by clear h; first | exact Or.inl (by assumption) | exact Or.inr (by assumption) | (exfalso; grind))).symm | exact h _ (if_neg (by clear h; intro hh; rcases hh with hh | hh <;> contradiction)).symm
  · refine ⟨fun (c2 : p < 0) => ?_, fun (c2 : ¬ p < 0) => ?_⟩
    · change Q (some (.int (-1))) (z, N, I, L, R)
      rw [if_pos ht] at hv1
      rw [hv1] at *
      first | exact h _ (if_pos (by clear h; first | exact Or.inl (by assumption) | exact Or.inr (by assumption) | (exfalso; grind))).symm | exact h _ (if_neg (by clear h; intro hh; rcases hh with hh | hh <;> contradiction)).symm
    · refine ⟨fun (c3 : (v1 - p) ≤ f) => ?_, fun (c3 : ¬ (v1 - p) ≤ f) => ?_⟩
      · change Q (some (.int (-1))) (z, N, I, L, R)
        rw [if_pos ht] at hv1
        rw [hv1] at *
        first | exact h _ (if_pos (by clear h; first | exact Or.inl (by assumption) | exact Or.inr (by assumption) | (exfalso; grind))).symm | exact h _ (if_neg (by clear h; intro hh; rcases hh with hh | hh <;> contradiction)).symm
      · refine ⟨fun (c4 : v1 ≤ 40) => ?_, fun (c4 : ¬ v1 ≤ 40) => ?_⟩
        · refine ⟨?_, ?_⟩
          · have hr := fp_rng (f := f) (z := I 64 t.toNatClampNeg) (by clear h; assumption) hp hz (by clear h; rw [hv1, if_pos ht] at c3; exact c3)
            have g := tr_ix (i := f + p) ht hr.1
            have e9 : t * 40 + (f + p) = t * 40 + f + p := by clear h hr g; grind
            rw [e9] at g
            exact vb (N := 160) 160 (by decide) g.1.1 g.1.2
          change Q (some (.int ((I 63 ((((t * 40) + f) + p).toNatClampNeg)) &&& 255))) (z, N, I, L, R)
          rw [if_pos ht] at hv1
          rw [hv1] at *
          first | exact h _ (if_pos (by clear h; first | exact Or.inl (by assumption) | exact Or.inr (by assumption) | (exfalso; grind))).symm | exact h _ (if_neg (by clear h; intro hh; rcases hh with hh | hh <;> contradiction)).symm
        · change Q (some (.int (-1))) (z, N, I, L, R)
          rw [if_pos ht] at hv1
          rw [hv1] at *
          first | exact h _ (if_pos (by clear h; first | exact Or.inl (by assumption) | exact Or.inr (by assumption) | (exfalso; grind))).symm | exact h _ (if_neg (by clear h; intro hh; rcases hh with hh | hh <;> contradiction)).symm
theorem c_X11_tray {d z : Nat} {N : Nat → Nat} {I : Nat → Nat → Int32} {L : Nat → Nat → Int64} {R : Nat → Nat → Option Nat} {Q : qP} {t : Int32} {n : Int32} (hst : qStat (z, N, I, L, R)) (h0 : (¬ (0 ≤ t ∧ t < 4) ∨ 40 < n) → Q (some (.int (-2))) (z, N, I, L, R)) (h1 : ¬ (¬ (0 ≤ t ∧ t < 4) ∨ 40 < n) → n < -1 → Q (some (.int (-14))) (z, N, I, L, R)) (h2 : ¬ (¬ (0 ≤ t ∧ t < 4) ∨ 40 < n) → -1 ≤ n → Q (some (.int 1)) (z, N, qRow (q2 I 64 t.toNatClampNeg n) 63 (fillR (I 63) (t * 40).toNatClampNeg ((t + 1) * 40).toNatClampNeg 0), L, R)) : qWP (d + 4) 162 [.ref 2, .int t, .int n] (z, N, I, L, R) Q := by
  refine qWP_of m_X11_tray rfl rfl [(0, .ref 2), (1, .int t), (2, .int n)] rfl ?_
  refine qJ_run (qWP_mono _) [] 400 ?_
  refine ⟨⟨Nat.le_refl _, Nat.le_refl _⟩, ?_⟩
  refine c_X10_has fun v1 hv1 => ?_
  refine ⟨fun (c1 : v1 = 0) => ?_, fun (c1 : ¬ v1 = 0) => ?_⟩
  · change Q (some (.int (-2))) (z, N, I, L, R)
    exact h0 (by clear h0 h1 h2; grind)
  · refine ⟨fun (c2 : n ≤ 40) => ?_, fun (c2 : ¬ n ≤ 40) => ?_⟩
    · refine ⟨fun (c3 : (-1) ≤ n) => ?_, fun (c3 : ¬ (-1) ≤ n) => ?_⟩
      · refine ⟨⟨Nat.le_refl _, Nat.le_refl _⟩, ?_⟩
        refine c_X10_put (by clear h0 h1 h2; grind) hst ?_
        change Q (some (.int 1)) (z, N, qRow (q2 I 64 t.toNatClampNeg n) 63 (fillR (I 63) (t * 40).toNatClampNeg ((t + 1) * 40).toNatClampNeg 0), L, R)
        exact h2 (by clear h0 h1 h2; grind) (by clear h0 h1 h2; grind)
      · change Q (some (.int (-14))) (z, N, I, L, R)
        exact h1 (by clear h0 h1 h2; grind) (by clear h0 h1 h2; grind)
    · change Q (some (.int (-2))) (z, N, I, L, R)
      exact h0 (by clear h0 h1 h2; grind)
theorem l_X12_tray {d z : Nat} {N : Nat → Nat} {I : Nat → Nat → Int32} {L : Nat → Nat → Int64} {R : Nat → Nat → Option Nat} {Q : qP} {t n : Int32} (ht : 0 ≤ t ∧ t < 4) : ∀ (k : Int32), ∀ e : Nat → Int32, 0 ≤ k → k ≤ 40 → Q (some (.int 1)) (z, N, qRow I 95 (fillR e (t * 40 + k).toNatClampNeg (t * 40 + 40).toNatClampNeg 0), L, R) → qJ m_X12_tray (qWP (d + 3)) Q 34 [(3, .int k), (2, .int n), (1, .int t), (0, .ref 65)] [] 0 0 (z, N, qRow I 95 e, L, R) := by
  refine up_ind (40) fun k ih => ?_
  intro e h0 h1 hq
  refine qJ_run (qWP_mono _) [34, 52] 400 ?_
  refine ⟨fun (c1 : 40 ≤ k) => ?_, fun (c1 : ¬ 40 ≤ k) => ?_⟩
  · change Q (some (.int 1)) (z, N, qRow I 95 e, L, R)
    rw [show k = 40 from by clear ih hq; grind] at hq
    rw [fillR_e (Nat.le_refl _)] at hq
    exact hq
  · refine ⟨?_, ?_⟩
    · have g := tr_ix (i := k) ht (by clear ih hq; grind)
      rw [← g.2.1] at g
      exact vb (N := 160) 160 (by decide) g.1.1 g.1.2
    refine qJ_M (M2 := (z, N, qRow I 95 (uI e (((40 * t) + k).toNatClampNeg) 0), L, R)) (by (try dsimp only); (simp (decide := true) only [q2_qRow, q2_qRow2, q2_qRow3]) <;> rfl) ?_
    change qJ m_X12_tray (qWP _) Q 52 [(3, .int k), (2, .int n), (1, .int t), (0, .ref 65)] [] _ _ (z, N, qRow I 95 (uI e (((40 * t) + k).toNatClampNeg) 0), L, R)
    refine qJ_run (qWP_mono _) [34, 52] 400 ?_
    have hk : k < 40 := by clear ih hq; grind
    have g := tr_ix (i := k) ht ⟨h0, hk⟩
    have g4 := tr_e ht
    refine ih hk _ (by clear ih hq; grind) (by clear ih hq; grind) ?_
    rw [g4.2.2.2.2.2.1, show t * 40 + (k + 1) = t * 40 + k + 1 from by grind, tn1 g.1.1 (by clear ih hq; grind), fillR_s (by rw [g.2.2, g4.2.2.2.2.2.2.1, tcn k]; have := Int32.lt_iff_toInt_lt.mp hk; have e9 : (40 : Int32).toInt = 40 := rfl; have := i0 h0; omega)]
    exact hq
theorem c_X12_tray {d z : Nat} {N : Nat → Nat} {I : Nat → Nat → Int32} {L : Nat → Nat → Int64} {R : Nat → Nat → Option Nat} {Q : qP} {t : Int32} {n : Int32}  (h0 : (¬ (0 ≤ t ∧ t < 4) ∨ 40 < n) → Q (some (.int (-2))) (z, N, I, L, R)) (h1 : ¬ (¬ (0 ≤ t ∧ t < 4) ∨ 40 < n) → n < -1 → Q (some (.int (-14))) (z, N, I, L, R)) (h2 : ¬ (¬ (0 ≤ t ∧ t < 4) ∨ 40 < n) → -1 ≤ n → Q (some (.int 1)) (z, N, qRow (q2 I 94 t.toNatClampNeg n) 95 (fillR (I 95) (t * 40).toNatClampNeg (t * 40 + 40).toNatClampNeg 0), L, R)) : qWP (d + 4) 242 [.ref 65, .int t, .int n] (z, N, I, L, R) Q := by
  refine qWP_of m_X12_tray rfl rfl [(0, .ref 65), (1, .int t), (2, .int n)] rfl ?_
  refine qJ_run (qWP_mono _) [34] 400 ?_
  refine ⟨⟨Nat.le_refl _, Nat.le_refl _⟩, ?_⟩
  refine c_X12_isIn fun v1 hv1 => ?_
  refine ⟨fun (c1 : v1 = 0) => ?_, fun (c1 : ¬ v1 = 0) => ?_⟩
  · change Q (some (.int (-2))) (z, N, I, L, R)
    exact h0 (by clear h0 h1 h2; grind)
  · refine ⟨fun (c2 : n ≤ 40) => ?_, fun (c2 : ¬ n ≤ 40) => ?_⟩
    · refine ⟨fun (c3 : (-1) ≤ n) => ?_, fun (c3 : ¬ (-1) ≤ n) => ?_⟩
      · refine ⟨?_, ?_⟩
        · exact vb (x := t) (N := 4) 4 (by decide) (by clear h0 h1 h2; grind) (by clear h0 h1 h2; grind)
        refine qJ_nm (qWP_mono _) [] [(3, .int 0), (2, .int n), (1, .int t), (0, .ref 65)] rfl rfl rfl ?_
        have ht : 0 ≤ t ∧ t < 4 := by clear h0 h1 h2; grind
        refine qJ_M (M2 := (z, N, qRow (q2 I 94 t.toNatClampNeg n) 95 (I 95), L, R)) (by dsimp only; rw [show I 95 = q2 I 94 t.toNatClampNeg n 95 from (q2_ne (by decide)).symm, qRow_self]) ?_
        refine l_X12_tray (d := d) ht 0 _ (by decide) (by decide) ?_
        rw [show t * 40 + 0 = t * 40 from by grind]
        exact h2 (by clear h0 h1 h2; grind) (by clear h0 h1 h2; grind)
      · change Q (some (.int (-14))) (z, N, I, L, R)
        exact h1 (by clear h0 h1 h2; grind) (by clear h0 h1 h2; grind)
    · change Q (some (.int (-2))) (z, N, I, L, R)
      exact h0 (by clear h0 h1 h2; grind)
theorem c_X11_cell {d z : Nat} {N : Nat → Nat} {I : Nat → Nat → Int32} {L : Nat → Nat → Int64} {R : Nat → Nat → Option Nat} {Q : qP} {t : Int32} {i : Int32} {y : Int32} (hz : ∀ x : Int32, 0 ≤ x → x < 4 → -1 ≤ I 64 x.toNatClampNeg ∧ I 64 x.toNatClampNeg ≤ 40) (h0 : ¬ (0 ≤ t ∧ t < 4) → Q (some (.int (-2))) (z, N, I, L, R)) (h1 : (0 ≤ t ∧ t < 4) → I 64 t.toNatClampNeg < 0 → Q (some (.int (-11))) (z, N, I, L, R)) (h2 : (0 ≤ t ∧ t < 4) → 0 ≤ I 64 t.toNatClampNeg → ¬ (0 ≤ i ∧ i < I 64 t.toNatClampNeg) → Q (some (.int (-12))) (z, N, I, L, R)) (h3 : (0 ≤ t ∧ t < 4) → 0 ≤ i → i < I 64 t.toNatClampNeg → Q (some (.int 1)) (z, N, q2 I 63 (t * 40 + i).toNatClampNeg (vp_nar .byte y.toInt8.toInt32), L, R)) : qWP (d + 4) 163 [.ref 2, .int t, .int i, .int y] (z, N, I, L, R) Q := by
  refine qWP_of m_X11_cell rfl rfl [(0, .ref 2), (1, .int t), (2, .int i), (3, .int y)] rfl ?_
  refine qJ_run (qWP_mono _) [] 400 ?_
  refine ⟨⟨Nat.le_refl _, Nat.le_refl _⟩, ?_⟩
  refine c_X10_has fun v1 hv1 => ?_
  refine ⟨fun (c1 : ¬ v1 = 0) => ?_, fun (c1 : v1 = 0) => ?_⟩
  · refine ⟨⟨Nat.le_refl _, Nat.le_refl _⟩, ?_⟩
    have hz1 := hz t (by clear h0 h1 h2 h3; grind) (by clear h0 h1 h2 h3; grind)
    refine c_X10_isMissing fun v2 hv2 => ?_
    refine ⟨fun (c2 : v2 = 0) => ?_, fun (c2 : ¬ v2 = 0) => ?_⟩
    · refine ⟨⟨Nat.le_refl _, Nat.le_refl _⟩, ?_⟩
      have hz1 := hz t (by clear h0 h1 h2 h3; grind) (by clear h0 h1 h2 h3; grind)
      refine c_X10_set (by clear h0 h1 h2 h3; grind) hz1 (fun e3 => ?_) (fun e3 e31 => ?_)
      · refine ⟨fun (c3 : 0 = 0) => ?_, fun (c3 : ¬ 0 = 0) => ?_⟩
        · change Q (some (.int (-12))) (z, N, I, L, R)
          exact h2 (by clear h0 h1 h2 h3; grind) (by clear h0 h1 h2 h3; grind) (by clear h0 h1 h2 h3; grind)
        · change Q (some (.int 1)) (z, N, I, L, R)
          exact absurd rfl c3
      · refine ⟨fun (c4 : 1 = 0) => ?_, fun (c4 : ¬ 1 = 0) => ?_⟩
        · change Q (some (.int (-12))) (z, N, q2 I 63 ((t * 40 + i).toNatClampNeg) (vp_nar .byte y.toInt8.toInt32), L, R)
          exact absurd c4 (by decide)
        · change Q (some (.int 1)) (z, N, q2 I 63 ((t * 40 + i).toNatClampNeg) (vp_nar .byte y.toInt8.toInt32), L, R)
          exact h3 (by clear h0 h1 h2 h3; grind) (by clear h0 h1 h2 h3; grind) (by clear h0 h1 h2 h3; grind)
    · change Q (some (.int (-11))) (z, N, I, L, R)
      exact h1 (by clear h0 h1 h2 h3; grind) (by clear h0 h1 h2 h3; grind)
  · change Q (some (.int (-2))) (z, N, I, L, R)
    exact h0 (by clear h0 h1 h2 h3; grind)
theorem c_X12_cell {d z : Nat} {N : Nat → Nat} {I : Nat → Nat → Int32} {L : Nat → Nat → Int64} {R : Nat → Nat → Option Nat} {Q : qP} {t : Int32} {i : Int32} {y : Int32} (hz : ∀ x : Int32, 0 ≤ x → x < 4 → -1 ≤ I 94 x.toNatClampNeg ∧ I 94 x.toNatClampNeg ≤ 40) (h0 : ¬ (0 ≤ t ∧ t < 4) → Q (some (.int (-2))) (z, N, I, L, R)) (h1 : (0 ≤ t ∧ t < 4) → I 94 t.toNatClampNeg < 0 → Q (some (.int (-11))) (z, N, I, L, R)) (h2 : (0 ≤ t ∧ t < 4) → 0 ≤ I 94 t.toNatClampNeg → ¬ (0 ≤ i ∧ i < I 94 t.toNatClampNeg) → Q (some (.int (-12))) (z, N, I, L, R)) (h3 : (0 ≤ t ∧ t < 4) → 0 ≤ i → i < I 94 t.toNatClampNeg → Q (some (.int 1)) (z, N, q2 I 95 (t * 40 + i).toNatClampNeg (y &&& 255), L, R)) : qWP (d + 2) 243 [.ref 65, .int t, .int i, .int y] (z, N, I, L, R) Q := by
  refine qWP_of m_X12_cell rfl rfl [(0, .ref 65), (1, .int t), (2, .int i), (3, .int y)] rfl ?_
  refine qJ_run (qWP_mono _) [] 400 ?_
  refine ⟨⟨Nat.le_refl _, Nat.le_refl _⟩, ?_⟩
  refine c_X12_isIn fun v1 hv1 => ?_
  refine ⟨fun (c1 : ¬ v1 = 0) => ?_, fun (c1 : v1 = 0) => ?_⟩
  · refine ⟨?_, ?_⟩
    · exact vb (x := t) (N := 4) 4 (by decide) (by clear h0 h1 h2 h3; grind) (by clear h0 h1 h2 h3; grind)
    refine ⟨fun (c2 : 0 ≤ (I 94 ((t).toNatClampNeg))) => ?_, fun (c2 : ¬ 0 ≤ (I 94 ((t).toNatClampNeg))) => ?_⟩
    · refine ⟨?_, ?_⟩
      · exact vb (x := t) (N := 4) 4 (by decide) (by clear h0 h1 h2 h3; grind) (by clear h0 h1 h2 h3; grind)
      refine ⟨⟨Nat.le_refl _, Nat.le_refl _⟩, ?_⟩
      refine c_X12_isIn fun v2 hv2 => ?_
      refine ⟨fun (c3 : ¬ v2 = 0) => ?_, fun (c3 : v2 = 0) => ?_⟩
      · refine ⟨?_, ?_⟩
        · have g := tr_ix (t := t) (i := i) (by clear h0 h1 h2 h3; grind) (by have := hz t (by clear h0 h1 h2 h3; grind) (by clear h0 h1 h2 h3; grind); clear h0 h1 h2 h3; grind)
          rw [← g.2.1] at g
          exact vb (N := 160) 160 (by decide) g.1.1 g.1.2
        change Q (some (.int 1)) (z, N, q2 I 95 (((40 * t) + i).toNatClampNeg) (y &&& 255), L, R)
        rw [(tr_ix (t := t) (i := i) (by clear h0 h1 h2 h3; grind) (by have := hz t (by clear h0 h1 h2 h3; grind) (by clear h0 h1 h2 h3; grind); clear h0 h1 h2 h3; grind)).2.1]
        exact h3 (by clear h0 h1 h2 h3; grind) (by clear h0 h1 h2 h3; grind) (by clear h0 h1 h2 h3; grind)
      · change Q (some (.int (-12))) (z, N, I, L, R)
        exact h2 (by clear h0 h1 h2 h3; grind) (by clear h0 h1 h2 h3; grind) (by clear h0 h1 h2 h3; grind)
    · change Q (some (.int (-11))) (z, N, I, L, R)
      exact h1 (by clear h0 h1 h2 h3; grind) (by clear h0 h1 h2 h3; grind)
  · change Q (some (.int (-2))) (z, N, I, L, R)
    exact h0 (by clear h0 h1 h2 h3; grind)
theorem op_tray {M : qM} (hI : qInv M) (t : Int32) (n : Int32) : qOp 162 242 [.int t, .int n] M := by
  obtain ⟨z, N, I, L, R⟩ := M
  obtain ⟨hst, hSt, hHa, hTo, hTp, hEd, hDa, hPe, hTr, hTx, hMk, hKA⟩ := hI
  dsimp only at hst hSt hHa hTo hTp hEd hDa hPe hTr hTx hMk hKA
  have hs : 0 ≤ I 3 2 ∧ I 3 2 ≤ 12 := ⟨hSt.2.1, hSt.2.2.1⟩
  have hn : 0 ≤ I 6 2 ∧ I 6 2 ≤ 6 := ⟨hHa.2.1, hHa.2.2.1⟩
  have hl : ∀ x : Int32, 0 ≤ x → x < I 3 2 → I 4 x.toNatClampNeg ≤ 4 ∧ I 5 x.toNatClampNeg ≤ 24 := fun x a b => ⟨(hSt.2.2.2 x a b).2.2.1, (hSt.2.2.2 x a b).2.2.2.2.2⟩
  have hs2 : 0 ≤ I 65 0 ∧ I 65 0 ≤ 12 := by rw [hSt.1]; exact hs
  have hl2 : ∀ x : Int32, 0 ≤ x → x < I 65 0 → I 66 x.toNatClampNeg ≤ 4 ∧ I 67 x.toNatClampNeg ≤ 24 := fun x a b => by
    rw [hSt.1] at b
    rw [(hSt.2.2.2 x a b).1, (hSt.2.2.2 x a b).2.2.2.1]
    exact hl x a b
  refine c_X11_tray hst (fun a0 => ?_) (fun a0 a1 => ?_) (fun a0 a1 => ?_)
  · refine ⟨_, rfl, ⟨rfl, rfl, hst⟩, ?_⟩
    refine c_X12_tray (fun b0 => ?_) (fun b0 b1 => ?_) (fun b0 b1 => ?_)
    · exact ⟨rfl, ⟨by first | rfl | (simp (decide := true) only [q2_ne, q2_r1, uI_at, uI_nj, qRow_ne, qRow_at]), rfl⟩, ⟨hst, (by first | exact hSt | (simp (decide := true) only [q2_ne, q2_r1, uI_at, uI_nj, qRow_ne, qRow_at]; exact hSt)), (by first | exact hHa | (simp (decide := true) only [q2_ne, q2_r1, uI_at, uI_nj, qRow_ne, qRow_at]; exact hHa)), (by first | exact hTo | (simp (decide := true) only [q2_ne, q2_r1, uI_at, uI_nj, qRow_ne, qRow_at]; exact hTo)), (by first | exact hTp | (simp (decide := true) only [q2_ne, q2_r1, uI_at, uI_nj, qRow_ne, qRow_at]; exact hTp)), (by first | exact hEd | (simp (decide := true) only [q2_ne, q2_r1, uI_at, uI_nj, qRow_ne, qRow_at]; exact hEd)), (by first | exact hDa | (simp (decide := true) only [q2_ne, q2_r1, uI_at, uI_nj, qRow_ne, qRow_at]; exact hDa)), (by first | exact hPe | (simp (decide := true) only [q2_ne, q2_r1, uI_at, uI_nj, qRow_ne, qRow_at]; exact hPe)), (by first | exact hTr | (simp (decide := true) only [q2_ne, q2_r1, uI_at, uI_nj, qRow_ne, qRow_at]; exact hTr)), (RTx_of hTx (by simp (decide := true) only [q2_ne, q2_r1, uI_at, uI_nj, qRow_ne, qRow_at]) (by simp (decide := true) only [q2_ne, q2_r1, uI_at, uI_nj, qRow_ne, qRow_at]) (by simp (decide := true) only [q2_ne, q2_r1, uI_at, uI_nj, qRow_ne, qRow_at]) (by simp (decide := true) only [q2_ne, q2_r1, uI_at, uI_nj, qRow_ne, qRow_at]) (by simp (decide := true) only [q2_ne, q2_r1, uI_at, uI_nj, qRow_ne, qRow_at]) (fun k hk => by (try dsimp only); repeat first | rfl | rw [q2_ne (by omega)] | rw [qRow_ne (by omega)]) (fun k hk => by (try dsimp only); repeat first | rfl | rw [q2_ne (by omega)] | rw [qRow_ne (by omega)])), (by first | exact hMk | (simp (decide := true) only [q2_ne, q2_r1, uI_at, uI_nj, qRow_ne, qRow_at]; exact hMk)), (by first | exact hKA | (simp (decide := true) only [q2_ne, q2_r1, uI_at, uI_nj, qRow_ne, qRow_at]; exact hKA))⟩⟩
    · exfalso; (try simp (decide := true) only [q2_ne, q2_r1, uI_at, uI_nj, qRow_ne, qRow_at] at *); (try simp only [place_eq hSt] at *); (try simp only [line_eq hSt] at *); (try rw [hSt.1] at *); (try rw [hHa.1] at *); clear hst hSt hHa hTo hTp hEd hDa hPe hTr hTx hMk hKA hl hl2; grind
    · exfalso; (try simp (decide := true) only [q2_ne, q2_r1, uI_at, uI_nj, qRow_ne, qRow_at] at *); (try simp only [place_eq hSt] at *); (try simp only [line_eq hSt] at *); (try rw [hSt.1] at *); (try rw [hHa.1] at *); clear hst hSt hHa hTo hTp hEd hDa hPe hTr hTx hMk hKA hl hl2; grind
  · refine ⟨_, rfl, ⟨rfl, rfl, hst⟩, ?_⟩
    refine c_X12_tray (fun b0 => ?_) (fun b0 b1 => ?_) (fun b0 b1 => ?_)
    · exfalso; (try simp (decide := true) only [q2_ne, q2_r1, uI_at, uI_nj, qRow_ne, qRow_at] at *); (try simp only [place_eq hSt] at *); (try simp only [line_eq hSt] at *); (try rw [hSt.1] at *); (try rw [hHa.1] at *); clear hst hSt hHa hTo hTp hEd hDa hPe hTr hTx hMk hKA hl hl2; grind
    · exact ⟨rfl, ⟨by first | rfl | (simp (decide := true) only [q2_ne, q2_r1, uI_at, uI_nj, qRow_ne, qRow_at]), rfl⟩, ⟨hst, (by first | exact hSt | (simp (decide := true) only [q2_ne, q2_r1, uI_at, uI_nj, qRow_ne, qRow_at]; exact hSt)), (by first | exact hHa | (simp (decide := true) only [q2_ne, q2_r1, uI_at, uI_nj, qRow_ne, qRow_at]; exact hHa)), (by first | exact hTo | (simp (decide := true) only [q2_ne, q2_r1, uI_at, uI_nj, qRow_ne, qRow_at]; exact hTo)), (by first | exact hTp | (simp (decide := true) only [q2_ne, q2_r1, uI_at, uI_nj, qRow_ne, qRow_at]; exact hTp)), (by first | exact hEd | (simp (decide := true) only [q2_ne, q2_r1, uI_at, uI_nj, qRow_ne, qRow_at]; exact hEd)), (by first | exact hDa | (simp (decide := true) only [q2_ne, q2_r1, uI_at, uI_nj, qRow_ne, qRow_at]; exact hDa)), (by first | exact hPe | (simp (decide := true) only [q2_ne, q2_r1, uI_at, uI_nj, qRow_ne, qRow_at]; exact hPe)), (by first | exact hTr | (simp (decide := true) only [q2_ne, q2_r1, uI_at, uI_nj, qRow_ne, qRow_at]; exact hTr)), (RTx_of hTx (by simp (decide := true) only [q2_ne, q2_r1, uI_at, uI_nj, qRow_ne, qRow_at]) (by simp (decide := true) only [q2_ne, q2_r1, uI_at, uI_nj, qRow_ne, qRow_at]) (by simp (decide := true) only [q2_ne, q2_r1, uI_at, uI_nj, qRow_ne, qRow_at]) (by simp (decide := true) only [q2_ne, q2_r1, uI_at, uI_nj, qRow_ne, qRow_at]) (by simp (decide := true) only [q2_ne, q2_r1, uI_at, uI_nj, qRow_ne, qRow_at]) (fun k hk => by (try dsimp only); repeat first | rfl | rw [q2_ne (by omega)] | rw [qRow_ne (by omega)]) (fun k hk => by (try dsimp only); repeat first | rfl | rw [q2_ne (by omega)] | rw [qRow_ne (by omega)])), (by first | exact hMk | (simp (decide := true) only [q2_ne, q2_r1, uI_at, uI_nj, qRow_ne, qRow_at]; exact hMk)), (by first | exact hKA | (simp (decide := true) only [q2_ne, q2_r1, uI_at, uI_nj, qRow_ne, qRow_at]; exact hKA))⟩⟩
    · exfalso; (try simp (decide := true) only [q2_ne, q2_r1, uI_at, uI_nj, qRow_ne, qRow_at] at *); (try simp only [place_eq hSt] at *); (try simp only [line_eq hSt] at *); (try rw [hSt.1] at *); (try rw [hHa.1] at *); clear hst hSt hHa hTo hTp hEd hDa hPe hTr hTx hMk hKA hl hl2; grind
  · refine ⟨_, rfl, ⟨by simp (decide := true) only [q2_ne, q2_r1, uI_at, uI_nj, qRow_ne, qRow_at], rfl, hst⟩, ?_⟩
    refine c_X12_tray (fun b0 => ?_) (fun b0 b1 => ?_) (fun b0 b1 => ?_)
    · exfalso; (try simp (decide := true) only [q2_ne, q2_r1, uI_at, uI_nj, qRow_ne, qRow_at] at *); (try simp only [place_eq hSt] at *); (try simp only [line_eq hSt] at *); (try rw [hSt.1] at *); (try rw [hHa.1] at *); clear hst hSt hHa hTo hTp hEd hDa hPe hTr hTx hMk hKA hl hl2; grind
    · exfalso; (try simp (decide := true) only [q2_ne, q2_r1, uI_at, uI_nj, qRow_ne, qRow_at] at *); (try simp only [place_eq hSt] at *); (try simp only [line_eq hSt] at *); (try rw [hSt.1] at *); (try rw [hHa.1] at *); clear hst hSt hHa hTo hTp hEd hDa hPe hTr hTx hMk hKA hl hl2; grind
    · exact ⟨rfl, ⟨by first | rfl | (simp (decide := true) only [q2_ne, q2_r1, uI_at, uI_nj, qRow_ne, qRow_at]), rfl⟩, ⟨hst, (by first | exact hSt | (simp (decide := true) only [q2_ne, q2_r1, uI_at, uI_nj, qRow_ne, qRow_at]; exact hSt)), (by first | exact hHa | (simp (decide := true) only [q2_ne, q2_r1, uI_at, uI_nj, qRow_ne, qRow_at]; exact hHa)), (by first | exact hTo | (simp (decide := true) only [q2_ne, q2_r1, uI_at, uI_nj, qRow_ne, qRow_at]; exact hTo)), (by first | exact hTp | (simp (decide := true) only [q2_ne, q2_r1, uI_at, uI_nj, qRow_ne, qRow_at]; exact hTp)), (by first | exact hEd | (simp (decide := true) only [q2_ne, q2_r1, uI_at, uI_nj, qRow_ne, qRow_at]; exact hEd)), (by first | exact hDa | (simp (decide := true) only [q2_ne, q2_r1, uI_at, uI_nj, qRow_ne, qRow_at]; exact hDa)), (by first | exact hPe | (simp (decide := true) only [q2_ne, q2_r1, uI_at, uI_nj, qRow_ne, qRow_at]; exact hPe)), (by simp (decide := true) only [q2_ne, q2_r1, uI_at, uI_nj, qRow_ne, qRow_at]; exact RTr_put hTr (by clear hst hSt hHa hTo hTp hEd hDa hPe hTr hTx hMk hKA hl hl2 b0 b1; grind) (by clear hst hSt hHa hTo hTp hEd hDa hPe hTr hTx hMk hKA hl hl2 b0 b1; grind)), (RTx_of hTx (by simp (decide := true) only [q2_ne, q2_r1, uI_at, uI_nj, qRow_ne, qRow_at]) (by simp (decide := true) only [q2_ne, q2_r1, uI_at, uI_nj, qRow_ne, qRow_at]) (by simp (decide := true) only [q2_ne, q2_r1, uI_at, uI_nj, qRow_ne, qRow_at]) (by simp (decide := true) only [q2_ne, q2_r1, uI_at, uI_nj, qRow_ne, qRow_at]) (by simp (decide := true) only [q2_ne, q2_r1, uI_at, uI_nj, qRow_ne, qRow_at]) (fun k hk => by (try dsimp only); repeat first | rfl | rw [q2_ne (by omega)] | rw [qRow_ne (by omega)]) (fun k hk => by (try dsimp only); repeat first | rfl | rw [q2_ne (by omega)] | rw [qRow_ne (by omega)])), (by first | exact hMk | (simp (decide := true) only [q2_ne, q2_r1, uI_at, uI_nj, qRow_ne, qRow_at]; exact hMk)), (by first | exact hKA | (simp (decide := true) only [q2_ne, q2_r1, uI_at, uI_nj, qRow_ne, qRow_at]; exact hKA))⟩⟩

theorem op_cell {M : qM} (hI : qInv M) (t : Int32) (i : Int32) (y : Int32) : qOp 163 243 [.int t, .int i, .int y] M := by
  obtain ⟨z, N, I, L, R⟩ := M
  obtain ⟨hst, hSt, hHa, hTo, hTp, hEd, hDa, hPe, hTr, hTx, hMk, hKA⟩ := hI
  dsimp only at hst hSt hHa hTo hTp hEd hDa hPe hTr hTx hMk hKA
  have hs : 0 ≤ I 3 2 ∧ I 3 2 ≤ 12 := ⟨hSt.2.1, hSt.2.2.1⟩
  have hn : 0 ≤ I 6 2 ∧ I 6 2 ≤ 6 := ⟨hHa.2.1, hHa.2.2.1⟩
  have hl : ∀ x : Int32, 0 ≤ x → x < I 3 2 → I 4 x.toNatClampNeg ≤ 4 ∧ I 5 x.toNatClampNeg ≤ 24 := fun x a b => ⟨(hSt.2.2.2 x a b).2.2.1, (hSt.2.2.2 x a b).2.2.2.2.2⟩
  have hs2 : 0 ≤ I 65 0 ∧ I 65 0 ≤ 12 := by rw [hSt.1]; exact hs
  have hl2 : ∀ x : Int32, 0 ≤ x → x < I 65 0 → I 66 x.toNatClampNeg ≤ 4 ∧ I 67 x.toNatClampNeg ≤ 24 := fun x a b => by
    rw [hSt.1] at b
    rw [(hSt.2.2.2 x a b).1, (hSt.2.2.2 x a b).2.2.2.1]
    exact hl x a b
  have hz : ∀ x : Int32, 0 ≤ x → x < 4 → -1 ≤ I 64 x.toNatClampNeg ∧ I 64 x.toNatClampNeg ≤ 40 := fun x a b => (hTr.1 x a b).2
  have hzz : ∀ x : Int32, 0 ≤ x → x < 4 → I 94 x.toNatClampNeg = I 64 x.toNatClampNeg := fun x a b => (hTr.1 x a b).1
  have hz2 : ∀ x : Int32, 0 ≤ x → x < 4 → -1 ≤ I 94 x.toNatClampNeg ∧ I 94 x.toNatClampNeg ≤ 40 := fun x a b => by rw [(hTr.1 x a b).1]; exact hz x a b
  refine c_X11_cell hz (fun a0 => ?_) (fun a0 a1 => ?_) (fun a0 a1 a2 => ?_) (fun a0 a1 a2 => ?_)
  · refine ⟨_, rfl, ⟨rfl, rfl, hst⟩, ?_⟩
    refine c_X12_cell (by first | exact hz2 | (simp (decide := true) only [q2_ne, q2_r1, uI_at, uI_nj, qRow_ne, qRow_at]; exact hz2)) (fun b0 => ?_) (fun b0 b1 => ?_) (fun b0 b1 b2 => ?_) (fun b0 b1 b2 => ?_)
    · exact ⟨rfl, ⟨by first | rfl | (simp (decide := true) only [q2_ne, q2_r1, uI_at, uI_nj, qRow_ne, qRow_at]), rfl⟩, ⟨hst, (by first | exact hSt | (simp (decide := true) only [q2_ne, q2_r1, uI_at, uI_nj, qRow_ne, qRow_at]; exact hSt)), (by first | exact hHa | (simp (decide := true) only [q2_ne, q2_r1, uI_at, uI_nj, qRow_ne, qRow_at]; exact hHa)), (by first | exact hTo | (simp (decide := true) only [q2_ne, q2_r1, uI_at, uI_nj, qRow_ne, qRow_at]; exact hTo)), (by first | exact hTp | (simp (decide := true) only [q2_ne, q2_r1, uI_at, uI_nj, qRow_ne, qRow_at]; exact hTp)), (by first | exact hEd | (simp (decide := true) only [q2_ne, q2_r1, uI_at, uI_nj, qRow_ne, qRow_at]; exact hEd)), (by first | exact hDa | (simp (decide := true) only [q2_ne, q2_r1, uI_at, uI_nj, qRow_ne, qRow_at]; exact hDa)), (by first | exact hPe | (simp (decide := true) only [q2_ne, q2_r1, uI_at, uI_nj, qRow_ne, qRow_at]; exact hPe)), (by first | exact hTr | (simp (decide := true) only [q2_ne, q2_r1, uI_at, uI_nj, qRow_ne, qRow_at]; exact hTr)), (RTx_of hTx (by simp (decide := true) only [q2_ne, q2_r1, uI_at, uI_nj, qRow_ne, qRow_at]) (by simp (decide := true) only [q2_ne, q2_r1, uI_at, uI_nj, qRow_ne, qRow_at]) (by simp (decide := true) only [q2_ne, q2_r1, uI_at, uI_nj, qRow_ne, qRow_at]) (by simp (decide := true) only [q2_ne, q2_r1, uI_at, uI_nj, qRow_ne, qRow_at]) (by simp (decide := true) only [q2_ne, q2_r1, uI_at, uI_nj, qRow_ne, qRow_at]) (fun k hk => by (try dsimp only); repeat first | rfl | rw [q2_ne (by omega)] | rw [qRow_ne (by omega)]) (fun k hk => by (try dsimp only); repeat first | rfl | rw [q2_ne (by omega)] | rw [qRow_ne (by omega)])), (by first | exact hMk | (simp (decide := true) only [q2_ne, q2_r1, uI_at, uI_nj, qRow_ne, qRow_at]; exact hMk)), (by first | exact hKA | (simp (decide := true) only [q2_ne, q2_r1, uI_at, uI_nj, qRow_ne, qRow_at]; exact hKA))⟩⟩
    · exfalso; (try simp (decide := true) only [q2_ne, q2_r1, uI_at, uI_nj, qRow_ne, qRow_at] at *); (try simp only [place_eq hSt] at *); (try simp only [line_eq hSt] at *); (try rw [hSt.1] at *); (try rw [hHa.1] at *); clear hst hSt hHa hTo hTp hEd hDa hPe hTr hTx hMk hKA hl hl2; grind
    · exfalso; (try simp (decide := true) only [q2_ne, q2_r1, uI_at, uI_nj, qRow_ne, qRow_at] at *); (try simp only [place_eq hSt] at *); (try simp only [line_eq hSt] at *); (try rw [hSt.1] at *); (try rw [hHa.1] at *); clear hst hSt hHa hTo hTp hEd hDa hPe hTr hTx hMk hKA hl hl2; grind
    · exfalso; (try simp (decide := true) only [q2_ne, q2_r1, uI_at, uI_nj, qRow_ne, qRow_at] at *); (try simp only [place_eq hSt] at *); (try simp only [line_eq hSt] at *); (try rw [hSt.1] at *); (try rw [hHa.1] at *); clear hst hSt hHa hTo hTp hEd hDa hPe hTr hTx hMk hKA hl hl2; grind
  · have hzt := hzz t a0.1 a0.2
    refine ⟨_, rfl, ⟨rfl, rfl, hst⟩, ?_⟩
    refine c_X12_cell (by first | exact hz2 | (simp (decide := true) only [q2_ne, q2_r1, uI_at, uI_nj, qRow_ne, qRow_at]; exact hz2)) (fun b0 => ?_) (fun b0 b1 => ?_) (fun b0 b1 b2 => ?_) (fun b0 b1 b2 => ?_)
    · exfalso; (try simp (decide := true) only [q2_ne, q2_r1, uI_at, uI_nj, qRow_ne, qRow_at] at *); (try simp only [place_eq hSt] at *); (try simp only [line_eq hSt] at *); (try rw [hSt.1] at *); (try rw [hHa.1] at *); clear hst hSt hHa hTo hTp hEd hDa hPe hTr hTx hMk hKA hl hl2; grind
    · exact ⟨rfl, ⟨by first | rfl | (simp (decide := true) only [q2_ne, q2_r1, uI_at, uI_nj, qRow_ne, qRow_at]), rfl⟩, ⟨hst, (by first | exact hSt | (simp (decide := true) only [q2_ne, q2_r1, uI_at, uI_nj, qRow_ne, qRow_at]; exact hSt)), (by first | exact hHa | (simp (decide := true) only [q2_ne, q2_r1, uI_at, uI_nj, qRow_ne, qRow_at]; exact hHa)), (by first | exact hTo | (simp (decide := true) only [q2_ne, q2_r1, uI_at, uI_nj, qRow_ne, qRow_at]; exact hTo)), (by first | exact hTp | (simp (decide := true) only [q2_ne, q2_r1, uI_at, uI_nj, qRow_ne, qRow_at]; exact hTp)), (by first | exact hEd | (simp (decide := true) only [q2_ne, q2_r1, uI_at, uI_nj, qRow_ne, qRow_at]; exact hEd)), (by first | exact hDa | (simp (decide := true) only [q2_ne, q2_r1, uI_at, uI_nj, qRow_ne, qRow_at]; exact hDa)), (by first | exact hPe | (simp (decide := true) only [q2_ne, q2_r1, uI_at, uI_nj, qRow_ne, qRow_at]; exact hPe)), (by first | exact hTr | (simp (decide := true) only [q2_ne, q2_r1, uI_at, uI_nj, qRow_ne, qRow_at]; exact hTr)), (RTx_of hTx (by simp (decide := true) only [q2_ne, q2_r1, uI_at, uI_nj, qRow_ne, qRow_at]) (by simp (decide := true) only [q2_ne, q2_r1, uI_at, uI_nj, qRow_ne, qRow_at]) (by simp (decide := true) only [q2_ne, q2_r1, uI_at, uI_nj, qRow_ne, qRow_at]) (by simp (decide := true) only [q2_ne, q2_r1, uI_at, uI_nj, qRow_ne, qRow_at]) (by simp (decide := true) only [q2_ne, q2_r1, uI_at, uI_nj, qRow_ne, qRow_at]) (fun k hk => by (try dsimp only); repeat first | rfl | rw [q2_ne (by omega)] | rw [qRow_ne (by omega)]) (fun k hk => by (try dsimp only); repeat first | rfl | rw [q2_ne (by omega)] | rw [qRow_ne (by omega)])), (by first | exact hMk | (simp (decide := true) only [q2_ne, q2_r1, uI_at, uI_nj, qRow_ne, qRow_at]; exact hMk)), (by first | exact hKA | (simp (decide := true) only [q2_ne, q2_r1, uI_at, uI_nj, qRow_ne, qRow_at]; exact hKA))⟩⟩
    · exfalso; (try simp (decide := true) only [q2_ne, q2_r1, uI_at, uI_nj, qRow_ne, qRow_at] at *); (try simp only [place_eq hSt] at *); (try simp only [line_eq hSt] at *); (try rw [hSt.1] at *); (try rw [hHa.1] at *); clear hst hSt hHa hTo hTp hEd hDa hPe hTr hTx hMk hKA hl hl2; grind
    · exfalso; (try simp (decide := true) only [q2_ne, q2_r1, uI_at, uI_nj, qRow_ne, qRow_at] at *); (try simp only [place_eq hSt] at *); (try simp only [line_eq hSt] at *); (try rw [hSt.1] at *); (try rw [hHa.1] at *); clear hst hSt hHa hTo hTp hEd hDa hPe hTr hTx hMk hKA hl hl2; grind
  · have hzt := hzz t a0.1 a0.2
    refine ⟨_, rfl, ⟨rfl, rfl, hst⟩, ?_⟩
    refine c_X12_cell (by first | exact hz2 | (simp (decide := true) only [q2_ne, q2_r1, uI_at, uI_nj, qRow_ne, qRow_at]; exact hz2)) (fun b0 => ?_) (fun b0 b1 => ?_) (fun b0 b1 b2 => ?_) (fun b0 b1 b2 => ?_)
    · exfalso; (try simp (decide := true) only [q2_ne, q2_r1, uI_at, uI_nj, qRow_ne, qRow_at] at *); (try simp only [place_eq hSt] at *); (try simp only [line_eq hSt] at *); (try rw [hSt.1] at *); (try rw [hHa.1] at *); clear hst hSt hHa hTo hTp hEd hDa hPe hTr hTx hMk hKA hl hl2; grind
    · exfalso; (try simp (decide := true) only [q2_ne, q2_r1, uI_at, uI_nj, qRow_ne, qRow_at] at *); (try simp only [place_eq hSt] at *); (try simp only [line_eq hSt] at *); (try rw [hSt.1] at *); (try rw [hHa.1] at *); clear hst hSt hHa hTo hTp hEd hDa hPe hTr hTx hMk hKA hl hl2; grind
    · exact ⟨rfl, ⟨by first | rfl | (simp (decide := true) only [q2_ne, q2_r1, uI_at, uI_nj, qRow_ne, qRow_at]), rfl⟩, ⟨hst, (by first | exact hSt | (simp (decide := true) only [q2_ne, q2_r1, uI_at, uI_nj, qRow_ne, qRow_at]; exact hSt)), (by first | exact hHa | (simp (decide := true) only [q2_ne, q2_r1, uI_at, uI_nj, qRow_ne, qRow_at]; exact hHa)), (by first | exact hTo | (simp (decide := true) only [q2_ne, q2_r1, uI_at, uI_nj, qRow_ne, qRow_at]; exact hTo)), (by first | exact hTp | (simp (decide := true) only [q2_ne, q2_r1, uI_at, uI_nj, qRow_ne, qRow_at]; exact hTp)), (by first | exact hEd | (simp (decide := true) only [q2_ne, q2_r1, uI_at, uI_nj, qRow_ne, qRow_at]; exact hEd)), (by first | exact hDa | (simp (decide := true) only [q2_ne, q2_r1, uI_at, uI_nj, qRow_ne, qRow_at]; exact hDa)), (by first | exact hPe | (simp (decide := true) only [q2_ne, q2_r1, uI_at, uI_nj, qRow_ne, qRow_at]; exact hPe)), (by first | exact hTr | (simp (decide := true) only [q2_ne, q2_r1, uI_at, uI_nj, qRow_ne, qRow_at]; exact hTr)), (RTx_of hTx (by simp (decide := true) only [q2_ne, q2_r1, uI_at, uI_nj, qRow_ne, qRow_at]) (by simp (decide := true) only [q2_ne, q2_r1, uI_at, uI_nj, qRow_ne, qRow_at]) (by simp (decide := true) only [q2_ne, q2_r1, uI_at, uI_nj, qRow_ne, qRow_at]) (by simp (decide := true) only [q2_ne, q2_r1, uI_at, uI_nj, qRow_ne, qRow_at]) (by simp (decide := true) only [q2_ne, q2_r1, uI_at, uI_nj, qRow_ne, qRow_at]) (fun k hk => by (try dsimp only); repeat first | rfl | rw [q2_ne (by omega)] | rw [qRow_ne (by omega)]) (fun k hk => by (try dsimp only); repeat first | rfl | rw [q2_ne (by omega)] | rw [qRow_ne (by omega)])), (by first | exact hMk | (simp (decide := true) only [q2_ne, q2_r1, uI_at, uI_nj, qRow_ne, qRow_at]; exact hMk)), (by first | exact hKA | (simp (decide := true) only [q2_ne, q2_r1, uI_at, uI_nj, qRow_ne, qRow_at]; exact hKA))⟩⟩
    · exfalso; (try simp (decide := true) only [q2_ne, q2_r1, uI_at, uI_nj, qRow_ne, qRow_at] at *); (try simp only [place_eq hSt] at *); (try simp only [line_eq hSt] at *); (try rw [hSt.1] at *); (try rw [hHa.1] at *); clear hst hSt hHa hTo hTp hEd hDa hPe hTr hTx hMk hKA hl hl2; grind
  · have hzt := hzz t a0.1 a0.2
    refine ⟨_, rfl, ⟨by simp (decide := true) only [q2_ne, q2_r1, uI_at, uI_nj, qRow_ne, qRow_at], rfl, hst⟩, ?_⟩
    refine c_X12_cell (by first | exact hz2 | (simp (decide := true) only [q2_ne, q2_r1, uI_at, uI_nj, qRow_ne, qRow_at]; exact hz2)) (fun b0 => ?_) (fun b0 b1 => ?_) (fun b0 b1 b2 => ?_) (fun b0 b1 b2 => ?_)
    · exfalso; (try simp (decide := true) only [q2_ne, q2_r1, uI_at, uI_nj, qRow_ne, qRow_at] at *); (try simp only [place_eq hSt] at *); (try simp only [line_eq hSt] at *); (try rw [hSt.1] at *); (try rw [hHa.1] at *); clear hst hSt hHa hTo hTp hEd hDa hPe hTr hTx hMk hKA hl hl2; grind
    · exfalso; (try simp (decide := true) only [q2_ne, q2_r1, uI_at, uI_nj, qRow_ne, qRow_at] at *); (try simp only [place_eq hSt] at *); (try simp only [line_eq hSt] at *); (try rw [hSt.1] at *); (try rw [hHa.1] at *); clear hst hSt hHa hTo hTp hEd hDa hPe hTr hTx hMk hKA hl hl2; grind
    · exfalso; (try simp (decide := true) only [q2_ne, q2_r1, uI_at, uI_nj, qRow_ne, qRow_at] at *); (try simp only [place_eq hSt] at *); (try simp only [line_eq hSt] at *); (try rw [hSt.1] at *); (try rw [hHa.1] at *); clear hst hSt hHa hTo hTp hEd hDa hPe hTr hTx hMk hKA hl hl2; grind
    · exact ⟨rfl, ⟨by first | rfl | (simp (decide := true) only [q2_ne, q2_r1, uI_at, uI_nj, qRow_ne, qRow_at]), rfl⟩, ⟨hst, (by first | exact hSt | (simp (decide := true) only [q2_ne, q2_r1, uI_at, uI_nj, qRow_ne, qRow_at]; exact hSt)), (by first | exact hHa | (simp (decide := true) only [q2_ne, q2_r1, uI_at, uI_nj, qRow_ne, qRow_at]; exact hHa)), (by first | exact hTo | (simp (decide := true) only [q2_ne, q2_r1, uI_at, uI_nj, qRow_ne, qRow_at]; exact hTo)), (by first | exact hTp | (simp (decide := true) only [q2_ne, q2_r1, uI_at, uI_nj, qRow_ne, qRow_at]; exact hTp)), (by first | exact hEd | (simp (decide := true) only [q2_ne, q2_r1, uI_at, uI_nj, qRow_ne, qRow_at]; exact hEd)), (by first | exact hDa | (simp (decide := true) only [q2_ne, q2_r1, uI_at, uI_nj, qRow_ne, qRow_at]; exact hDa)), (by first | exact hPe | (simp (decide := true) only [q2_ne, q2_r1, uI_at, uI_nj, qRow_ne, qRow_at]; exact hPe)), (by simp (decide := true) only [q2_ne, q2_r1, uI_at, uI_nj, qRow_ne, qRow_at]; exact RTr_cell hTr), (RTx_of hTx (by simp (decide := true) only [q2_ne, q2_r1, uI_at, uI_nj, qRow_ne, qRow_at]) (by simp (decide := true) only [q2_ne, q2_r1, uI_at, uI_nj, qRow_ne, qRow_at]) (by simp (decide := true) only [q2_ne, q2_r1, uI_at, uI_nj, qRow_ne, qRow_at]) (by simp (decide := true) only [q2_ne, q2_r1, uI_at, uI_nj, qRow_ne, qRow_at]) (by simp (decide := true) only [q2_ne, q2_r1, uI_at, uI_nj, qRow_ne, qRow_at]) (fun k hk => by (try dsimp only); repeat first | rfl | rw [q2_ne (by omega)] | rw [qRow_ne (by omega)]) (fun k hk => by (try dsimp only); repeat first | rfl | rw [q2_ne (by omega)] | rw [qRow_ne (by omega)])), (by first | exact hMk | (simp (decide := true) only [q2_ne, q2_r1, uI_at, uI_nj, qRow_ne, qRow_at]; exact hMk)), (by first | exact hKA | (simp (decide := true) only [q2_ne, q2_r1, uI_at, uI_nj, qRow_ne, qRow_at]; exact hKA))⟩⟩
end
section
/-! lay -/
def fLy (b : Int32) : Int32 := if b = 32 then fTd 0 26 else if 97 ≤ b ∧ b ≤ 122 then fTd 0 (b - 97) else fTd 3 0
def fLk (b : Int32) : Int32 := if b = 32 ∨ (97 ≤ b ∧ b ≤ 122) then 0 else 3
def fLm (b : Int32) : Int32 := if b = 32 then 1 <<< ((26 : Int32) &&& 31) else if 97 ≤ b ∧ b ≤ 122 then 1 <<< ((b - 97) &&& 31) else 134217727
theorem ly_rd (b : Int32) : rd1 (fLy b) (fLk b + 1) (fLm b) ∧ ¬ fLy b = 0 := by
  unfold fLy fLk fLm
  by_cases h : b = 32
  · rw [if_pos h, if_pos (Or.inl h), if_pos h]
    exact td_ok (k := 0) (v := 26) ⟨by decide, fun h => absurd h (by decide), fun _ => by decide⟩
  · rw [if_neg h, if_neg h]
    by_cases h2 : 97 ≤ b ∧ b ≤ 122
    · rw [if_pos h2, if_pos (Or.inr h2), if_pos h2]
      exact td_ok (k := 0) (v := b - 97) ⟨by decide, fun h => absurd h (by decide), fun _ => by grind⟩
    · rw [if_neg h2, if_neg (by grind), if_neg h2]
      exact td_ok (k := 3) (v := 0) ⟨by decide, fun h => absurd h (by decide), fun h => absurd h (by decide)⟩
def gLy (by_ : Nat → Int32) (sz t f a s l p : Int32) (tr : Nat → Int32) : Sum (Nat → Int32) (Int32 × (Nat → Int32)) :=
  if f < 0 ∨ sz - p ≤ f then .inr (-12, tr) else .inl (uI tr (tIx a s l p).toNatClampNeg (fLy (by_ (t * 40 + f + p).toNatClampNeg &&& 255)))
def gLr (by_ : Nat → Int32) (sz t f a s l p : Int32) (ky : (Nat → Int32) × (Nat → Int32)) : Sum ((Nat → Int32) × (Nat → Int32)) (Int32 × (Nat → Int32) × (Nat → Int32)) :=
  if f < 0 ∨ sz - p ≤ f then .inr (-12, ky) else .inl (uI ky.1 (tIx a s l p).toNatClampNeg (fLk (by_ (t * 40 + f + p).toNatClampNeg) + 1), uI ky.2 (tIx a s l p).toNatClampNeg (fLm (by_ (t * 40 + f + p).toNatClampNeg)))
def fLay (by_ : Nat → Int32) (sz t f a s l n : Int32) (tr : Nat → Int32) : Int32 × (Nat → Int32) := upS n (gLy by_ sz t f a s l) (fun tr => (n, tr)) 0 tr
def fLar (by_ : Nat → Int32) (sz t f a s l n : Int32) (ky : (Nat → Int32) × (Nat → Int32)) : Int32 × (Nat → Int32) × (Nat → Int32) := upS n (gLr by_ sz t f a s l) (fun ky => (n, ky)) 0 ky
theorem lay_rel {by_ by' : Nat → Int32} {sz t f a s l n : Int32} {tr k y : Nat → Int32} (ht : 0 ≤ t ∧ t < 4) (hz : -1 ≤ sz ∧ sz ≤ 40) (hn : 0 ≤ n ∧ n ≤ 24) (hb : ∀ j : Nat, j < 160 → by' j = by_ j &&& 255) (h : RTo tr k y) : (fLay by_ sz t f a s l n tr).1 = (fLar by' sz t f a s l n (k, y)).1 ∧ RTo (fLay by_ sz t f a s l n tr).2 (fLar by' sz t f a s l n (k, y)).2.1 (fLar by' sz t f a s l n (k, y)).2.2 := by
  refine upS_rel2 (fun _ (tr : Nat → Int32) (ky : (Nat → Int32) × (Nat → Int32)) => RTo tr ky.1 ky.2) (fun (r : Int32 × (Nat → Int32)) (q : Int32 × (Nat → Int32) × (Nat → Int32)) => r.1 = q.1 ∧ RTo r.2 q.2.1 q.2.2) (fun x y h => ⟨rfl, h⟩) (fun p x y h0 h1 h => ?_) 0 tr (k, y) (by decide) hn.1 h
  unfold gLy gLr
  by_cases hc : f < 0 ∨ sz - p ≤ f
  · rw [if_pos hc, if_pos hc]
    exact Or.inr ⟨_, _, rfl, rfl, rfl, h⟩
  · rw [if_neg hc, if_neg hc]
    have hr := fp_rng (f := f) (p := p) (z := sz) (fun h => hc (Or.inl h)) ⟨h0, by grind⟩ hz (fun h => hc (Or.inr h))
    have g := tr_ix (i := f + p) ht hr.1
    have e9 : t * 40 + (f + p) = t * 40 + f + p := by clear h hr g; grind
    rw [e9] at g
    have hj : (t * 40 + f + p).toNatClampNeg < 160 := by
      rw [tcn]
      have := Int32.lt_iff_toInt_lt.mp g.1.2
      rw [show (160 : Int32).toInt = 160 from rfl] at this
      omega
    refine Or.inl ⟨_, _, rfl, rfl, ?_⟩
    rw [hb _ hj]
    exact RTo_put h (ly_rd _).1
theorem lg_lt {a b : Int64} : lg_cmp a b < 0 ↔ a < b := by
  unfold lg_cmp
  split
  · rename_i h; simp [h]
  · split
    · rename_i h1 h2; subst h2; simp [Int64.lt_irrefl]
    · rename_i h1 h2; simp [h1]
theorem i64_add {f p : Int32} : (f.toInt64 + p.toInt64).toInt = f.toInt + p.toInt := by
  have h1 := Int32.toInt_lt f
  have h2 := Int32.le_toInt f
  have h3 := Int32.toInt_lt p
  have h4 := Int32.le_toInt p
  rw [Int64.toInt_add, Int32.toInt_toInt64, Int32.toInt_toInt64]
  exact Int.bmod_eq_of_le (by omega) (by omega)
theorem lay_c {f p sz : Int32} (hp : 0 ≤ p ∧ p < 24) (hz : -1 ≤ sz ∧ sz ≤ 40) (h : p = 0 ∨ ¬ f < 0) : (f.toInt64 + p.toInt64 < 0 ∨ ¬ f.toInt64 + p.toInt64 < sz.toInt64) ↔ (f < 0 ∨ sz - p ≤ f) := by
  rw [Int64.lt_iff_toInt_lt, Int64.lt_iff_toInt_lt, i64_add, Int32.toInt_toInt64, show (0 : Int64).toInt = 0 from rfl]
  have e1 : (sz - p).toInt = sz.toInt - p.toInt := by
    simp only [fa_lt, fa_le] at hp hz
    rw [show (0 : Int32).toInt = 0 from rfl, show (24 : Int32).toInt = 24 from rfl] at hp
    rw [show (-1 : Int32).toInt = -1 from rfl, show (40 : Int32).toInt = 40 from rfl] at hz
    exact ti_sub (by omega)
  have hp0 : p = 0 → p.toInt = 0 := fun e => by rw [e]; rfl
  simp only [fa_lt, fa_le, e1] at *
  rw [show (0 : Int32).toInt = 0 from rfl] at *
  rcases h with h | h
  · have := hp0 h; omega
  · omega
theorem l_X11_lay {d z : Nat} {N : Nat → Nat} {I : Nat → Nat → Int32} {L : Nat → Nat → Int64} {R : Nat → Nat → Option Nat} {Q : qP} {a s l t f n : Int32} (hst : qStat (z, N, I, L, R)) (ha : 0 ≤ a ∧ a < 6) (hs : 0 ≤ s ∧ s < 12) (hl : 0 ≤ l ∧ l < 4) (ht : 0 ≤ t ∧ t < 4) (hn : 0 ≤ n ∧ n ≤ 24) (hz : -1 ≤ I 64 t.toNatClampNeg ∧ I 64 t.toNatClampNeg ≤ 40) : ∀ (p : Int32), ∀ tr : Nat → Int32, 0 ≤ p → p ≤ n → Q (some (.int (upS n (gLy (I 63) (I 64 t.toNatClampNeg) t f a s l) (fun tr => (n, tr)) p tr).1)) (z, N, qRow I 8 (upS n (gLy (I 63) (I 64 t.toNatClampNeg) t f a s l) (fun tr => (n, tr)) p tr).2, L, R) → qJ m_X11_lay (qWP (d + 4)) Q 62 [(7, .int p), (6, .int n), (5, .int f), (4, .int t), (3, .int l), (2, .int s), (1, .int a), (0, .ref 2)] [] 0 0 (z, N, qRow I 8 tr, L, R) := by
  refine up_ind (n) fun p ih => ?_
  intro tr h0 h1 hq
  refine qJ_run (qWP_mono _) [62] 400 ?_
  refine ⟨fun (c1 : n ≤ p) => ?_, fun (c1 : ¬ n ≤ p) => ?_⟩
  · change Q (some (.int n)) (z, N, qRow I 8 tr, L, R)
    rw [upS_ge (by assumption)] at hq
    exact hq
  · refine ⟨⟨Nat.le_refl _, Nat.le_refl _⟩, ?_⟩
    refine c_X10_byteAt (by exact ht) (by simp (decide := true) only [qRow_ne]; exact hz) ⟨h0, by clear ih hq; grind⟩ fun v1 hv1 => ?_
    simp (decide := true) only [qRow_ne] at hv1
    refine ⟨fun (c2 : ¬ v1 = (-1)) => ?_, fun (c2 : v1 = (-1)) => ?_⟩
    · refine ⟨fun (c3 : ¬ v1 = 32) => ?_, fun (c3 : v1 = 32) => ?_⟩
      · refine ⟨⟨Nat.le_refl _, Nat.le_refl _⟩, ?_⟩
        refine c_X8_letterOf fun v2 hv2 => ?_
        refine ⟨fun (c4 : ¬ v2 = (-1)) => ?_, fun (c4 : v2 = (-1)) => ?_⟩
        · refine ⟨⟨Nat.le_refl _, Nat.le_refl _⟩, ?_⟩
          refine c_X5_told hst fun v3 hv3 => ?_
          refine ⟨⟨Nat.le_refl _, Nat.le_refl _⟩, ?_⟩
          refine c_X5_put (fun _ _ => ?_) (fun e => absurd (ix_rng ha ⟨hs, hl, h0, by clear ih hq; grind⟩) e)
          rw [q2_qRow]
          refine qJ_nm (qWP_mono _) [(10, _), (9, _), (8, _)] [(7, .int (p + 1)), (6, .int n), (5, .int f), (4, .int t), (3, .int l), (2, .int s), (1, .int a), (0, .ref 2)] rfl rfl rfl ?_
          have hk : p < n := by clear ih hq; grind
          have e : gLy (I 63) (I 64 t.toNatClampNeg) t f a s l p tr = .inl (uI tr (tIx a s l p).toNatClampNeg v3) := by
            unfold gLy
            have hc : ¬ (f < 0 ∨ I 64 t.toNatClampNeg - p ≤ f) := fun hc => by rw [if_pos hc] at hv1; exact absurd hv1 (by assumption)
            rw [if_neg hc] at hv1 ⊢
            rw [← hv1]
            congr 2
            unfold fLy
            first
  | (rw [if_pos (by assumption)]; assumption)
  | (rw [if_neg (by assumption), if_neg (by clear ih hq; grind)]; assumption)
  | (have h97 : 97 ≤ v1 ∧ v1 ≤ 122 := by clear ih hq; grind
     rw [if_neg (by assumption), if_pos h97]
     rw [if_pos h97] at hv2
     rw [← hv2]
     assumption)
  | (exfalso; clear ih hq; grind)
          rw [upS_on hk e] at hq
          exact ih hk _ (by clear ih hq; grind) (by clear ih hq; grind) hq
        · refine ⟨⟨Nat.le_refl _, Nat.le_refl _⟩, ?_⟩
          refine c_X5_told hst fun v5 hv5 => ?_
          refine ⟨⟨Nat.le_refl _, Nat.le_refl _⟩, ?_⟩
          refine c_X5_put (fun _ _ => ?_) (fun e => absurd (ix_rng ha ⟨hs, hl, h0, by clear ih hq; grind⟩) e)
          rw [q2_qRow]
          refine qJ_nm (qWP_mono _) [(10, _), (9, _), (8, _)] [(7, .int (p + 1)), (6, .int n), (5, .int f), (4, .int t), (3, .int l), (2, .int s), (1, .int a), (0, .ref 2)] rfl rfl rfl ?_
          have hk : p < n := by clear ih hq; grind
          have e : gLy (I 63) (I 64 t.toNatClampNeg) t f a s l p tr = .inl (uI tr (tIx a s l p).toNatClampNeg v5) := by
            unfold gLy
            have hc : ¬ (f < 0 ∨ I 64 t.toNatClampNeg - p ≤ f) := fun hc => by rw [if_pos hc] at hv1; exact absurd hv1 (by assumption)
            rw [if_neg hc] at hv1 ⊢
            rw [← hv1]
            congr 2
            unfold fLy
            first
  | (rw [if_pos (by assumption)]; assumption)
  | (rw [if_neg (by assumption), if_neg (by clear ih hq; grind)]; assumption)
  | (have h97 : 97 ≤ v1 ∧ v1 ≤ 122 := by clear ih hq; grind
     rw [if_neg (by assumption), if_pos h97]
     rw [if_pos h97] at hv2
     rw [← hv2]
     assumption)
  | (exfalso; clear ih hq; grind)
          rw [upS_on hk e] at hq
          exact ih hk _ (by clear ih hq; grind) (by clear ih hq; grind) hq
      · refine ⟨fun (c5 : ¬ 26 = (-1)) => ?_, fun (c5 : 26 = (-1)) => ?_⟩
        · refine ⟨⟨Nat.le_refl _, Nat.le_refl _⟩, ?_⟩
          refine c_X5_told hst fun v7 hv7 => ?_
          refine ⟨⟨Nat.le_refl _, Nat.le_refl _⟩, ?_⟩
          refine c_X5_put (fun _ _ => ?_) (fun e => absurd (ix_rng ha ⟨hs, hl, h0, by clear ih hq; grind⟩) e)
          rw [q2_qRow]
          refine qJ_nm (qWP_mono _) [(10, _), (9, _), (8, _)] [(7, .int (p + 1)), (6, .int n), (5, .int f), (4, .int t), (3, .int l), (2, .int s), (1, .int a), (0, .ref 2)] rfl rfl rfl ?_
          have hk : p < n := by clear ih hq; grind
          have e : gLy (I 63) (I 64 t.toNatClampNeg) t f a s l p tr = .inl (uI tr (tIx a s l p).toNatClampNeg v7) := by
            unfold gLy
            have hc : ¬ (f < 0 ∨ I 64 t.toNatClampNeg - p ≤ f) := fun hc => by rw [if_pos hc] at hv1; exact absurd hv1 (by assumption)
            rw [if_neg hc] at hv1 ⊢
            rw [← hv1]
            congr 2
            unfold fLy
            first
  | (rw [if_pos (by assumption)]; assumption)
  | (rw [if_neg (by assumption), if_neg (by clear ih hq; grind)]; assumption)
  | (have h97 : 97 ≤ v1 ∧ v1 ≤ 122 := by clear ih hq; grind
     rw [if_neg (by assumption), if_pos h97]
     rw [if_pos h97] at hv2
     rw [← hv2]
     assumption)
  | (exfalso; clear ih hq; grind)
          rw [upS_on hk e] at hq
          exact ih hk _ (by clear ih hq; grind) (by clear ih hq; grind) hq
        · refine ⟨⟨Nat.le_refl _, Nat.le_refl _⟩, ?_⟩
          refine c_X5_told hst fun v9 hv9 => ?_
          refine ⟨⟨Nat.le_refl _, Nat.le_refl _⟩, ?_⟩
          refine c_X5_put (fun _ _ => ?_) (fun e => absurd (ix_rng ha ⟨hs, hl, h0, by clear ih hq; grind⟩) e)
          rw [q2_qRow]
          refine qJ_nm (qWP_mono _) [(10, _), (9, _), (8, _)] [(7, .int (p + 1)), (6, .int n), (5, .int f), (4, .int t), (3, .int l), (2, .int s), (1, .int a), (0, .ref 2)] rfl rfl rfl ?_
          have hk : p < n := by clear ih hq; grind
          have e : gLy (I 63) (I 64 t.toNatClampNeg) t f a s l p tr = .inl (uI tr (tIx a s l p).toNatClampNeg v9) := by
            unfold gLy
            have hc : ¬ (f < 0 ∨ I 64 t.toNatClampNeg - p ≤ f) := fun hc => by rw [if_pos hc] at hv1; exact absurd hv1 (by assumption)
            rw [if_neg hc] at hv1 ⊢
            rw [← hv1]
            congr 2
            unfold fLy
            first
  | (rw [if_pos (by assumption)]; assumption)
  | (rw [if_neg (by assumption), if_neg (by clear ih hq; grind)]; assumption)
  | (have h97 : 97 ≤ v1 ∧ v1 ≤ 122 := by clear ih hq; grind
     rw [if_neg (by assumption), if_pos h97]
     rw [if_pos h97] at hv2
     rw [← hv2]
     assumption)
  | (exfalso; clear ih hq; grind)
          rw [upS_on hk e] at hq
          exact ih hk _ (by clear ih hq; grind) (by clear ih hq; grind) hq
    · change Q (some (.int (-12))) (z, N, qRow I 8 tr, L, R)
      have hk : p < n := by clear ih hq; grind
      have e : gLy (I 63) (I 64 t.toNatClampNeg) t f a s l p tr = .inr (-12, tr) := by
        unfold gLy
        refine if_pos ?_
        by_cases hc : f < 0 ∨ I 64 t.toNatClampNeg - p ≤ f
        · exact hc
        · rw [if_neg hc] at hv1
          have := a255 (I 63 (t * 40 + f + p).toNatClampNeg)
          clear ih hq; grind
      rw [upS_out hk e] at hq
      exact hq
end
