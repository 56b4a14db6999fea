section
-- ===== PART A: goes FIRST, ahead of the names: the tables' words, and 'selects' of the private methods out of them =====
/-- a private method of a class that the tables say can be made, by its rows of tables_1 -/
def lw_okq (q : MethodName × Nat) : Prop := (q.1.cls ≠ "java/lang/invoke/MethodHandle" ∧ q.1.cls ≠ "java/lang/invoke/VarHandle") ∧ Cond.instantiable q.1.cls q.2 ∈ tables_1 ∧ Cond.privateMethod q.1 ∈ tables_1 ∧ Cond.instanceMethod q.1 ∈ tables_1
theorem lw_p0 : lw_okq (⟨"HeavyPairs$Tape", "readChunk", "()V"⟩, 12) := ⟨⟨by decide +kernel, by decide +kernel⟩, List.mem_of_getElem? (i := 34) (by decide +kernel), List.mem_of_getElem? (i := 508) (by decide +kernel), List.mem_of_getElem? (i := 509) (by decide +kernel)⟩
theorem lw_p1 : lw_okq (⟨"HeavyPairs$NetworkText", "readLine", "(LHeavyPairs$Tape;)Z"⟩, 3) := ⟨⟨by decide +kernel, by decide +kernel⟩, List.mem_of_getElem? (i := 182) (by decide +kernel), List.mem_of_getElem? (i := 516) (by decide +kernel), List.mem_of_getElem? (i := 517) (by decide +kernel)⟩
theorem lw_p2 : lw_okq (⟨"HeavyPairs$NetworkText", "readPoint", "(LHeavyPairs$Tape;)Z"⟩, 3) := ⟨⟨by decide +kernel, by decide +kernel⟩, List.mem_of_getElem? (i := 182) (by decide +kernel), List.mem_of_getElem? (i := 524) (by decide +kernel), List.mem_of_getElem? (i := 525) (by decide +kernel)⟩
theorem lw_p3 : lw_okq (⟨"HeavyPairs$NetworkText", "readLink", "(LHeavyPairs$Tape;)Z"⟩, 3) := ⟨⟨by decide +kernel, by decide +kernel⟩, List.mem_of_getElem? (i := 182) (by decide +kernel), List.mem_of_getElem? (i := 549) (by decide +kernel), List.mem_of_getElem? (i := 550) (by decide +kernel)⟩
theorem lw_p4 : lw_okq (⟨"HeavyPairs$NetworkText", "readPair", "(LHeavyPairs$Tape;)Z"⟩, 3) := ⟨⟨by decide +kernel, by decide +kernel⟩, List.mem_of_getElem? (i := 182) (by decide +kernel), List.mem_of_getElem? (i := 580) (by decide +kernel), List.mem_of_getElem? (i := 581) (by decide +kernel)⟩
theorem lw_p5 : lw_okq (⟨"HeavyPairs$NetworkText", "readPrice", "(LHeavyPairs$Tape;)Z"⟩, 3) := ⟨⟨by decide +kernel, by decide +kernel⟩, List.mem_of_getElem? (i := 182) (by decide +kernel), List.mem_of_getElem? (i := 589) (by decide +kernel), List.mem_of_getElem? (i := 590) (by decide +kernel)⟩
theorem lw_p6 : lw_okq (⟨"HeavyPairs$NetworkText", "readSet", "(LHeavyPairs$Tape;)Z"⟩, 3) := ⟨⟨by decide +kernel, by decide +kernel⟩, List.mem_of_getElem? (i := 182) (by decide +kernel), List.mem_of_getElem? (i := 601) (by decide +kernel), List.mem_of_getElem? (i := 602) (by decide +kernel)⟩
theorem lw_p7 : lw_okq (⟨"HeavyPairs$Heaviest", "slotFor", "(II)I"⟩, 16) := ⟨⟨by decide +kernel, by decide +kernel⟩, List.mem_of_getElem? (i := 231) (by decide +kernel), List.mem_of_getElem? (i := 699) (by decide +kernel), List.mem_of_getElem? (i := 700) (by decide +kernel)⟩
theorem lw_p8 : lw_okq (⟨"HeavyPairs$Heaviest", "slotKnown", "(I)I"⟩, 16) := ⟨⟨by decide +kernel, by decide +kernel⟩, List.mem_of_getElem? (i := 231) (by decide +kernel), List.mem_of_getElem? (i := 703) (by decide +kernel), List.mem_of_getElem? (i := 704) (by decide +kernel)⟩
theorem lw_p9 : lw_okq (⟨"HeavyPairs$Heaviest", "startSlot", "(IZ)V"⟩, 16) := ⟨⟨by decide +kernel, by decide +kernel⟩, List.mem_of_getElem? (i := 231) (by decide +kernel), List.mem_of_getElem? (i := 707) (by decide +kernel), List.mem_of_getElem? (i := 708) (by decide +kernel)⟩
theorem lw_p10 : lw_okq (⟨"HeavyPairs$Heaviest", "addWays", "(IIII)V"⟩, 16) := ⟨⟨by decide +kernel, by decide +kernel⟩, List.mem_of_getElem? (i := 231) (by decide +kernel), List.mem_of_getElem? (i := 714) (by decide +kernel), List.mem_of_getElem? (i := 715) (by decide +kernel)⟩
theorem lw_p11 : lw_okq (⟨"HeavyPairs$Heaviest", "addTotal", "(II)V"⟩, 16) := ⟨⟨by decide +kernel, by decide +kernel⟩, List.mem_of_getElem? (i := 231) (by decide +kernel), List.mem_of_getElem? (i := 719) (by decide +kernel), List.mem_of_getElem? (i := 720) (by decide +kernel)⟩
theorem lw_p12 : lw_okq (⟨"HeavyPairs$Heaviest", "walkBest", "(II)V"⟩, 16) := ⟨⟨by decide +kernel, by decide +kernel⟩, List.mem_of_getElem? (i := 231) (by decide +kernel), List.mem_of_getElem? (i := 748) (by decide +kernel), List.mem_of_getElem? (i := 749) (by decide +kernel)⟩
theorem lw_p13 : lw_okq (⟨"HeavyPairs$Heaviest", "tallyChosen", "()V"⟩, 16) := ⟨⟨by decide +kernel, by decide +kernel⟩, List.mem_of_getElem? (i := 231) (by decide +kernel), List.mem_of_getElem? (i := 752) (by decide +kernel), List.mem_of_getElem? (i := 753) (by decide +kernel)⟩
theorem lw_p14 : lw_okq (⟨"HeavyPairs$Heaviest", "mayBe", "(II)Z"⟩, 16) := ⟨⟨by decide +kernel, by decide +kernel⟩, List.mem_of_getElem? (i := 231) (by decide +kernel), List.mem_of_getElem? (i := 756) (by decide +kernel), List.mem_of_getElem? (i := 757) (by decide +kernel)⟩
theorem lw_p15 : lw_okq (⟨"HeavyPairs$Heaviest", "keepsTop", "(III)Z"⟩, 16) := ⟨⟨by decide +kernel, by decide +kernel⟩, List.mem_of_getElem? (i := 231) (by decide +kernel), List.mem_of_getElem? (i := 760) (by decide +kernel), List.mem_of_getElem? (i := 761) (by decide +kernel)⟩
def lw_privs_1 : List (MethodName × Nat) := [(⟨"HeavyPairs$Tape", "readChunk", "()V"⟩, 12), (⟨"HeavyPairs$NetworkText", "readLine", "(LHeavyPairs$Tape;)Z"⟩, 3), (⟨"HeavyPairs$NetworkText", "readPoint", "(LHeavyPairs$Tape;)Z"⟩, 3), (⟨"HeavyPairs$NetworkText", "readLink", "(LHeavyPairs$Tape;)Z"⟩, 3), (⟨"HeavyPairs$NetworkText", "readPair", "(LHeavyPairs$Tape;)Z"⟩, 3), (⟨"HeavyPairs$NetworkText", "readPrice", "(LHeavyPairs$Tape;)Z"⟩, 3), (⟨"HeavyPairs$NetworkText", "readSet", "(LHeavyPairs$Tape;)Z"⟩, 3), (⟨"HeavyPairs$Heaviest", "slotFor", "(II)I"⟩, 16), (⟨"HeavyPairs$Heaviest", "slotKnown", "(I)I"⟩, 16), (⟨"HeavyPairs$Heaviest", "startSlot", "(IZ)V"⟩, 16), (⟨"HeavyPairs$Heaviest", "addWays", "(IIII)V"⟩, 16), (⟨"HeavyPairs$Heaviest", "addTotal", "(II)V"⟩, 16), (⟨"HeavyPairs$Heaviest", "walkBest", "(II)V"⟩, 16), (⟨"HeavyPairs$Heaviest", "tallyChosen", "()V"⟩, 16), (⟨"HeavyPairs$Heaviest", "mayBe", "(II)Z"⟩, 16), (⟨"HeavyPairs$Heaviest", "keepsTop", "(III)Z"⟩, 16)]
theorem lw_r1 : ∀ q ∈ lw_privs_1, lw_okq q := List.forall_mem_cons.mpr ⟨lw_p0, List.forall_mem_cons.mpr ⟨lw_p1, List.forall_mem_cons.mpr ⟨lw_p2, List.forall_mem_cons.mpr ⟨lw_p3, List.forall_mem_cons.mpr ⟨lw_p4, List.forall_mem_cons.mpr ⟨lw_p5, List.forall_mem_cons.mpr ⟨lw_p6, List.forall_mem_cons.mpr ⟨lw_p7, List.forall_mem_cons.mpr ⟨lw_p8, List.forall_mem_cons.mpr ⟨lw_p9, List.forall_mem_cons.mpr ⟨lw_p10, List.forall_mem_cons.mpr ⟨lw_p11, List.forall_mem_cons.mpr ⟨lw_p12, List.forall_mem_cons.mpr ⟨lw_p13, List.forall_mem_cons.mpr ⟨lw_p14, List.forall_mem_cons.mpr ⟨lw_p15, fun _ h => absurd h List.not_mem_nil⟩⟩⟩⟩⟩⟩⟩⟩⟩⟩⟩⟩⟩⟩⟩⟩
theorem lw_p16 : lw_okq (⟨"HeavyPairs$Heaviest", "topFor", "(I)I"⟩, 16) := ⟨⟨by decide +kernel, by decide +kernel⟩, List.mem_of_getElem? (i := 231) (by decide +kernel), List.mem_of_getElem? (i := 764) (by decide +kernel), List.mem_of_getElem? (i := 765) (by decide +kernel)⟩
theorem lw_p17 : lw_okq (⟨"HeavyPairs$Heaviest", "choose", "(II)V"⟩, 16) := ⟨⟨by decide +kernel, by decide +kernel⟩, List.mem_of_getElem? (i := 231) (by decide +kernel), List.mem_of_getElem? (i := 768) (by decide +kernel), List.mem_of_getElem? (i := 769) (by decide +kernel)⟩
theorem lw_p18 : lw_okq (⟨"HeavyPairs$Heaviest", "tallyAt", "(II)I"⟩, 16) := ⟨⟨by decide +kernel, by decide +kernel⟩, List.mem_of_getElem? (i := 231) (by decide +kernel), List.mem_of_getElem? (i := 774) (by decide +kernel), List.mem_of_getElem? (i := 775) (by decide +kernel)⟩
theorem lw_p19 : lw_okq (⟨"HeavyPairs$Network", "fullPairs", "(I)I"⟩, 15) := ⟨⟨by decide +kernel, by decide +kernel⟩, List.mem_of_getElem? (i := 130) (by decide +kernel), List.mem_of_getElem? (i := 840) (by decide +kernel), List.mem_of_getElem? (i := 841) (by decide +kernel)⟩
theorem lw_p20 : lw_okq (⟨"HeavyPairs", "areTwo", "(II)Z"⟩, 19) := ⟨⟨by decide +kernel, by decide +kernel⟩, List.mem_of_getElem? (i := 26) (by decide +kernel), List.mem_of_getElem? (i := 862) (by decide +kernel), List.mem_of_getElem? (i := 863) (by decide +kernel)⟩
theorem lw_p21 : lw_okq (⟨"HeavyPairs", "keepIfDone", "(I)I"⟩, 19) := ⟨⟨by decide +kernel, by decide +kernel⟩, List.mem_of_getElem? (i := 26) (by decide +kernel), List.mem_of_getElem? (i := 876) (by decide +kernel), List.mem_of_getElem? (i := 877) (by decide +kernel)⟩
theorem lw_p22 : lw_okq (⟨"HeavyPairs$Search", "findRow", "(LHeavyPairs$Network;IIZ)Z"⟩, 2) := ⟨⟨by decide +kernel, by decide +kernel⟩, List.mem_of_getElem? (i := 200) (by decide +kernel), List.mem_of_getElem? (i := 934) (by decide +kernel), List.mem_of_getElem? (i := 935) (by decide +kernel)⟩
theorem lw_p23 : lw_okq (⟨"HeavyPairs$Search", "goOn", "(LHeavyPairs$Network;IIZ)Z"⟩, 2) := ⟨⟨by decide +kernel, by decide +kernel⟩, List.mem_of_getElem? (i := 200) (by decide +kernel), List.mem_of_getElem? (i := 946) (by decide +kernel), List.mem_of_getElem? (i := 947) (by decide +kernel)⟩
theorem lw_p24 : lw_okq (⟨"HeavyPairs$Network", "goesByPairs", "(LHeavyPairs$Row;)Z"⟩, 15) := ⟨⟨by decide +kernel, by decide +kernel⟩, List.mem_of_getElem? (i := 130) (by decide +kernel), List.mem_of_getElem? (i := 991) (by decide +kernel), List.mem_of_getElem? (i := 992) (by decide +kernel)⟩
theorem lw_p25 : lw_okq (⟨"HeavyPairs", "noteFlaw", "(III)I"⟩, 19) := ⟨⟨by decide +kernel, by decide +kernel⟩, List.mem_of_getElem? (i := 26) (by decide +kernel), List.mem_of_getElem? (i := 1035) (by decide +kernel), List.mem_of_getElem? (i := 1036) (by decide +kernel)⟩
theorem lw_p26 : lw_okq (⟨"HeavyPairs$Network", "otherEnd", "(II)I"⟩, 15) := ⟨⟨by decide +kernel, by decide +kernel⟩, List.mem_of_getElem? (i := 130) (by decide +kernel), List.mem_of_getElem? (i := 1065) (by decide +kernel), List.mem_of_getElem? (i := 1066) (by decide +kernel)⟩
theorem lw_p27 : lw_okq (⟨"HeavyPairs$Heaviest", "firstBestPartner", "(II)I"⟩, 16) := ⟨⟨by decide +kernel, by decide +kernel⟩, List.mem_of_getElem? (i := 231) (by decide +kernel), List.mem_of_getElem? (i := 1079) (by decide +kernel), List.mem_of_getElem? (i := 1080) (by decide +kernel)⟩
theorem lw_p28 : lw_okq (⟨"HeavyPairs$Search", "strokeOn", "(LHeavyPairs$Network;IIIII)V"⟩, 2) := ⟨⟨by decide +kernel, by decide +kernel⟩, List.mem_of_getElem? (i := 200) (by decide +kernel), List.mem_of_getElem? (i := 1126) (by decide +kernel), List.mem_of_getElem? (i := 1127) (by decide +kernel)⟩
theorem lw_p29 : lw_okq (⟨"HeavyPairs", "isAsking", "()Z"⟩, 19) := ⟨⟨by decide +kernel, by decide +kernel⟩, List.mem_of_getElem? (i := 26) (by decide +kernel), List.mem_of_getElem? (i := 1137) (by decide +kernel), List.mem_of_getElem? (i := 1138) (by decide +kernel)⟩
theorem lw_p30 : lw_okq (⟨"HeavyPairs$Draws", "isDone", "(LHeavyPairs$Network;LHeavyPairs$Search;)Z"⟩, 1) := ⟨⟨by decide +kernel, by decide +kernel⟩, List.mem_of_getElem? (i := 374) (by decide +kernel), List.mem_of_getElem? (i := 1198) (by decide +kernel), List.mem_of_getElem? (i := 1199) (by decide +kernel)⟩
theorem lw_p31 : lw_okq (⟨"HeavyPairs$Draws", "draw", "(I)I"⟩, 1) := ⟨⟨by decide +kernel, by decide +kernel⟩, List.mem_of_getElem? (i := 374) (by decide +kernel), List.mem_of_getElem? (i := 1202) (by decide +kernel), List.mem_of_getElem? (i := 1203) (by decide +kernel)⟩
def lw_privs_2 : List (MethodName × Nat) := [(⟨"HeavyPairs$Heaviest", "topFor", "(I)I"⟩, 16), (⟨"HeavyPairs$Heaviest", "choose", "(II)V"⟩, 16), (⟨"HeavyPairs$Heaviest", "tallyAt", "(II)I"⟩, 16), (⟨"HeavyPairs$Network", "fullPairs", "(I)I"⟩, 15), (⟨"HeavyPairs", "areTwo", "(II)Z"⟩, 19), (⟨"HeavyPairs", "keepIfDone", "(I)I"⟩, 19), (⟨"HeavyPairs$Search", "findRow", "(LHeavyPairs$Network;IIZ)Z"⟩, 2), (⟨"HeavyPairs$Search", "goOn", "(LHeavyPairs$Network;IIZ)Z"⟩, 2), (⟨"HeavyPairs$Network", "goesByPairs", "(LHeavyPairs$Row;)Z"⟩, 15), (⟨"HeavyPairs", "noteFlaw", "(III)I"⟩, 19), (⟨"HeavyPairs$Network", "otherEnd", "(II)I"⟩, 15), (⟨"HeavyPairs$Heaviest", "firstBestPartner", "(II)I"⟩, 16), (⟨"HeavyPairs$Search", "strokeOn", "(LHeavyPairs$Network;IIIII)V"⟩, 2), (⟨"HeavyPairs", "isAsking", "()Z"⟩, 19), (⟨"HeavyPairs$Draws", "isDone", "(LHeavyPairs$Network;LHeavyPairs$Search;)Z"⟩, 1), (⟨"HeavyPairs$Draws", "draw", "(I)I"⟩, 1)]
theorem lw_r2 : ∀ q ∈ lw_privs_2, lw_okq q := List.forall_mem_cons.mpr ⟨lw_p16, List.forall_mem_cons.mpr ⟨lw_p17, List.forall_mem_cons.mpr ⟨lw_p18, List.forall_mem_cons.mpr ⟨lw_p19, List.forall_mem_cons.mpr ⟨lw_p20, List.forall_mem_cons.mpr ⟨lw_p21, List.forall_mem_cons.mpr ⟨lw_p22, List.forall_mem_cons.mpr ⟨lw_p23, List.forall_mem_cons.mpr ⟨lw_p24, List.forall_mem_cons.mpr ⟨lw_p25, List.forall_mem_cons.mpr ⟨lw_p26, List.forall_mem_cons.mpr ⟨lw_p27, List.forall_mem_cons.mpr ⟨lw_p28, List.forall_mem_cons.mpr ⟨lw_p29, List.forall_mem_cons.mpr ⟨lw_p30, List.forall_mem_cons.mpr ⟨lw_p31, fun _ h => absurd h List.not_mem_nil⟩⟩⟩⟩⟩⟩⟩⟩⟩⟩⟩⟩⟩⟩⟩⟩
theorem lw_p32 : lw_okq (⟨"HeavyPairs$Draws", "weighOne", "(LHeavyPairs$Network;)Z"⟩, 1) := ⟨⟨by decide +kernel, by decide +kernel⟩, List.mem_of_getElem? (i := 374) (by decide +kernel), List.mem_of_getElem? (i := 1214) (by decide +kernel), List.mem_of_getElem? (i := 1215) (by decide +kernel)⟩
theorem lw_p33 : lw_okq (⟨"HeavyPairs$Draws", "crownOne", "(LHeavyPairs$Network;)Z"⟩, 1) := ⟨⟨by decide +kernel, by decide +kernel⟩, List.mem_of_getElem? (i := 374) (by decide +kernel), List.mem_of_getElem? (i := 1228) (by decide +kernel), List.mem_of_getElem? (i := 1229) (by decide +kernel)⟩
theorem lw_p34 : lw_okq (⟨"HeavyPairs$Book", "readLine", "(LHeavyPairs$Tape;LHeavyPairs$Network;)Z"⟩, 10) := ⟨⟨by decide +kernel, by decide +kernel⟩, List.mem_of_getElem? (i := 307) (by decide +kernel), List.mem_of_getElem? (i := 1247) (by decide +kernel), List.mem_of_getElem? (i := 1248) (by decide +kernel)⟩
theorem lw_p35 : lw_okq (⟨"HeavyPairs$Book", "readTwo", "(LHeavyPairs$Tape;LHeavyPairs$Network;)Z"⟩, 10) := ⟨⟨by decide +kernel, by decide +kernel⟩, List.mem_of_getElem? (i := 307) (by decide +kernel), List.mem_of_getElem? (i := 1256) (by decide +kernel), List.mem_of_getElem? (i := 1257) (by decide +kernel)⟩
theorem lw_p36 : lw_okq (⟨"HeavyPairs$Book", "readFirst", "(LHeavyPairs$Tape;LHeavyPairs$Network;)Z"⟩, 10) := ⟨⟨by decide +kernel, by decide +kernel⟩, List.mem_of_getElem? (i := 307) (by decide +kernel), List.mem_of_getElem? (i := 1260) (by decide +kernel), List.mem_of_getElem? (i := 1261) (by decide +kernel)⟩
theorem lw_p37 : lw_okq (⟨"HeavyPairs$Book", "readThird", "(LHeavyPairs$Tape;II)Z"⟩, 10) := ⟨⟨by decide +kernel, by decide +kernel⟩, List.mem_of_getElem? (i := 307) (by decide +kernel), List.mem_of_getElem? (i := 1266) (by decide +kernel), List.mem_of_getElem? (i := 1267) (by decide +kernel)⟩
theorem lw_p38 : lw_okq (⟨"HeavyPairs$Book", "readNumber", "(LHeavyPairs$Tape;)Z"⟩, 10) := ⟨⟨by decide +kernel, by decide +kernel⟩, List.mem_of_getElem? (i := 307) (by decide +kernel), List.mem_of_getElem? (i := 1271) (by decide +kernel), List.mem_of_getElem? (i := 1272) (by decide +kernel)⟩
theorem lw_p39 : lw_okq (⟨"HeavyPairs$Book", "live", "(ILHeavyPairs$Network;LHeavyPairs$Search;)I"⟩, 10) := ⟨⟨by decide +kernel, by decide +kernel⟩, List.mem_of_getElem? (i := 307) (by decide +kernel), List.mem_of_getElem? (i := 1281) (by decide +kernel), List.mem_of_getElem? (i := 1282) (by decide +kernel)⟩
theorem lw_p40 : lw_okq (⟨"HeavyPairs$Saying", "readCond", "(LHeavyPairs$Tape;LHeavyPairs$Network;I)Z"⟩, 7) := ⟨⟨by decide +kernel, by decide +kernel⟩, List.mem_of_getElem? (i := 344) (by decide +kernel), List.mem_of_getElem? (i := 1316) (by decide +kernel), List.mem_of_getElem? (i := 1317) (by decide +kernel)⟩
theorem lw_p41 : lw_okq (⟨"HeavyPairs$Saying", "readAll", "(LHeavyPairs$Tape;LHeavyPairs$Network;I)Z"⟩, 7) := ⟨⟨by decide +kernel, by decide +kernel⟩, List.mem_of_getElem? (i := 344) (by decide +kernel), List.mem_of_getElem? (i := 1320) (by decide +kernel), List.mem_of_getElem? (i := 1321) (by decide +kernel)⟩
theorem lw_p42 : lw_okq (⟨"HeavyPairs$Saying", "readOne", "(LHeavyPairs$Tape;LHeavyPairs$Network;I)Z"⟩, 7) := ⟨⟨by decide +kernel, by decide +kernel⟩, List.mem_of_getElem? (i := 344) (by decide +kernel), List.mem_of_getElem? (i := 1324) (by decide +kernel), List.mem_of_getElem? (i := 1325) (by decide +kernel)⟩
theorem lw_p43 : lw_okq (⟨"HeavyPairs$Saying", "put", "(III)Z"⟩, 7) := ⟨⟨by decide +kernel, by decide +kernel⟩, List.mem_of_getElem? (i := 344) (by decide +kernel), List.mem_of_getElem? (i := 1331) (by decide +kernel), List.mem_of_getElem? (i := 1332) (by decide +kernel)⟩
theorem lw_p44 : lw_okq (⟨"HeavyPairs$Saying", "putIfRead", "(III)Z"⟩, 7) := ⟨⟨by decide +kernel, by decide +kernel⟩, List.mem_of_getElem? (i := 344) (by decide +kernel), List.mem_of_getElem? (i := 1337) (by decide +kernel), List.mem_of_getElem? (i := 1338) (by decide +kernel)⟩
theorem lw_p45 : lw_okq (⟨"HeavyPairs", "pictureAt", "(I)LHeavyPairs$Picture;"⟩, 19) := ⟨⟨by decide +kernel, by decide +kernel⟩, List.mem_of_getElem? (i := 26) (by decide +kernel), List.mem_of_getElem? (i := 1393) (by decide +kernel), List.mem_of_getElem? (i := 1394) (by decide +kernel)⟩
theorem lw_p46 : lw_okq (⟨"java/lang/Throwable", "fillInStackTrace", "(I)Ljava/lang/Throwable;"⟩, 6) := ⟨⟨by decide +kernel, by decide +kernel⟩, List.mem_of_getElem? (i := 1462) (by decide +kernel), List.mem_of_getElem? (i := 1460) (by decide +kernel), List.mem_of_getElem? (i := 1461) (by decide +kernel)⟩
theorem lw_p47 : lw_okq (⟨"HeavyPairsModel", "come", "(I)V"⟩, 62) := ⟨⟨by decide +kernel, by decide +kernel⟩, List.mem_of_getElem? (i := 1531) (by decide +kernel), List.mem_of_getElem? (i := 1529) (by decide +kernel), List.mem_of_getElem? (i := 1530) (by decide +kernel)⟩
def lw_privs_3 : List (MethodName × Nat) := [(⟨"HeavyPairs$Draws", "weighOne", "(LHeavyPairs$Network;)Z"⟩, 1), (⟨"HeavyPairs$Draws", "crownOne", "(LHeavyPairs$Network;)Z"⟩, 1), (⟨"HeavyPairs$Book", "readLine", "(LHeavyPairs$Tape;LHeavyPairs$Network;)Z"⟩, 10), (⟨"HeavyPairs$Book", "readTwo", "(LHeavyPairs$Tape;LHeavyPairs$Network;)Z"⟩, 10), (⟨"HeavyPairs$Book", "readFirst", "(LHeavyPairs$Tape;LHeavyPairs$Network;)Z"⟩, 10), (⟨"HeavyPairs$Book", "readThird", "(LHeavyPairs$Tape;II)Z"⟩, 10), (⟨"HeavyPairs$Book", "readNumber", "(LHeavyPairs$Tape;)Z"⟩, 10), (⟨"HeavyPairs$Book", "live", "(ILHeavyPairs$Network;LHeavyPairs$Search;)I"⟩, 10), (⟨"HeavyPairs$Saying", "readCond", "(LHeavyPairs$Tape;LHeavyPairs$Network;I)Z"⟩, 7), (⟨"HeavyPairs$Saying", "readAll", "(LHeavyPairs$Tape;LHeavyPairs$Network;I)Z"⟩, 7), (⟨"HeavyPairs$Saying", "readOne", "(LHeavyPairs$Tape;LHeavyPairs$Network;I)Z"⟩, 7), (⟨"HeavyPairs$Saying", "put", "(III)Z"⟩, 7), (⟨"HeavyPairs$Saying", "putIfRead", "(III)Z"⟩, 7), (⟨"HeavyPairs", "pictureAt", "(I)LHeavyPairs$Picture;"⟩, 19), (⟨"java/lang/Throwable", "fillInStackTrace", "(I)Ljava/lang/Throwable;"⟩, 6), (⟨"HeavyPairsModel", "come", "(I)V"⟩, 62)]
theorem lw_r3 : ∀ q ∈ lw_privs_3, lw_okq q := List.forall_mem_cons.mpr ⟨lw_p32, List.forall_mem_cons.mpr ⟨lw_p33, List.forall_mem_cons.mpr ⟨lw_p34, List.forall_mem_cons.mpr ⟨lw_p35, List.forall_mem_cons.mpr ⟨lw_p36, List.forall_mem_cons.mpr ⟨lw_p37, List.forall_mem_cons.mpr ⟨lw_p38, List.forall_mem_cons.mpr ⟨lw_p39, List.forall_mem_cons.mpr ⟨lw_p40, List.forall_mem_cons.mpr ⟨lw_p41, List.forall_mem_cons.mpr ⟨lw_p42, List.forall_mem_cons.mpr ⟨lw_p43, List.forall_mem_cons.mpr ⟨lw_p44, List.forall_mem_cons.mpr ⟨lw_p45, List.forall_mem_cons.mpr ⟨lw_p46, List.forall_mem_cons.mpr ⟨lw_p47, fun _ h => absurd h List.not_mem_nil⟩⟩⟩⟩⟩⟩⟩⟩⟩⟩⟩⟩⟩⟩⟩⟩
theorem lw_p48 : lw_okq (⟨"HeavyPairsModel", "startSo", "()V"⟩, 62) := ⟨⟨by decide +kernel, by decide +kernel⟩, List.mem_of_getElem? (i := 1531) (by decide +kernel), List.mem_of_getElem? (i := 1543) (by decide +kernel), List.mem_of_getElem? (i := 1544) (by decide +kernel)⟩
theorem lw_p49 : lw_okq (⟨"HeavyPairsModel", "begin", "(I)V"⟩, 62) := ⟨⟨by decide +kernel, by decide +kernel⟩, List.mem_of_getElem? (i := 1531) (by decide +kernel), List.mem_of_getElem? (i := 1739) (by decide +kernel), List.mem_of_getElem? (i := 1740) (by decide +kernel)⟩
theorem lw_p50 : lw_okq (⟨"HeavyPairsModel", "take", "()I"⟩, 62) := ⟨⟨by decide +kernel, by decide +kernel⟩, List.mem_of_getElem? (i := 1531) (by decide +kernel), List.mem_of_getElem? (i := 1743) (by decide +kernel), List.mem_of_getElem? (i := 1744) (by decide +kernel)⟩
theorem lw_p51 : lw_okq (⟨"HeavyPairsModel", "go", "()V"⟩, 62) := ⟨⟨by decide +kernel, by decide +kernel⟩, List.mem_of_getElem? (i := 1531) (by decide +kernel), List.mem_of_getElem? (i := 1747) (by decide +kernel), List.mem_of_getElem? (i := 1748) (by decide +kernel)⟩
theorem lw_p52 : lw_okq (⟨"HeavyPairsModel", "tapeAt", "(I)I"⟩, 62) := ⟨⟨by decide +kernel, by decide +kernel⟩, List.mem_of_getElem? (i := 1531) (by decide +kernel), List.mem_of_getElem? (i := 1757) (by decide +kernel), List.mem_of_getElem? (i := 1758) (by decide +kernel)⟩
theorem lw_p53 : lw_okq (⟨"HeavyPairsModel", "readLine", "()Z"⟩, 62) := ⟨⟨by decide +kernel, by decide +kernel⟩, List.mem_of_getElem? (i := 1531) (by decide +kernel), List.mem_of_getElem? (i := 1763) (by decide +kernel), List.mem_of_getElem? (i := 1764) (by decide +kernel)⟩
theorem lw_p54 : lw_okq (⟨"HeavyPairsModel", "isWord", "(I)Z"⟩, 62) := ⟨⟨by decide +kernel, by decide +kernel⟩, List.mem_of_getElem? (i := 1531) (by decide +kernel), List.mem_of_getElem? (i := 1767) (by decide +kernel), List.mem_of_getElem? (i := 1768) (by decide +kernel)⟩
theorem lw_p55 : lw_okq (⟨"HeavyPairsModel", "readPoint", "()Z"⟩, 62) := ⟨⟨by decide +kernel, by decide +kernel⟩, List.mem_of_getElem? (i := 1531) (by decide +kernel), List.mem_of_getElem? (i := 1777) (by decide +kernel), List.mem_of_getElem? (i := 1778) (by decide +kernel)⟩
theorem lw_p56 : lw_okq (⟨"HeavyPairsModel", "readFirst", "(II)Z"⟩, 62) := ⟨⟨by decide +kernel, by decide +kernel⟩, List.mem_of_getElem? (i := 1531) (by decide +kernel), List.mem_of_getElem? (i := 1781) (by decide +kernel), List.mem_of_getElem? (i := 1782) (by decide +kernel)⟩
theorem lw_p57 : lw_okq (⟨"HeavyPairsModel", "bad", "(I)Z"⟩, 62) := ⟨⟨by decide +kernel, by decide +kernel⟩, List.mem_of_getElem? (i := 1531) (by decide +kernel), List.mem_of_getElem? (i := 1785) (by decide +kernel), List.mem_of_getElem? (i := 1786) (by decide +kernel)⟩
theorem lw_p58 : lw_okq (⟨"HeavyPairsModel", "isName", "()Z"⟩, 62) := ⟨⟨by decide +kernel, by decide +kernel⟩, List.mem_of_getElem? (i := 1531) (by decide +kernel), List.mem_of_getElem? (i := 1789) (by decide +kernel), List.mem_of_getElem? (i := 1790) (by decide +kernel)⟩
theorem lw_p59 : lw_okq (⟨"HeavyPairsModel", "readLink", "()Z"⟩, 62) := ⟨⟨by decide +kernel, by decide +kernel⟩, List.mem_of_getElem? (i := 1531) (by decide +kernel), List.mem_of_getElem? (i := 1796) (by decide +kernel), List.mem_of_getElem? (i := 1797) (by decide +kernel)⟩
theorem lw_p60 : lw_okq (⟨"HeavyPairsModel", "isHere", "()Z"⟩, 62) := ⟨⟨by decide +kernel, by decide +kernel⟩, List.mem_of_getElem? (i := 1531) (by decide +kernel), List.mem_of_getElem? (i := 1800) (by decide +kernel), List.mem_of_getElem? (i := 1801) (by decide +kernel)⟩
theorem lw_p61 : lw_okq (⟨"HeavyPairsModel", "readNumber", "(II)Z"⟩, 62) := ⟨⟨by decide +kernel, by decide +kernel⟩, List.mem_of_getElem? (i := 1531) (by decide +kernel), List.mem_of_getElem? (i := 1807) (by decide +kernel), List.mem_of_getElem? (i := 1808) (by decide +kernel)⟩
theorem lw_p62 : lw_okq (⟨"HeavyPairsModel", "noted", "(IZ)Z"⟩, 62) := ⟨⟨by decide +kernel, by decide +kernel⟩, List.mem_of_getElem? (i := 1531) (by decide +kernel), List.mem_of_getElem? (i := 1814) (by decide +kernel), List.mem_of_getElem? (i := 1815) (by decide +kernel)⟩
theorem lw_p63 : lw_okq (⟨"HeavyPairsModel", "readPair", "()Z"⟩, 62) := ⟨⟨by decide +kernel, by decide +kernel⟩, List.mem_of_getElem? (i := 1531) (by decide +kernel), List.mem_of_getElem? (i := 1818) (by decide +kernel), List.mem_of_getElem? (i := 1819) (by decide +kernel)⟩
def lw_privs_4 : List (MethodName × Nat) := [(⟨"HeavyPairsModel", "startSo", "()V"⟩, 62), (⟨"HeavyPairsModel", "begin", "(I)V"⟩, 62), (⟨"HeavyPairsModel", "take", "()I"⟩, 62), (⟨"HeavyPairsModel", "go", "()V"⟩, 62), (⟨"HeavyPairsModel", "tapeAt", "(I)I"⟩, 62), (⟨"HeavyPairsModel", "readLine", "()Z"⟩, 62), (⟨"HeavyPairsModel", "isWord", "(I)Z"⟩, 62), (⟨"HeavyPairsModel", "readPoint", "()Z"⟩, 62), (⟨"HeavyPairsModel", "readFirst", "(II)Z"⟩, 62), (⟨"HeavyPairsModel", "bad", "(I)Z"⟩, 62), (⟨"HeavyPairsModel", "isName", "()Z"⟩, 62), (⟨"HeavyPairsModel", "readLink", "()Z"⟩, 62), (⟨"HeavyPairsModel", "isHere", "()Z"⟩, 62), (⟨"HeavyPairsModel", "readNumber", "(II)Z"⟩, 62), (⟨"HeavyPairsModel", "noted", "(IZ)Z"⟩, 62), (⟨"HeavyPairsModel", "readPair", "()Z"⟩, 62)]
theorem lw_r4 : ∀ q ∈ lw_privs_4, lw_okq q := List.forall_mem_cons.mpr ⟨lw_p48, List.forall_mem_cons.mpr ⟨lw_p49, List.forall_mem_cons.mpr ⟨lw_p50, List.forall_mem_cons.mpr ⟨lw_p51, List.forall_mem_cons.mpr ⟨lw_p52, List.forall_mem_cons.mpr ⟨lw_p53, List.forall_mem_cons.mpr ⟨lw_p54, List.forall_mem_cons.mpr ⟨lw_p55, List.forall_mem_cons.mpr ⟨lw_p56, List.forall_mem_cons.mpr ⟨lw_p57, List.forall_mem_cons.mpr ⟨lw_p58, List.forall_mem_cons.mpr ⟨lw_p59, List.forall_mem_cons.mpr ⟨lw_p60, List.forall_mem_cons.mpr ⟨lw_p61, List.forall_mem_cons.mpr ⟨lw_p62, List.forall_mem_cons.mpr ⟨lw_p63, fun _ h => absurd h List.not_mem_nil⟩⟩⟩⟩⟩⟩⟩⟩⟩⟩⟩⟩⟩⟩⟩⟩
theorem lw_p64 : lw_okq (⟨"HeavyPairsModel", "readPrice", "()Z"⟩, 62) := ⟨⟨by decide +kernel, by decide +kernel⟩, List.mem_of_getElem? (i := 1531) (by decide +kernel), List.mem_of_getElem? (i := 1822) (by decide +kernel), List.mem_of_getElem? (i := 1823) (by decide +kernel)⟩
theorem lw_p65 : lw_okq (⟨"HeavyPairsModel", "readOdd", "()Z"⟩, 62) := ⟨⟨by decide +kernel, by decide +kernel⟩, List.mem_of_getElem? (i := 1531) (by decide +kernel), List.mem_of_getElem? (i := 1826) (by decide +kernel), List.mem_of_getElem? (i := 1827) (by decide +kernel)⟩
theorem lw_p66 : lw_okq (⟨"HeavyPairsModel", "isSign", "(I)Z"⟩, 62) := ⟨⟨by decide +kernel, by decide +kernel⟩, List.mem_of_getElem? (i := 1531) (by decide +kernel), List.mem_of_getElem? (i := 1833) (by decide +kernel), List.mem_of_getElem? (i := 1834) (by decide +kernel)⟩
theorem lw_p67 : lw_okq (⟨"HeavyPairsModel", "isOddIn", "([IIII)Z"⟩, 62) := ⟨⟨by decide +kernel, by decide +kernel⟩, List.mem_of_getElem? (i := 1531) (by decide +kernel), List.mem_of_getElem? (i := 1837) (by decide +kernel), List.mem_of_getElem? (i := 1838) (by decide +kernel)⟩
theorem lw_p68 : lw_okq (⟨"HeavyPairsModel", "readEnd", "()Z"⟩, 62) := ⟨⟨by decide +kernel, by decide +kernel⟩, List.mem_of_getElem? (i := 1531) (by decide +kernel), List.mem_of_getElem? (i := 1841) (by decide +kernel), List.mem_of_getElem? (i := 1842) (by decide +kernel)⟩
theorem lw_p69 : lw_okq (⟨"HeavyPairsModel", "isPoint", "(I)Z"⟩, 62) := ⟨⟨by decide +kernel, by decide +kernel⟩, List.mem_of_getElem? (i := 1531) (by decide +kernel), List.mem_of_getElem? (i := 1853) (by decide +kernel), List.mem_of_getElem? (i := 1854) (by decide +kernel)⟩
theorem lw_p70 : lw_okq (⟨"HeavyPairsModel", "refuse", "()I"⟩, 62) := ⟨⟨by decide +kernel, by decide +kernel⟩, List.mem_of_getElem? (i := 1531) (by decide +kernel), List.mem_of_getElem? (i := 1857) (by decide +kernel), List.mem_of_getElem? (i := 1858) (by decide +kernel)⟩
theorem lw_p71 : lw_okq (⟨"HeavyPairsModel", "partners", "(IZ)I"⟩, 62) := ⟨⟨by decide +kernel, by decide +kernel⟩, List.mem_of_getElem? (i := 1531) (by decide +kernel), List.mem_of_getElem? (i := 1861) (by decide +kernel), List.mem_of_getElem? (i := 1862) (by decide +kernel)⟩
theorem lw_p72 : lw_okq (⟨"HeavyPairsModel", "isAt", "(II)Z"⟩, 62) := ⟨⟨by decide +kernel, by decide +kernel⟩, List.mem_of_getElem? (i := 1531) (by decide +kernel), List.mem_of_getElem? (i := 1865) (by decide +kernel), List.mem_of_getElem? (i := 1866) (by decide +kernel)⟩
theorem lw_p73 : lw_okq (⟨"HeavyPairsModel", "slackOf", "(I)I"⟩, 62) := ⟨⟨by decide +kernel, by decide +kernel⟩, List.mem_of_getElem? (i := 1531) (by decide +kernel), List.mem_of_getElem? (i := 1869) (by decide +kernel), List.mem_of_getElem? (i := 1870) (by decide +kernel)⟩
theorem lw_p74 : lw_okq (⟨"HeavyPairsModel", "isLink", "(I)Z"⟩, 62) := ⟨⟨by decide +kernel, by decide +kernel⟩, List.mem_of_getElem? (i := 1531) (by decide +kernel), List.mem_of_getElem? (i := 1877) (by decide +kernel), List.mem_of_getElem? (i := 1878) (by decide +kernel)⟩
theorem lw_p75 : lw_okq (⟨"HeavyPairsModel", "isOfPair", "(I)Z"⟩, 62) := ⟨⟨by decide +kernel, by decide +kernel⟩, List.mem_of_getElem? (i := 1531) (by decide +kernel), List.mem_of_getElem? (i := 1881) (by decide +kernel), List.mem_of_getElem? (i := 1882) (by decide +kernel)⟩
theorem lw_p76 : lw_okq (⟨"HeavyPairsModel", "arePaired", "(II)Z"⟩, 62) := ⟨⟨by decide +kernel, by decide +kernel⟩, List.mem_of_getElem? (i := 1531) (by decide +kernel), List.mem_of_getElem? (i := 1885) (by decide +kernel), List.mem_of_getElem? (i := 1886) (by decide +kernel)⟩
theorem lw_p77 : lw_okq (⟨"HeavyPairsModel", "fateOf", "(I)I"⟩, 62) := ⟨⟨by decide +kernel, by decide +kernel⟩, List.mem_of_getElem? (i := 1531) (by decide +kernel), List.mem_of_getElem? (i := 1889) (by decide +kernel), List.mem_of_getElem? (i := 1890) (by decide +kernel)⟩
theorem lw_p78 : lw_okq (⟨"HeavyPairsModel", "surveyMost", "()V"⟩, 62) := ⟨⟨by decide +kernel, by decide +kernel⟩, List.mem_of_getElem? (i := 1531) (by decide +kernel), List.mem_of_getElem? (i := 1893) (by decide +kernel), List.mem_of_getElem? (i := 1894) (by decide +kernel)⟩
theorem lw_p79 : lw_okq (⟨"HeavyPairsModel", "survey", "()V"⟩, 62) := ⟨⟨by decide +kernel, by decide +kernel⟩, List.mem_of_getElem? (i := 1531) (by decide +kernel), List.mem_of_getElem? (i := 1897) (by decide +kernel), List.mem_of_getElem? (i := 1898) (by decide +kernel)⟩
def lw_privs_5 : List (MethodName × Nat) := [(⟨"HeavyPairsModel", "readPrice", "()Z"⟩, 62), (⟨"HeavyPairsModel", "readOdd", "()Z"⟩, 62), (⟨"HeavyPairsModel", "isSign", "(I)Z"⟩, 62), (⟨"HeavyPairsModel", "isOddIn", "([IIII)Z"⟩, 62), (⟨"HeavyPairsModel", "readEnd", "()Z"⟩, 62), (⟨"HeavyPairsModel", "isPoint", "(I)Z"⟩, 62), (⟨"HeavyPairsModel", "refuse", "()I"⟩, 62), (⟨"HeavyPairsModel", "partners", "(IZ)I"⟩, 62), (⟨"HeavyPairsModel", "isAt", "(II)Z"⟩, 62), (⟨"HeavyPairsModel", "slackOf", "(I)I"⟩, 62), (⟨"HeavyPairsModel", "isLink", "(I)Z"⟩, 62), (⟨"HeavyPairsModel", "isOfPair", "(I)Z"⟩, 62), (⟨"HeavyPairsModel", "arePaired", "(II)Z"⟩, 62), (⟨"HeavyPairsModel", "fateOf", "(I)I"⟩, 62), (⟨"HeavyPairsModel", "surveyMost", "()V"⟩, 62), (⟨"HeavyPairsModel", "survey", "()V"⟩, 62)]
theorem lw_r5 : ∀ q ∈ lw_privs_5, lw_okq q := List.forall_mem_cons.mpr ⟨lw_p64, List.forall_mem_cons.mpr ⟨lw_p65, List.forall_mem_cons.mpr ⟨lw_p66, List.forall_mem_cons.mpr ⟨lw_p67, List.forall_mem_cons.mpr ⟨lw_p68, List.forall_mem_cons.mpr ⟨lw_p69, List.forall_mem_cons.mpr ⟨lw_p70, List.forall_mem_cons.mpr ⟨lw_p71, List.forall_mem_cons.mpr ⟨lw_p72, List.forall_mem_cons.mpr ⟨lw_p73, List.forall_mem_cons.mpr ⟨lw_p74, List.forall_mem_cons.mpr ⟨lw_p75, List.forall_mem_cons.mpr ⟨lw_p76, List.forall_mem_cons.mpr ⟨lw_p77, List.forall_mem_cons.mpr ⟨lw_p78, List.forall_mem_cons.mpr ⟨lw_p79, fun _ h => absurd h List.not_mem_nil⟩⟩⟩⟩⟩⟩⟩⟩⟩⟩⟩⟩⟩⟩⟩⟩
theorem lw_p80 : lw_okq (⟨"HeavyPairsModel", "walk", "(III)V"⟩, 62) := ⟨⟨by decide +kernel, by decide +kernel⟩, List.mem_of_getElem? (i := 1531) (by decide +kernel), List.mem_of_getElem? (i := 1901) (by decide +kernel), List.mem_of_getElem? (i := 1902) (by decide +kernel)⟩
theorem lw_p81 : lw_okq (⟨"HeavyPairsModel", "leaf", "(II)V"⟩, 62) := ⟨⟨by decide +kernel, by decide +kernel⟩, List.mem_of_getElem? (i := 1531) (by decide +kernel), List.mem_of_getElem? (i := 1905) (by decide +kernel), List.mem_of_getElem? (i := 1906) (by decide +kernel)⟩
theorem lw_p82 : lw_okq (⟨"HeavyPairsModel", "isAsked", "()Z"⟩, 62) := ⟨⟨by decide +kernel, by decide +kernel⟩, List.mem_of_getElem? (i := 1531) (by decide +kernel), List.mem_of_getElem? (i := 1909) (by decide +kernel), List.mem_of_getElem? (i := 1910) (by decide +kernel)⟩
theorem lw_p83 : lw_okq (⟨"HeavyPairsModel", "areLinked", "(II)Z"⟩, 62) := ⟨⟨by decide +kernel, by decide +kernel⟩, List.mem_of_getElem? (i := 1531) (by decide +kernel), List.mem_of_getElem? (i := 1913) (by decide +kernel), List.mem_of_getElem? (i := 1914) (by decide +kernel)⟩
theorem lw_p84 : lw_okq (⟨"HeavyPairsModel", "between", "(II)I"⟩, 62) := ⟨⟨by decide +kernel, by decide +kernel⟩, List.mem_of_getElem? (i := 1531) (by decide +kernel), List.mem_of_getElem? (i := 1917) (by decide +kernel), List.mem_of_getElem? (i := 1918) (by decide +kernel)⟩
theorem lw_p85 : lw_okq (⟨"HeavyPairsModel", "isOdd", "(I)Z"⟩, 62) := ⟨⟨by decide +kernel, by decide +kernel⟩, List.mem_of_getElem? (i := 1531) (by decide +kernel), List.mem_of_getElem? (i := 1929) (by decide +kernel), List.mem_of_getElem? (i := 1930) (by decide +kernel)⟩
theorem lw_p86 : lw_okq (⟨"HeavyPairsModel", "pairsIn", "(I)I"⟩, 62) := ⟨⟨by decide +kernel, by decide +kernel⟩, List.mem_of_getElem? (i := 1531) (by decide +kernel), List.mem_of_getElem? (i := 1933) (by decide +kernel), List.mem_of_getElem? (i := 1934) (by decide +kernel)⟩
theorem lw_p87 : lw_okq (⟨"HeavyPairsModel", "totalNow", "()I"⟩, 62) := ⟨⟨by decide +kernel, by decide +kernel⟩, List.mem_of_getElem? (i := 1531) (by decide +kernel), List.mem_of_getElem? (i := 1941) (by decide +kernel), List.mem_of_getElem? (i := 1942) (by decide +kernel)⟩
theorem lw_p88 : lw_okq (⟨"HeavyPairsModel", "pairMany", "()I"⟩, 62) := ⟨⟨by decide +kernel, by decide +kernel⟩, List.mem_of_getElem? (i := 1531) (by decide +kernel), List.mem_of_getElem? (i := 1945) (by decide +kernel), List.mem_of_getElem? (i := 1946) (by decide +kernel)⟩
theorem lw_p89 : lw_okq (⟨"HeavyPairsModel", "isLone", "(I)Z"⟩, 62) := ⟨⟨by decide +kernel, by decide +kernel⟩, List.mem_of_getElem? (i := 1531) (by decide +kernel), List.mem_of_getElem? (i := 1949) (by decide +kernel), List.mem_of_getElem? (i := 1950) (by decide +kernel)⟩
theorem lw_p90 : lw_okq (⟨"HeavyPairsModel", "boundNow", "()I"⟩, 62) := ⟨⟨by decide +kernel, by decide +kernel⟩, List.mem_of_getElem? (i := 1531) (by decide +kernel), List.mem_of_getElem? (i := 1953) (by decide +kernel), List.mem_of_getElem? (i := 1954) (by decide +kernel)⟩
theorem lw_p91 : lw_okq (⟨"HeavyPairsModel", "layPath", "(I)I"⟩, 62) := ⟨⟨by decide +kernel, by decide +kernel⟩, List.mem_of_getElem? (i := 1531) (by decide +kernel), List.mem_of_getElem? (i := 1964) (by decide +kernel), List.mem_of_getElem? (i := 1965) (by decide +kernel)⟩
theorem lw_p92 : lw_okq (⟨"HeavyPairsModel", "goesOn", "(III)Z"⟩, 62) := ⟨⟨by decide +kernel, by decide +kernel⟩, List.mem_of_getElem? (i := 1531) (by decide +kernel), List.mem_of_getElem? (i := 1968) (by decide +kernel), List.mem_of_getElem? (i := 1969) (by decide +kernel)⟩
theorem lw_p93 : lw_okq (⟨"HeavyPairsModel", "flowers", "(III)Z"⟩, 62) := ⟨⟨by decide +kernel, by decide +kernel⟩, List.mem_of_getElem? (i := 1531) (by decide +kernel), List.mem_of_getElem? (i := 1980) (by decide +kernel), List.mem_of_getElem? (i := 1981) (by decide +kernel)⟩
theorem lw_p94 : lw_okq (⟨"HeavyPairsModel", "areTwo", "(II)Z"⟩, 62) := ⟨⟨by decide +kernel, by decide +kernel⟩, List.mem_of_getElem? (i := 1531) (by decide +kernel), List.mem_of_getElem? (i := 1992) (by decide +kernel), List.mem_of_getElem? (i := 1993) (by decide +kernel)⟩
theorem lw_p95 : lw_okq (⟨"HeavyPairsModel", "act", "(IIIIZ)I"⟩, 62) := ⟨⟨by decide +kernel, by decide +kernel⟩, List.mem_of_getElem? (i := 1531) (by decide +kernel), List.mem_of_getElem? (i := 1996) (by decide +kernel), List.mem_of_getElem? (i := 1997) (by decide +kernel)⟩
def lw_privs_6 : List (MethodName × Nat) := [(⟨"HeavyPairsModel", "walk", "(III)V"⟩, 62), (⟨"HeavyPairsModel", "leaf", "(II)V"⟩, 62), (⟨"HeavyPairsModel", "isAsked", "()Z"⟩, 62), (⟨"HeavyPairsModel", "areLinked", "(II)Z"⟩, 62), (⟨"HeavyPairsModel", "between", "(II)I"⟩, 62), (⟨"HeavyPairsModel", "isOdd", "(I)Z"⟩, 62), (⟨"HeavyPairsModel", "pairsIn", "(I)I"⟩, 62), (⟨"HeavyPairsModel", "totalNow", "()I"⟩, 62), (⟨"HeavyPairsModel", "pairMany", "()I"⟩, 62), (⟨"HeavyPairsModel", "isLone", "(I)Z"⟩, 62), (⟨"HeavyPairsModel", "boundNow", "()I"⟩, 62), (⟨"HeavyPairsModel", "layPath", "(I)I"⟩, 62), (⟨"HeavyPairsModel", "goesOn", "(III)Z"⟩, 62), (⟨"HeavyPairsModel", "flowers", "(III)Z"⟩, 62), (⟨"HeavyPairsModel", "areTwo", "(II)Z"⟩, 62), (⟨"HeavyPairsModel", "act", "(IIIIZ)I"⟩, 62)]
theorem lw_r6 : ∀ q ∈ lw_privs_6, lw_okq q := List.forall_mem_cons.mpr ⟨lw_p80, List.forall_mem_cons.mpr ⟨lw_p81, List.forall_mem_cons.mpr ⟨lw_p82, List.forall_mem_cons.mpr ⟨lw_p83, List.forall_mem_cons.mpr ⟨lw_p84, List.forall_mem_cons.mpr ⟨lw_p85, List.forall_mem_cons.mpr ⟨lw_p86, List.forall_mem_cons.mpr ⟨lw_p87, List.forall_mem_cons.mpr ⟨lw_p88, List.forall_mem_cons.mpr ⟨lw_p89, List.forall_mem_cons.mpr ⟨lw_p90, List.forall_mem_cons.mpr ⟨lw_p91, List.forall_mem_cons.mpr ⟨lw_p92, List.forall_mem_cons.mpr ⟨lw_p93, List.forall_mem_cons.mpr ⟨lw_p94, List.forall_mem_cons.mpr ⟨lw_p95, fun _ h => absurd h List.not_mem_nil⟩⟩⟩⟩⟩⟩⟩⟩⟩⟩⟩⟩⟩⟩⟩⟩
theorem lw_p96 : lw_okq (⟨"HeavyPairsModel", "refusal", "(IIII)I"⟩, 62) := ⟨⟨by decide +kernel, by decide +kernel⟩, List.mem_of_getElem? (i := 1531) (by decide +kernel), List.mem_of_getElem? (i := 2000) (by decide +kernel), List.mem_of_getElem? (i := 2001) (by decide +kernel)⟩
theorem lw_p97 : lw_okq (⟨"HeavyPairsModel", "snap", "()V"⟩, 62) := ⟨⟨by decide +kernel, by decide +kernel⟩, List.mem_of_getElem? (i := 1531) (by decide +kernel), List.mem_of_getElem? (i := 2004) (by decide +kernel), List.mem_of_getElem? (i := 2005) (by decide +kernel)⟩
theorem lw_p98 : lw_okq (⟨"HeavyPairsModel", "save", "([II)V"⟩, 62) := ⟨⟨by decide +kernel, by decide +kernel⟩, List.mem_of_getElem? (i := 1531) (by decide +kernel), List.mem_of_getElem? (i := 2008) (by decide +kernel), List.mem_of_getElem? (i := 2009) (by decide +kernel)⟩
theorem lw_p99 : lw_okq (⟨"HeavyPairsModel", "live", "(IIII)V"⟩, 62) := ⟨⟨by decide +kernel, by decide +kernel⟩, List.mem_of_getElem? (i := 1531) (by decide +kernel), List.mem_of_getElem? (i := 2012) (by decide +kernel), List.mem_of_getElem? (i := 2013) (by decide +kernel)⟩
theorem lw_p100 : lw_okq (⟨"HeavyPairsModel", "openOdd", "(I)V"⟩, 62) := ⟨⟨by decide +kernel, by decide +kernel⟩, List.mem_of_getElem? (i := 1531) (by decide +kernel), List.mem_of_getElem? (i := 2016) (by decide +kernel), List.mem_of_getElem? (i := 2017) (by decide +kernel)⟩
theorem lw_p101 : lw_okq (⟨"HeavyPairsModel", "turnPath", "([II)V"⟩, 62) := ⟨⟨by decide +kernel, by decide +kernel⟩, List.mem_of_getElem? (i := 1531) (by decide +kernel), List.mem_of_getElem? (i := 2020) (by decide +kernel), List.mem_of_getElem? (i := 2021) (by decide +kernel)⟩
theorem lw_p102 : lw_okq (⟨"HeavyPairsModel", "isPath", "([II)Z"⟩, 62) := ⟨⟨by decide +kernel, by decide +kernel⟩, List.mem_of_getElem? (i := 1531) (by decide +kernel), List.mem_of_getElem? (i := 2048) (by decide +kernel), List.mem_of_getElem? (i := 2049) (by decide +kernel)⟩
theorem lw_p103 : lw_okq (⟨"HeavyPairsModel", "isFlower", "()Z"⟩, 62) := ⟨⟨by decide +kernel, by decide +kernel⟩, List.mem_of_getElem? (i := 1531) (by decide +kernel), List.mem_of_getElem? (i := 2056) (by decide +kernel), List.mem_of_getElem? (i := 2057) (by decide +kernel)⟩
theorem lw_p104 : lw_okq (⟨"HeavyPairsModel", "comeBack", "([II)V"⟩, 62) := ⟨⟨by decide +kernel, by decide +kernel⟩, List.mem_of_getElem? (i := 1531) (by decide +kernel), List.mem_of_getElem? (i := 2064) (by decide +kernel), List.mem_of_getElem? (i := 2065) (by decide +kernel)⟩
theorem lw_p105 : lw_okq (⟨"HeavyPairsModel", "breaks", "(I)I"⟩, 62) := ⟨⟨by decide +kernel, by decide +kernel⟩, List.mem_of_getElem? (i := 1531) (by decide +kernel), List.mem_of_getElem? (i := 2072) (by decide +kernel), List.mem_of_getElem? (i := 2073) (by decide +kernel)⟩
theorem lw_p106 : lw_okq (⟨"HeavyPairsModel", "stroke", "(IIIZZII)V"⟩, 62) := ⟨⟨by decide +kernel, by decide +kernel⟩, List.mem_of_getElem? (i := 1531) (by decide +kernel), List.mem_of_getElem? (i := 2120) (by decide +kernel), List.mem_of_getElem? (i := 2121) (by decide +kernel)⟩
theorem lw_p107 : lw_okq (⟨"HeavyPairsModel", "fraction", "(III)I"⟩, 62) := ⟨⟨by decide +kernel, by decide +kernel⟩, List.mem_of_getElem? (i := 1531) (by decide +kernel), List.mem_of_getElem? (i := 2128) (by decide +kernel), List.mem_of_getElem? (i := 2129) (by decide +kernel)⟩
theorem lw_p108 : lw_okq (⟨"HeavyPairsModel", "writeWord", "(J)V"⟩, 62) := ⟨⟨by decide +kernel, by decide +kernel⟩, List.mem_of_getElem? (i := 1531) (by decide +kernel), List.mem_of_getElem? (i := 2139) (by decide +kernel), List.mem_of_getElem? (i := 2140) (by decide +kernel)⟩
theorem lw_p109 : lw_okq (⟨"HeavyPairsModel", "write", "(I)V"⟩, 62) := ⟨⟨by decide +kernel, by decide +kernel⟩, List.mem_of_getElem? (i := 1531) (by decide +kernel), List.mem_of_getElem? (i := 2143) (by decide +kernel), List.mem_of_getElem? (i := 2144) (by decide +kernel)⟩
theorem lw_p110 : lw_okq (⟨"HeavyPairsModel", "writeNext", "(J)V"⟩, 62) := ⟨⟨by decide +kernel, by decide +kernel⟩, List.mem_of_getElem? (i := 1531) (by decide +kernel), List.mem_of_getElem? (i := 2147) (by decide +kernel), List.mem_of_getElem? (i := 2148) (by decide +kernel)⟩
theorem lw_p111 : lw_okq (⟨"HeavyPairsModel", "writeNumber", "(I)V"⟩, 62) := ⟨⟨by decide +kernel, by decide +kernel⟩, List.mem_of_getElem? (i := 1531) (by decide +kernel), List.mem_of_getElem? (i := 2151) (by decide +kernel), List.mem_of_getElem? (i := 2152) (by decide +kernel)⟩
def lw_privs_7 : List (MethodName × Nat) := [(⟨"HeavyPairsModel", "refusal", "(IIII)I"⟩, 62), (⟨"HeavyPairsModel", "snap", "()V"⟩, 62), (⟨"HeavyPairsModel", "save", "([II)V"⟩, 62), (⟨"HeavyPairsModel", "live", "(IIII)V"⟩, 62), (⟨"HeavyPairsModel", "openOdd", "(I)V"⟩, 62), (⟨"HeavyPairsModel", "turnPath", "([II)V"⟩, 62), (⟨"HeavyPairsModel", "isPath", "([II)Z"⟩, 62), (⟨"HeavyPairsModel", "isFlower", "()Z"⟩, 62), (⟨"HeavyPairsModel", "comeBack", "([II)V"⟩, 62), (⟨"HeavyPairsModel", "breaks", "(I)I"⟩, 62), (⟨"HeavyPairsModel", "stroke", "(IIIZZII)V"⟩, 62), (⟨"HeavyPairsModel", "fraction", "(III)I"⟩, 62), (⟨"HeavyPairsModel", "writeWord", "(J)V"⟩, 62), (⟨"HeavyPairsModel", "write", "(I)V"⟩, 62), (⟨"HeavyPairsModel", "writeNext", "(J)V"⟩, 62), (⟨"HeavyPairsModel", "writeNumber", "(I)V"⟩, 62)]
theorem lw_r7 : ∀ q ∈ lw_privs_7, lw_okq q := List.forall_mem_cons.mpr ⟨lw_p96, List.forall_mem_cons.mpr ⟨lw_p97, List.forall_mem_cons.mpr ⟨lw_p98, List.forall_mem_cons.mpr ⟨lw_p99, List.forall_mem_cons.mpr ⟨lw_p100, List.forall_mem_cons.mpr ⟨lw_p101, List.forall_mem_cons.mpr ⟨lw_p102, List.forall_mem_cons.mpr ⟨lw_p103, List.forall_mem_cons.mpr ⟨lw_p104, List.forall_mem_cons.mpr ⟨lw_p105, List.forall_mem_cons.mpr ⟨lw_p106, List.forall_mem_cons.mpr ⟨lw_p107, List.forall_mem_cons.mpr ⟨lw_p108, List.forall_mem_cons.mpr ⟨lw_p109, List.forall_mem_cons.mpr ⟨lw_p110, List.forall_mem_cons.mpr ⟨lw_p111, fun _ h => absurd h List.not_mem_nil⟩⟩⟩⟩⟩⟩⟩⟩⟩⟩⟩⟩⟩⟩⟩⟩
theorem lw_p112 : lw_okq (⟨"HeavyPairsModel", "drawDeeds", "(II)I"⟩, 62) := ⟨⟨by decide +kernel, by decide +kernel⟩, List.mem_of_getElem? (i := 1531) (by decide +kernel), List.mem_of_getElem? (i := 2163) (by decide +kernel), List.mem_of_getElem? (i := 2164) (by decide +kernel)⟩
theorem lw_p113 : lw_okq (⟨"HeavyPairsModel", "drawsDeed", "()Z"⟩, 62) := ⟨⟨by decide +kernel, by decide +kernel⟩, List.mem_of_getElem? (i := 1531) (by decide +kernel), List.mem_of_getElem? (i := 2167) (by decide +kernel), List.mem_of_getElem? (i := 2168) (by decide +kernel)⟩
theorem lw_p114 : lw_okq (⟨"HeavyPairsModel", "draw", "(I)I"⟩, 62) := ⟨⟨by decide +kernel, by decide +kernel⟩, List.mem_of_getElem? (i := 1531) (by decide +kernel), List.mem_of_getElem? (i := 2171) (by decide +kernel), List.mem_of_getElem? (i := 2172) (by decide +kernel)⟩
theorem lw_p115 : lw_okq (⟨"HeavyPairsModel", "drawPoint", "()I"⟩, 62) := ⟨⟨by decide +kernel, by decide +kernel⟩, List.mem_of_getElem? (i := 1531) (by decide +kernel), List.mem_of_getElem? (i := 2176) (by decide +kernel), List.mem_of_getElem? (i := 2177) (by decide +kernel)⟩
theorem lw_p116 : lw_okq (⟨"HeavyPairsModel", "doIf", "(IIII)Z"⟩, 62) := ⟨⟨by decide +kernel, by decide +kernel⟩, List.mem_of_getElem? (i := 1531) (by decide +kernel), List.mem_of_getElem? (i := 2180) (by decide +kernel), List.mem_of_getElem? (i := 2181) (by decide +kernel)⟩
theorem lw_p117 : lw_okq (⟨"HeavyPairsModel", "stay", "(Z)V"⟩, 62) := ⟨⟨by decide +kernel, by decide +kernel⟩, List.mem_of_getElem? (i := 1531) (by decide +kernel), List.mem_of_getElem? (i := 2184) (by decide +kernel), List.mem_of_getElem? (i := 2185) (by decide +kernel)⟩
theorem lw_p118 : lw_okq (⟨"HeavyPairsModel", "readBookLine", "()Z"⟩, 62) := ⟨⟨by decide +kernel, by decide +kernel⟩, List.mem_of_getElem? (i := 1531) (by decide +kernel), List.mem_of_getElem? (i := 2196) (by decide +kernel), List.mem_of_getElem? (i := 2197) (by decide +kernel)⟩
theorem lw_p119 : lw_okq (⟨"HeavyPairsModel", "readPointName", "()Z"⟩, 62) := ⟨⟨by decide +kernel, by decide +kernel⟩, List.mem_of_getElem? (i := 1531) (by decide +kernel), List.mem_of_getElem? (i := 2200) (by decide +kernel), List.mem_of_getElem? (i := 2201) (by decide +kernel)⟩
theorem lw_p120 : lw_okq (⟨"HeavyPairsModel", "keep", "(IZ)Z"⟩, 62) := ⟨⟨by decide +kernel, by decide +kernel⟩, List.mem_of_getElem? (i := 1531) (by decide +kernel), List.mem_of_getElem? (i := 2204) (by decide +kernel), List.mem_of_getElem? (i := 2205) (by decide +kernel)⟩
theorem lw_p121 : lw_okq (⟨"HeavyPairsModel", "readOther", "(I)Z"⟩, 62) := ⟨⟨by decide +kernel, by decide +kernel⟩, List.mem_of_getElem? (i := 1531) (by decide +kernel), List.mem_of_getElem? (i := 2208) (by decide +kernel), List.mem_of_getElem? (i := 2209) (by decide +kernel)⟩
theorem lw_p122 : lw_okq (⟨"HeavyPairsModel", "goBy", "(I)I"⟩, 62) := ⟨⟨by decide +kernel, by decide +kernel⟩, List.mem_of_getElem? (i := 1531) (by decide +kernel), List.mem_of_getElem? (i := 2212) (by decide +kernel), List.mem_of_getElem? (i := 2213) (by decide +kernel)⟩
theorem lw_p123 : lw_okq (⟨"HeavyPairsModel", "readOr", "()Z"⟩, 62) := ⟨⟨by decide +kernel, by decide +kernel⟩, List.mem_of_getElem? (i := 1531) (by decide +kernel), List.mem_of_getElem? (i := 2224) (by decide +kernel), List.mem_of_getElem? (i := 2225) (by decide +kernel)⟩
theorem lw_p124 : lw_okq (⟨"HeavyPairsModel", "readAnd", "()Z"⟩, 62) := ⟨⟨by decide +kernel, by decide +kernel⟩, List.mem_of_getElem? (i := 1531) (by decide +kernel), List.mem_of_getElem? (i := 2228) (by decide +kernel), List.mem_of_getElem? (i := 2229) (by decide +kernel)⟩
theorem lw_p125 : lw_okq (⟨"HeavyPairsModel", "readSaid", "()Z"⟩, 62) := ⟨⟨by decide +kernel, by decide +kernel⟩, List.mem_of_getElem? (i := 1531) (by decide +kernel), List.mem_of_getElem? (i := 2232) (by decide +kernel), List.mem_of_getElem? (i := 2233) (by decide +kernel)⟩
theorem lw_p126 : lw_okq (⟨"HeavyPairsModel", "readBracket", "()Z"⟩, 62) := ⟨⟨by decide +kernel, by decide +kernel⟩, List.mem_of_getElem? (i := 1531) (by decide +kernel), List.mem_of_getElem? (i := 2236) (by decide +kernel), List.mem_of_getElem? (i := 2237) (by decide +kernel)⟩
theorem lw_p127 : lw_okq (⟨"HeavyPairsModel", "readNot", "()Z"⟩, 62) := ⟨⟨by decide +kernel, by decide +kernel⟩, List.mem_of_getElem? (i := 1531) (by decide +kernel), List.mem_of_getElem? (i := 2240) (by decide +kernel), List.mem_of_getElem? (i := 2241) (by decide +kernel)⟩
def lw_privs_8 : List (MethodName × Nat) := [(⟨"HeavyPairsModel", "drawDeeds", "(II)I"⟩, 62), (⟨"HeavyPairsModel", "drawsDeed", "()Z"⟩, 62), (⟨"HeavyPairsModel", "draw", "(I)I"⟩, 62), (⟨"HeavyPairsModel", "drawPoint", "()I"⟩, 62), (⟨"HeavyPairsModel", "doIf", "(IIII)Z"⟩, 62), (⟨"HeavyPairsModel", "stay", "(Z)V"⟩, 62), (⟨"HeavyPairsModel", "readBookLine", "()Z"⟩, 62), (⟨"HeavyPairsModel", "readPointName", "()Z"⟩, 62), (⟨"HeavyPairsModel", "keep", "(IZ)Z"⟩, 62), (⟨"HeavyPairsModel", "readOther", "(I)Z"⟩, 62), (⟨"HeavyPairsModel", "goBy", "(I)I"⟩, 62), (⟨"HeavyPairsModel", "readOr", "()Z"⟩, 62), (⟨"HeavyPairsModel", "readAnd", "()Z"⟩, 62), (⟨"HeavyPairsModel", "readSaid", "()Z"⟩, 62), (⟨"HeavyPairsModel", "readBracket", "()Z"⟩, 62), (⟨"HeavyPairsModel", "readNot", "()Z"⟩, 62)]
theorem lw_r8 : ∀ q ∈ lw_privs_8, lw_okq q := List.forall_mem_cons.mpr ⟨lw_p112, List.forall_mem_cons.mpr ⟨lw_p113, List.forall_mem_cons.mpr ⟨lw_p114, List.forall_mem_cons.mpr ⟨lw_p115, List.forall_mem_cons.mpr ⟨lw_p116, List.forall_mem_cons.mpr ⟨lw_p117, List.forall_mem_cons.mpr ⟨lw_p118, List.forall_mem_cons.mpr ⟨lw_p119, List.forall_mem_cons.mpr ⟨lw_p120, List.forall_mem_cons.mpr ⟨lw_p121, List.forall_mem_cons.mpr ⟨lw_p122, List.forall_mem_cons.mpr ⟨lw_p123, List.forall_mem_cons.mpr ⟨lw_p124, List.forall_mem_cons.mpr ⟨lw_p125, List.forall_mem_cons.mpr ⟨lw_p126, List.forall_mem_cons.mpr ⟨lw_p127, fun _ h => absurd h List.not_mem_nil⟩⟩⟩⟩⟩⟩⟩⟩⟩⟩⟩⟩⟩⟩⟩⟩
theorem lw_p128 : lw_okq (⟨"HeavyPairsModel", "saysOne", "(IIII)I"⟩, 62) := ⟨⟨by decide +kernel, by decide +kernel⟩, List.mem_of_getElem? (i := 1531) (by decide +kernel), List.mem_of_getElem? (i := 2244) (by decide +kernel), List.mem_of_getElem? (i := 2245) (by decide +kernel)⟩
theorem lw_p129 : lw_okq (⟨"HeavyPairsModel", "readOf", "(I)Z"⟩, 62) := ⟨⟨by decide +kernel, by decide +kernel⟩, List.mem_of_getElem? (i := 1531) (by decide +kernel), List.mem_of_getElem? (i := 2248) (by decide +kernel), List.mem_of_getElem? (i := 2249) (by decide +kernel)⟩
theorem lw_p130 : lw_okq (⟨"HeavyPairsModel", "readThat", "(I)Z"⟩, 62) := ⟨⟨by decide +kernel, by decide +kernel⟩, List.mem_of_getElem? (i := 1531) (by decide +kernel), List.mem_of_getElem? (i := 2252) (by decide +kernel), List.mem_of_getElem? (i := 2253) (by decide +kernel)⟩
theorem lw_p131 : lw_okq (⟨"HeavyPairsModel", "readCompare", "(I)Z"⟩, 62) := ⟨⟨by decide +kernel, by decide +kernel⟩, List.mem_of_getElem? (i := 1531) (by decide +kernel), List.mem_of_getElem? (i := 2256) (by decide +kernel), List.mem_of_getElem? (i := 2257) (by decide +kernel)⟩
theorem lw_p132 : lw_okq (⟨"HeavyPairsModel", "holds", "(II)Z"⟩, 62) := ⟨⟨by decide +kernel, by decide +kernel⟩, List.mem_of_getElem? (i := 1531) (by decide +kernel), List.mem_of_getElem? (i := 2264) (by decide +kernel), List.mem_of_getElem? (i := 2265) (by decide +kernel)⟩
theorem lw_p133 : lw_okq (⟨"HeavyPairsModel", "weightOf", "(I)I"⟩, 62) := ⟨⟨by decide +kernel, by decide +kernel⟩, List.mem_of_getElem? (i := 1531) (by decide +kernel), List.mem_of_getElem? (i := 2268) (by decide +kernel), List.mem_of_getElem? (i := 2269) (by decide +kernel)⟩
def lw_privs_9 : List (MethodName × Nat) := [(⟨"HeavyPairsModel", "saysOne", "(IIII)I"⟩, 62), (⟨"HeavyPairsModel", "readOf", "(I)Z"⟩, 62), (⟨"HeavyPairsModel", "readThat", "(I)Z"⟩, 62), (⟨"HeavyPairsModel", "readCompare", "(I)Z"⟩, 62), (⟨"HeavyPairsModel", "holds", "(II)Z"⟩, 62), (⟨"HeavyPairsModel", "weightOf", "(I)I"⟩, 62)]
theorem lw_r9 : ∀ q ∈ lw_privs_9, lw_okq q := List.forall_mem_cons.mpr ⟨lw_p128, List.forall_mem_cons.mpr ⟨lw_p129, List.forall_mem_cons.mpr ⟨lw_p130, List.forall_mem_cons.mpr ⟨lw_p131, List.forall_mem_cons.mpr ⟨lw_p132, List.forall_mem_cons.mpr ⟨lw_p133, fun _ h => absurd h List.not_mem_nil⟩⟩⟩⟩⟩⟩
def lw_privs : List (MethodName × Nat) := lw_privs_1 ++ (lw_privs_2 ++ (lw_privs_3 ++ (lw_privs_4 ++ (lw_privs_5 ++ (lw_privs_6 ++ (lw_privs_7 ++ (lw_privs_8 ++ (lw_privs_9))))))))
def lw_tbl : List Cond := k2_sels lw_privs ++ tables_1
theorem lw_privs_ok : ∀ q ∈ lw_privs, lw_okq q := by
  show ∀ q ∈ lw_privs_1 ++ (lw_privs_2 ++ (lw_privs_3 ++ (lw_privs_4 ++ (lw_privs_5 ++ (lw_privs_6 ++ (lw_privs_7 ++ (lw_privs_8 ++ (lw_privs_9)))))))), lw_okq q
  exact List.forall_mem_append.mpr ⟨lw_r1, List.forall_mem_append.mpr ⟨lw_r2, List.forall_mem_append.mpr ⟨lw_r3, List.forall_mem_append.mpr ⟨lw_r4, List.forall_mem_append.mpr ⟨lw_r5, List.forall_mem_append.mpr ⟨lw_r6, List.forall_mem_append.mpr ⟨lw_r7, List.forall_mem_append.mpr ⟨lw_r8, lw_r9⟩⟩⟩⟩⟩⟩⟩⟩
-- ===== end of PART A; then your names; then what follows =====
end
section
def RX0 : String := "HeavyPairs$Book"
def TX0 : u_T := fun k => match k with
  | 0 => ("HeavyPairs$Book", "kind", "[I", true)
  | 1 => ("HeavyPairs$Book", "first", "[I", true)
  | 2 => ("HeavyPairs$Book", "second", "[I", true)
  | 3 => ("HeavyPairs$Book", "third", "[I", true)
  | 4 => ("HeavyPairs$Book", "lines", "I", false)
  | 5 => ("HeavyPairs$Book", "judged", "Z", false)
  | 6 => ("HeavyPairs$Book", "why", "I", false)
  | 7 => ("HeavyPairs$Book", "right", "I", false)
  | 8 => ("HeavyPairs$Book", "total", "I", false)
  | _ => ("HeavyPairs$Book", "bound", "I", false)
def tyX0 : Nat → FieldType := fun k => match k with
  | 0 => .array .int
  | 1 => .array .int
  | 2 => .array .int
  | 3 => .array .int
  | 4 => .int
  | 5 => .boolean
  | 6 => .int
  | 7 => .int
  | 8 => .int
  | _ => .int
abbrev wsX00 : List Cond := u_ws RX0 TX0 10
theorem nmX0 : ∀ a, a < 10 → ∀ b, b < 10 → a ≠ b → (TX0 a).2.1 ≠ (TX0 b).2.1 := by decide +kernel
theorem tyX0_ok : ∀ k, k < 10 → parseFieldDescriptor (TX0 k).2.2.1 = some (tyX0 k) := by decide +kernel
abbrev cX0_init : ByteArray := prog_2_method_1_code
def yX0_init : MethodName := ⟨RX0, "<init>", "()V"⟩
abbrev cX0_toldOf : ByteArray := prog_2_method_2_code
def yX0_toldOf : MethodName := ⟨RX0, "toldOf", "(I)I"⟩
abbrev cX0_read : ByteArray := prog_2_method_3_code
def yX0_read : MethodName := ⟨RX0, "read", "(LHeavyPairs$Tape;LHeavyPairs$Network;)Z"⟩
abbrev cX0_readLine : ByteArray := prog_2_method_4_code
def yX0_readLine : MethodName := ⟨RX0, "readLine", "(LHeavyPairs$Tape;LHeavyPairs$Network;)Z"⟩
abbrev cX0_isDeed : ByteArray := prog_2_method_5_code
def yX0_isDeed : MethodName := ⟨RX0, "isDeed", "(I)Z"⟩
abbrev cX0_readFirst : ByteArray := prog_2_method_6_code
def yX0_readFirst : MethodName := ⟨RX0, "readFirst", "(LHeavyPairs$Tape;LHeavyPairs$Network;)Z"⟩
abbrev cX0_readTwo : ByteArray := prog_2_method_7_code
def yX0_readTwo : MethodName := ⟨RX0, "readTwo", "(LHeavyPairs$Tape;LHeavyPairs$Network;)Z"⟩
abbrev cX0_readNumber : ByteArray := prog_2_method_8_code
def yX0_readNumber : MethodName := ⟨RX0, "readNumber", "(LHeavyPairs$Tape;)Z"⟩
abbrev cX0_readThird : ByteArray := prog_2_method_9_code
def yX0_readThird : MethodName := ⟨RX0, "readThird", "(LHeavyPairs$Tape;II)Z"⟩
abbrev cX0_judge : ByteArray := prog_2_method_10_code
def yX0_judge : MethodName := ⟨RX0, "judge", "(LHeavyPairs$Network;LHeavyPairs$Search;)I"⟩
abbrev cX0_live : ByteArray := prog_2_method_11_code
def yX0_live : MethodName := ⟨RX0, "live", "(ILHeavyPairs$Network;LHeavyPairs$Search;)I"⟩
abbrev cX0_behind : ByteArray := prog_2_method_12_code
def yX0_behind : MethodName := ⟨RX0, "behind", "(II)I"⟩
def RX1 : String := "HeavyPairs$Draws"
def TX1 : u_T := fun k => match k with
  | _ => ("HeavyPairs$Draws", "x", "I", false)
def tyX1 : Nat → FieldType := fun k => match k with
  | _ => .int
abbrev wsX10 : List Cond := u_ws RX1 TX1 1
theorem nmX1 : ∀ a, a < 1 → ∀ b, b < 1 → a ≠ b → (TX1 a).2.1 ≠ (TX1 b).2.1 := by decide +kernel
theorem tyX1_ok : ∀ k, k < 1 → parseFieldDescriptor (TX1 k).2.2.1 = some (tyX1 k) := by decide +kernel
abbrev cX1_init : ByteArray := prog_3_method_1_code
def yX1_init : MethodName := ⟨RX1, "<init>", "()V"⟩
abbrev cX1_run : ByteArray := prog_3_method_2_code
def yX1_run : MethodName := ⟨RX1, "run", "(LHeavyPairs$Network;LHeavyPairs$Search;II)I"⟩
abbrev cX1_draw : ByteArray := prog_3_method_3_code
def yX1_draw : MethodName := ⟨RX1, "draw", "(I)I"⟩
abbrev cX1_isDone : ByteArray := prog_3_method_4_code
def yX1_isDone : MethodName := ⟨RX1, "isDone", "(LHeavyPairs$Network;LHeavyPairs$Search;)Z"⟩
abbrev cX1_pairTwo : ByteArray := prog_3_method_5_code
def yX1_pairTwo : MethodName := ⟨RX1, "pairTwo", "(LHeavyPairs$Network;II)Z"⟩
abbrev cX1_weighOne : ByteArray := prog_3_method_6_code
def yX1_weighOne : MethodName := ⟨RX1, "weighOne", "(LHeavyPairs$Network;)Z"⟩
abbrev cX1_crownOne : ByteArray := prog_3_method_7_code
def yX1_crownOne : MethodName := ⟨RX1, "crownOne", "(LHeavyPairs$Network;)Z"⟩
def RX2 : String := "HeavyPairs$Heaviest"
def TX2 : u_T := fun k => match k with
  | 0 => ("HeavyPairs$Heaviest", "known", "LHeavyPairs$Network;", true)
  | 1 => ("HeavyPairs$Heaviest", "ready", "Z", false)
  | 2 => ("HeavyPairs$Heaviest", "fatesReady", "Z", false)
  | 3 => ("HeavyPairs$Heaviest", "all", "I", false)
  | 4 => ("HeavyPairs$Heaviest", "slotOf", "[I", true)
  | 5 => ("HeavyPairs$Heaviest", "slots", "I", false)
  | 6 => ("HeavyPairs$Heaviest", "tops", "[I", true)
  | 7 => ("HeavyPairs$Heaviest", "seconds", "[I", true)
  | 8 => ("HeavyPairs$Heaviest", "ways", "[I", true)
  | 9 => ("HeavyPairs$Heaviest", "heavies", "[I", true)
  | 10 => ("HeavyPairs$Heaviest", "wanted", "[I", true)
  | 11 => ("HeavyPairs$Heaviest", "contradicted", "Z", false)
  | 12 => ("HeavyPairs$Heaviest", "chosen", "[I", true)
  | 13 => ("HeavyPairs$Heaviest", "tally", "[I", true)
  | 14 => ("HeavyPairs$Heaviest", "fate", "[I", true)
  | _ => ("HeavyPairs$Heaviest", "matching", "I", false)
def tyX2 : Nat → FieldType := fun k => match k with
  | 0 => .object "HeavyPairs$Network"
  | 1 => .boolean
  | 2 => .boolean
  | 3 => .int
  | 4 => .array .int
  | 5 => .int
  | 6 => .array .int
  | 7 => .array .int
  | 8 => .array .int
  | 9 => .array .int
  | 10 => .array .int
  | 11 => .boolean
  | 12 => .array .int
  | 13 => .array .int
  | 14 => .array .int
  | _ => .int
abbrev wsX20 : List Cond := u_ws RX2 TX2 16
theorem nmX2 : ∀ a, a < 16 → ∀ b, b < 16 → a ≠ b → (TX2 a).2.1 ≠ (TX2 b).2.1 := by decide +kernel
theorem tyX2_ok : ∀ k, k < 16 → parseFieldDescriptor (TX2 k).2.2.1 = some (tyX2 k) := by decide +kernel
abbrev cX2_init : ByteArray := prog_4_method_1_code
def yX2_init : MethodName := ⟨RX2, "<init>", "()V"⟩
abbrev cX2_lookAt : ByteArray := prog_4_method_2_code
def yX2_lookAt : MethodName := ⟨RX2, "lookAt", "(LHeavyPairs$Network;)V"⟩
abbrev cX2_top : ByteArray := prog_4_method_3_code
def yX2_top : MethodName := ⟨RX2, "top", "()I"⟩
abbrev cX2_second : ByteArray := prog_4_method_4_code
def yX2_second : MethodName := ⟨RX2, "second", "()I"⟩
abbrev cX2_heaviestOf : ByteArray := prog_4_method_5_code
def yX2_heaviestOf : MethodName := ⟨RX2, "heaviestOf", "(I)I"⟩
abbrev cX2_countOf : ByteArray := prog_4_method_6_code
def yX2_countOf : MethodName := ⟨RX2, "countOf", "(I)I"⟩
abbrev cX2_slotKnown : ByteArray := prog_4_method_7_code
def yX2_slotKnown : MethodName := ⟨RX2, "slotKnown", "(I)I"⟩
abbrev cX2_topFor : ByteArray := prog_4_method_8_code
def yX2_topFor : MethodName := ⟨RX2, "topFor", "(I)I"⟩
abbrev cX2_slotFor : ByteArray := prog_4_method_9_code
def yX2_slotFor : MethodName := ⟨RX2, "slotFor", "(II)I"⟩
abbrev cX2_leastOf : ByteArray := prog_4_method_10_code
def yX2_leastOf : MethodName := ⟨RX2, "leastOf", "(I)I"⟩
abbrev cX2_startSlot : ByteArray := prog_4_method_11_code
def yX2_startSlot : MethodName := ⟨RX2, "startSlot", "(IZ)V"⟩
abbrev cX2_addWays : ByteArray := prog_4_method_12_code
def yX2_addWays : MethodName := ⟨RX2, "addWays", "(IIII)V"⟩
abbrev cX2_addTotal : ByteArray := prog_4_method_13_code
def yX2_addTotal : MethodName := ⟨RX2, "addTotal", "(II)V"⟩
abbrev cX2_bestInto : ByteArray := prog_4_method_14_code
def yX2_bestInto : MethodName := ⟨RX2, "bestInto", "(LHeavyPairs$Row;)V"⟩
abbrev cX2_firstBestPartner : ByteArray := prog_4_method_15_code
def yX2_firstBestPartner : MethodName := ⟨RX2, "firstBestPartner", "(II)I"⟩
abbrev cX2_keepsTop : ByteArray := prog_4_method_16_code
def yX2_keepsTop : MethodName := ⟨RX2, "keepsTop", "(III)Z"⟩
abbrev cX2_choose : ByteArray := prog_4_method_17_code
def yX2_choose : MethodName := ⟨RX2, "choose", "(II)V"⟩
abbrev cX2_fateOf : ByteArray := prog_4_method_18_code
def yX2_fateOf : MethodName := ⟨RX2, "fateOf", "(I)I"⟩
abbrev cX2_wantNothing : ByteArray := prog_4_method_19_code
def yX2_wantNothing : MethodName := ⟨RX2, "wantNothing", "()V"⟩
abbrev cX2_want : ByteArray := prog_4_method_20_code
def yX2_want : MethodName := ⟨RX2, "want", "(II)V"⟩
abbrev cX2_countWanted : ByteArray := prog_4_method_21_code
def yX2_countWanted : MethodName := ⟨RX2, "countWanted", "()I"⟩
abbrev cX2_walkBest : ByteArray := prog_4_method_22_code
def yX2_walkBest : MethodName := ⟨RX2, "walkBest", "(II)V"⟩
abbrev cX2_mayBe : ByteArray := prog_4_method_23_code
def yX2_mayBe : MethodName := ⟨RX2, "mayBe", "(II)Z"⟩
abbrev cX2_tallyChosen : ByteArray := prog_4_method_24_code
def yX2_tallyChosen : MethodName := ⟨RX2, "tallyChosen", "()V"⟩
abbrev cX2_tallyAt : ByteArray := prog_4_method_25_code
def yX2_tallyAt : MethodName := ⟨RX2, "tallyAt", "(II)I"⟩
abbrev cX2_mostTelling : ByteArray := prog_4_method_26_code
def yX2_mostTelling : MethodName := ⟨RX2, "mostTelling", "()I"⟩
def RX3 : String := "HeavyPairs$History"
def TX3 : u_T := fun k => match k with
  | 0 => ("HeavyPairs$History", "before", "[LHeavyPairs$Network;", true)
  | 1 => ("HeavyPairs$History", "at", "I", false)
  | _ => ("HeavyPairs$History", "kept", "I", false)
def tyX3 : Nat → FieldType := fun k => match k with
  | 0 => .array (.object "HeavyPairs$Network")
  | 1 => .int
  | _ => .int
abbrev wsX30 : List Cond := u_ws RX3 TX3 3
theorem nmX3 : ∀ a, a < 3 → ∀ b, b < 3 → a ≠ b → (TX3 a).2.1 ≠ (TX3 b).2.1 := by decide +kernel
theorem tyX3_ok : ∀ k, k < 3 → parseFieldDescriptor (TX3 k).2.2.1 = some (tyX3 k) := by decide +kernel
abbrev cX3_init : ByteArray := prog_5_method_1_code
def yX3_init : MethodName := ⟨RX3, "<init>", "()V"⟩
abbrev cX3_forget : ByteArray := prog_5_method_2_code
def yX3_forget : MethodName := ⟨RX3, "forget", "()V"⟩
abbrev cX3_mark : ByteArray := prog_5_method_3_code
def yX3_mark : MethodName := ⟨RX3, "mark", "(LHeavyPairs$Network;)V"⟩
abbrev cX3_keep : ByteArray := prog_5_method_4_code
def yX3_keep : MethodName := ⟨RX3, "keep", "()V"⟩
abbrev cX3_takeBack : ByteArray := prog_5_method_5_code
def yX3_takeBack : MethodName := ⟨RX3, "takeBack", "(LHeavyPairs$Network;)I"⟩
def RX4 : String := "HeavyPairs$Network"
def TX4 : u_T := fun k => match k with
  | 0 => ("HeavyPairs$Network", "points", "I", false)
  | 1 => ("HeavyPairs$Network", "links", "I", false)
  | 2 => ("HeavyPairs$Network", "sets", "I", false)
  | 3 => ("HeavyPairs$Network", "turned", "I", false)
  | 4 => ("HeavyPairs$Network", "shrunk", "I", false)
  | 5 => ("HeavyPairs$Network", "name", "[J", true)
  | 6 => ("HeavyPairs$Network", "near", "[I", true)
  | 7 => ("HeavyPairs$Network", "partner", "[I", true)
  | 8 => ("HeavyPairs$Network", "price", "[I", true)
  | 9 => ("HeavyPairs$Network", "from", "[I", true)
  | 10 => ("HeavyPairs$Network", "to", "[I", true)
  | 11 => ("HeavyPairs$Network", "weight", "[I", true)
  | 12 => ("HeavyPairs$Network", "linkAt", "[I", true)
  | 13 => ("HeavyPairs$Network", "members", "[I", true)
  | _ => ("HeavyPairs$Network", "crowns", "[I", true)
def tyX4 : Nat → FieldType := fun k => match k with
  | 0 => .int
  | 1 => .int
  | 2 => .int
  | 3 => .int
  | 4 => .int
  | 5 => .array .long
  | 6 => .array .int
  | 7 => .array .int
  | 8 => .array .int
  | 9 => .array .int
  | 10 => .array .int
  | 11 => .array .int
  | 12 => .array .int
  | 13 => .array .int
  | _ => .array .int
abbrev wsX40 : List Cond := u_ws RX4 TX4 15
theorem nmX4 : ∀ a, a < 15 → ∀ b, b < 15 → a ≠ b → (TX4 a).2.1 ≠ (TX4 b).2.1 := by decide +kernel
theorem tyX4_ok : ∀ k, k < 15 → parseFieldDescriptor (TX4 k).2.2.1 = some (tyX4 k) := by decide +kernel
abbrev cX4_init : ByteArray := prog_6_method_1_code
def yX4_init : MethodName := ⟨RX4, "<init>", "()V"⟩
abbrev cX4_clear : ByteArray := prog_6_method_2_code
def yX4_clear : MethodName := ⟨RX4, "clear", "()V"⟩
abbrev cX4_copyFrom : ByteArray := prog_6_method_3_code
def yX4_copyFrom : MethodName := ⟨RX4, "copyFrom", "(LHeavyPairs$Network;)V"⟩
abbrev cX4_copyLinksFrom : ByteArray := prog_6_method_4_code
def yX4_copyLinksFrom : MethodName := ⟨RX4, "copyLinksFrom", "(LHeavyPairs$Network;)V"⟩
abbrev cX4_hasLinksOf : ByteArray := prog_6_method_5_code
def yX4_hasLinksOf : MethodName := ⟨RX4, "hasLinksOf", "(LHeavyPairs$Network;)Z"⟩
abbrev cX4_points : ByteArray := prog_6_method_6_code
def yX4_points : MethodName := ⟨RX4, "points", "()I"⟩
abbrev cX4_links : ByteArray := prog_6_method_7_code
def yX4_links : MethodName := ⟨RX4, "links", "()I"⟩
abbrev cX4_sets : ByteArray := prog_6_method_8_code
def yX4_sets : MethodName := ⟨RX4, "sets", "()I"⟩
abbrev cX4_turned : ByteArray := prog_6_method_9_code
def yX4_turned : MethodName := ⟨RX4, "turned", "()I"⟩
abbrev cX4_shrunk : ByteArray := prog_6_method_10_code
def yX4_shrunk : MethodName := ⟨RX4, "shrunk", "()I"⟩
abbrev cX4_hasPoint : ByteArray := prog_6_method_11_code
def yX4_hasPoint : MethodName := ⟨RX4, "hasPoint", "(I)Z"⟩
abbrev cX4_hasLink : ByteArray := prog_6_method_12_code
def yX4_hasLink : MethodName := ⟨RX4, "hasLink", "(I)Z"⟩
abbrev cX4_hasSet : ByteArray := prog_6_method_13_code
def yX4_hasSet : MethodName := ⟨RX4, "hasSet", "(I)Z"⟩
abbrev cX4_addPoint : ByteArray := prog_6_method_14_code
def yX4_addPoint : MethodName := ⟨RX4, "addPoint", "(J)V"⟩
abbrev cX4_addLink : ByteArray := prog_6_method_15_code
def yX4_addLink : MethodName := ⟨RX4, "addLink", "(III)V"⟩
abbrev cX4_addSet : ByteArray := prog_6_method_16_code
def yX4_addSet : MethodName := ⟨RX4, "addSet", "(II)V"⟩
abbrev cX4_pointNamed : ByteArray := prog_6_method_17_code
def yX4_pointNamed : MethodName := ⟨RX4, "pointNamed", "(J)I"⟩
abbrev cX4_nameOf : ByteArray := prog_6_method_18_code
def yX4_nameOf : MethodName := ⟨RX4, "nameOf", "(I)J"⟩
abbrev cX4_nearTo : ByteArray := prog_6_method_19_code
def yX4_nearTo : MethodName := ⟨RX4, "nearTo", "(I)I"⟩
abbrev cX4_partnerOf : ByteArray := prog_6_method_20_code
def yX4_partnerOf : MethodName := ⟨RX4, "partnerOf", "(I)I"⟩
abbrev cX4_isLone : ByteArray := prog_6_method_21_code
def yX4_isLone : MethodName := ⟨RX4, "isLone", "(I)Z"⟩
abbrev cX4_priceOf : ByteArray := prog_6_method_22_code
def yX4_priceOf : MethodName := ⟨RX4, "priceOf", "(I)I"⟩
abbrev cX4_fromOf : ByteArray := prog_6_method_23_code
def yX4_fromOf : MethodName := ⟨RX4, "fromOf", "(I)I"⟩
abbrev cX4_toOf : ByteArray := prog_6_method_24_code
def yX4_toOf : MethodName := ⟨RX4, "toOf", "(I)I"⟩
abbrev cX4_weightAt : ByteArray := prog_6_method_25_code
def yX4_weightAt : MethodName := ⟨RX4, "weightAt", "(I)I"⟩
abbrev cX4_isPair : ByteArray := prog_6_method_26_code
def yX4_isPair : MethodName := ⟨RX4, "isPair", "(I)Z"⟩
abbrev cX4_membersOf : ByteArray := prog_6_method_27_code
def yX4_membersOf : MethodName := ⟨RX4, "membersOf", "(I)I"⟩
abbrev cX4_crownOf : ByteArray := prog_6_method_28_code
def yX4_crownOf : MethodName := ⟨RX4, "crownOf", "(I)I"⟩
abbrev cX4_areLinked : ByteArray := prog_6_method_29_code
def yX4_areLinked : MethodName := ⟨RX4, "areLinked", "(II)Z"⟩
abbrev cX4_linkOf : ByteArray := prog_6_method_30_code
def yX4_linkOf : MethodName := ⟨RX4, "linkOf", "(II)I"⟩
abbrev cX4_weightOf : ByteArray := prog_6_method_31_code
def yX4_weightOf : MethodName := ⟨RX4, "weightOf", "(II)I"⟩
abbrev cX4_setOf : ByteArray := prog_6_method_32_code
def yX4_setOf : MethodName := ⟨RX4, "setOf", "(I)I"⟩
abbrev cX4_setsWith : ByteArray := prog_6_method_33_code
def yX4_setsWith : MethodName := ⟨RX4, "setsWith", "(I)I"⟩
abbrev cX4_slackOf : ByteArray := prog_6_method_34_code
def yX4_slackOf : MethodName := ⟨RX4, "slackOf", "(I)I"⟩
abbrev cX4_tightLinks : ByteArray := prog_6_method_35_code
def yX4_tightLinks : MethodName := ⟨RX4, "tightLinks", "()I"⟩
abbrev cX4_tightTo : ByteArray := prog_6_method_36_code
def yX4_tightTo : MethodName := ⟨RX4, "tightTo", "(I)I"⟩
abbrev cX4_otherEnd : ByteArray := prog_6_method_37_code
def yX4_otherEnd : MethodName := ⟨RX4, "otherEnd", "(II)I"⟩
abbrev cX4_tightPoints : ByteArray := prog_6_method_38_code
def yX4_tightPoints : MethodName := ⟨RX4, "tightPoints", "()I"⟩
abbrev cX4_lonePoints : ByteArray := prog_6_method_39_code
def yX4_lonePoints : MethodName := ⟨RX4, "lonePoints", "()I"⟩
abbrev cX4_pairs : ByteArray := prog_6_method_40_code
def yX4_pairs : MethodName := ⟨RX4, "pairs", "()I"⟩
abbrev cX4_total : ByteArray := prog_6_method_41_code
def yX4_total : MethodName := ⟨RX4, "total", "()I"⟩
abbrev cX4_pairsWithin : ByteArray := prog_6_method_42_code
def yX4_pairsWithin : MethodName := ⟨RX4, "pairsWithin", "(I)I"⟩
abbrev cX4_fullPairs : ByteArray := prog_6_method_43_code
def yX4_fullPairs : MethodName := ⟨RX4, "fullPairs", "(I)I"⟩
abbrev cX4_bound : ByteArray := prog_6_method_44_code
def yX4_bound : MethodName := ⟨RX4, "bound", "()I"⟩
abbrev cX4_roomOf : ByteArray := prog_6_method_45_code
def yX4_roomOf : MethodName := ⟨RX4, "roomOf", "(I)I"⟩
abbrev cX4_firstLinkBelow : ByteArray := prog_6_method_46_code
def yX4_firstLinkBelow : MethodName := ⟨RX4, "firstLinkBelow", "()I"⟩
abbrev cX4_firstLoosePair : ByteArray := prog_6_method_47_code
def yX4_firstLoosePair : MethodName := ⟨RX4, "firstLoosePair", "()I"⟩
abbrev cX4_firstPricedLone : ByteArray := prog_6_method_48_code
def yX4_firstPricedLone : MethodName := ⟨RX4, "firstPricedLone", "()I"⟩
abbrev cX4_firstCrownedUnfilled : ByteArray := prog_6_method_49_code
def yX4_firstCrownedUnfilled : MethodName := ⟨RX4, "firstCrownedUnfilled", "()I"⟩
abbrev cX4_pairUp : ByteArray := prog_6_method_50_code
def yX4_pairUp : MethodName := ⟨RX4, "pairUp", "(II)I"⟩
abbrev cX4_partFrom : ByteArray := prog_6_method_51_code
def yX4_partFrom : MethodName := ⟨RX4, "partFrom", "(I)I"⟩
abbrev cX4_weighAnew : ByteArray := prog_6_method_52_code
def yX4_weighAnew : MethodName := ⟨RX4, "weighAnew", "(III)I"⟩
abbrev cX4_priceAt : ByteArray := prog_6_method_53_code
def yX4_priceAt : MethodName := ⟨RX4, "priceAt", "(II)I"⟩
abbrev cX4_crownAt : ByteArray := prog_6_method_54_code
def yX4_crownAt : MethodName := ⟨RX4, "crownAt", "(II)I"⟩
abbrev cX4_openSet : ByteArray := prog_6_method_55_code
def yX4_openSet : MethodName := ⟨RX4, "openSet", "(I)I"⟩
abbrev cX4_turnAlong : ByteArray := prog_6_method_56_code
def yX4_turnAlong : MethodName := ⟨RX4, "turnAlong", "(LHeavyPairs$Row;)I"⟩
abbrev cX4_shrinkAlong : ByteArray := prog_6_method_57_code
def yX4_shrinkAlong : MethodName := ⟨RX4, "shrinkAlong", "(LHeavyPairs$Row;)I"⟩
abbrev cX4_goesByPairs : ByteArray := prog_6_method_58_code
def yX4_goesByPairs : MethodName := ⟨RX4, "goesByPairs", "(LHeavyPairs$Row;)Z"⟩
def RX5 : String := "HeavyPairs$NetworkText"
def TX5 : u_T := fun k => match k with
  | 0 => ("HeavyPairs$NetworkText", "told", "LHeavyPairs$Network;", true)
  | 1 => ("HeavyPairs$NetworkText", "lines", "I", false)
  | _ => ("HeavyPairs$NetworkText", "priced", "I", false)
def tyX5 : Nat → FieldType := fun k => match k with
  | 0 => .object "HeavyPairs$Network"
  | 1 => .int
  | _ => .int
abbrev wsX50 : List Cond := u_ws RX5 TX5 3
theorem nmX5 : ∀ a, a < 3 → ∀ b, b < 3 → a ≠ b → (TX5 a).2.1 ≠ (TX5 b).2.1 := by decide +kernel
theorem tyX5_ok : ∀ k, k < 3 → parseFieldDescriptor (TX5 k).2.2.1 = some (tyX5 k) := by decide +kernel
abbrev cX5_init : ByteArray := prog_7_method_1_code
def yX5_init : MethodName := ⟨RX5, "<init>", "()V"⟩
abbrev cX5_result : ByteArray := prog_7_method_2_code
def yX5_result : MethodName := ⟨RX5, "result", "()LHeavyPairs$Network;"⟩
abbrev cX5_lines : ByteArray := prog_7_method_3_code
def yX5_lines : MethodName := ⟨RX5, "lines", "()I"⟩
abbrev cX5_read : ByteArray := prog_7_method_4_code
def yX5_read : MethodName := ⟨RX5, "read", "(LHeavyPairs$Tape;)Z"⟩
abbrev cX5_readLine : ByteArray := prog_7_method_5_code
def yX5_readLine : MethodName := ⟨RX5, "readLine", "(LHeavyPairs$Tape;)Z"⟩
abbrev cX5_readPoint : ByteArray := prog_7_method_6_code
def yX5_readPoint : MethodName := ⟨RX5, "readPoint", "(LHeavyPairs$Tape;)Z"⟩
abbrev cX5_readLink : ByteArray := prog_7_method_7_code
def yX5_readLink : MethodName := ⟨RX5, "readLink", "(LHeavyPairs$Tape;)Z"⟩
abbrev cX5_readPair : ByteArray := prog_7_method_8_code
def yX5_readPair : MethodName := ⟨RX5, "readPair", "(LHeavyPairs$Tape;)Z"⟩
abbrev cX5_readPrice : ByteArray := prog_7_method_9_code
def yX5_readPrice : MethodName := ⟨RX5, "readPrice", "(LHeavyPairs$Tape;)Z"⟩
abbrev cX5_readSet : ByteArray := prog_7_method_10_code
def yX5_readSet : MethodName := ⟨RX5, "readSet", "(LHeavyPairs$Tape;)Z"⟩
def RX6 : String := "HeavyPairs$Picture"
def TX6 : u_T := fun k => match k with
  | 0 => ("HeavyPairs$Picture", "kept", "LHeavyPairs$Network;", true)
  | 1 => ("HeavyPairs$Picture", "keptSaying", "LHeavyPairs$Saying;", true)
  | _ => ("HeavyPairs$Picture", "filled", "Z", false)
def tyX6 : Nat → FieldType := fun k => match k with
  | 0 => .object "HeavyPairs$Network"
  | 1 => .object "HeavyPairs$Saying"
  | _ => .boolean
abbrev wsX60 : List Cond := u_ws RX6 TX6 3
theorem nmX6 : ∀ a, a < 3 → ∀ b, b < 3 → a ≠ b → (TX6 a).2.1 ≠ (TX6 b).2.1 := by decide +kernel
theorem tyX6_ok : ∀ k, k < 3 → parseFieldDescriptor (TX6 k).2.2.1 = some (tyX6 k) := by decide +kernel
abbrev cX6_init : ByteArray := prog_8_method_1_code
def yX6_init : MethodName := ⟨RX6, "<init>", "()V"⟩
abbrev cX6_take : ByteArray := prog_8_method_2_code
def yX6_take : MethodName := ⟨RX6, "take", "(LHeavyPairs$Network;LHeavyPairs$Saying;)V"⟩
abbrev cX6_giveBack : ByteArray := prog_8_method_3_code
def yX6_giveBack : MethodName := ⟨RX6, "giveBack", "(LHeavyPairs$Network;LHeavyPairs$Saying;)Z"⟩
def RX7 : String := "HeavyPairs$Row"
def TX7 : u_T := fun k => match k with
  | 0 => ("HeavyPairs$Row", "items", "[I", true)
  | _ => ("HeavyPairs$Row", "length", "I", false)
def tyX7 : Nat → FieldType := fun k => match k with
  | 0 => .array .int
  | _ => .int
abbrev wsX70 : List Cond := u_ws RX7 TX7 2
theorem nmX7 : ∀ a, a < 2 → ∀ b, b < 2 → a ≠ b → (TX7 a).2.1 ≠ (TX7 b).2.1 := by decide +kernel
theorem tyX7_ok : ∀ k, k < 2 → parseFieldDescriptor (TX7 k).2.2.1 = some (tyX7 k) := by decide +kernel
abbrev cX7_init : ByteArray := prog_9_method_1_code
def yX7_init : MethodName := ⟨RX7, "<init>", "(I)V"⟩
abbrev cX7_size : ByteArray := prog_9_method_2_code
def yX7_size : MethodName := ⟨RX7, "size", "()I"⟩
abbrev cX7_at : ByteArray := prog_9_method_3_code
def yX7_at : MethodName := ⟨RX7, "at", "(I)I"⟩
abbrev cX7_clear : ByteArray := prog_9_method_4_code
def yX7_clear : MethodName := ⟨RX7, "clear", "()V"⟩
abbrev cX7_add : ByteArray := prog_9_method_5_code
def yX7_add : MethodName := ⟨RX7, "add", "(I)V"⟩
abbrev cX7_dropTwo : ByteArray := prog_9_method_6_code
def yX7_dropTwo : MethodName := ⟨RX7, "dropTwo", "()V"⟩
abbrev cX7_copyFrom : ByteArray := prog_9_method_7_code
def yX7_copyFrom : MethodName := ⟨RX7, "copyFrom", "(LHeavyPairs$Row;)V"⟩
abbrev cX7_addText : ByteArray := prog_9_method_8_code
def yX7_addText : MethodName := ⟨RX7, "addText", "(Ljava/lang/String;)V"⟩
abbrev cX7_addName : ByteArray := prog_9_method_9_code
def yX7_addName : MethodName := ⟨RX7, "addName", "(J)V"⟩
abbrev cX7_addDigits : ByteArray := prog_9_method_10_code
def yX7_addDigits : MethodName := ⟨RX7, "addDigits", "(I)V"⟩
def RX8 : String := "HeavyPairs$Saying"
def TX8 : u_T := fun k => match k with
  | 0 => ("HeavyPairs$Saying", "part", "[I", true)
  | 1 => ("HeavyPairs$Saying", "sign", "[I", true)
  | 2 => ("HeavyPairs$Saying", "value", "[I", true)
  | 3 => ("HeavyPairs$Saying", "pile", "[I", true)
  | 4 => ("HeavyPairs$Saying", "parts", "I", false)
  | 5 => ("HeavyPairs$Saying", "ones", "I", false)
  | _ => ("HeavyPairs$Saying", "stands", "Z", false)
def tyX8 : Nat → FieldType := fun k => match k with
  | 0 => .array .int
  | 1 => .array .int
  | 2 => .array .int
  | 3 => .array .int
  | 4 => .int
  | 5 => .int
  | _ => .boolean
abbrev wsX80 : List Cond := u_ws RX8 TX8 7
theorem nmX8 : ∀ a, a < 7 → ∀ b, b < 7 → a ≠ b → (TX8 a).2.1 ≠ (TX8 b).2.1 := by decide +kernel
theorem tyX8_ok : ∀ k, k < 7 → parseFieldDescriptor (TX8 k).2.2.1 = some (tyX8 k) := by decide +kernel
abbrev cX8_init : ByteArray := prog_10_method_1_code
def yX8_init : MethodName := ⟨RX8, "<init>", "()V"⟩
abbrev cX8_stands : ByteArray := prog_10_method_2_code
def yX8_stands : MethodName := ⟨RX8, "stands", "()Z"⟩
abbrev cX8_ones : ByteArray := prog_10_method_3_code
def yX8_ones : MethodName := ⟨RX8, "ones", "()I"⟩
abbrev cX8_clear : ByteArray := prog_10_method_4_code
def yX8_clear : MethodName := ⟨RX8, "clear", "()V"⟩
abbrev cX8_copyFrom : ByteArray := prog_10_method_5_code
def yX8_copyFrom : MethodName := ⟨RX8, "copyFrom", "(LHeavyPairs$Saying;)V"⟩
abbrev cX8_read : ByteArray := prog_10_method_6_code
def yX8_read : MethodName := ⟨RX8, "read", "(LHeavyPairs$Tape;LHeavyPairs$Network;)Z"⟩
abbrev cX8_readCond : ByteArray := prog_10_method_7_code
def yX8_readCond : MethodName := ⟨RX8, "readCond", "(LHeavyPairs$Tape;LHeavyPairs$Network;I)Z"⟩
abbrev cX8_readAll : ByteArray := prog_10_method_8_code
def yX8_readAll : MethodName := ⟨RX8, "readAll", "(LHeavyPairs$Tape;LHeavyPairs$Network;I)Z"⟩
abbrev cX8_readOne : ByteArray := prog_10_method_9_code
def yX8_readOne : MethodName := ⟨RX8, "readOne", "(LHeavyPairs$Tape;LHeavyPairs$Network;I)Z"⟩
abbrev cX8_putIfRead : ByteArray := prog_10_method_10_code
def yX8_putIfRead : MethodName := ⟨RX8, "putIfRead", "(III)Z"⟩
abbrev cX8_put : ByteArray := prog_10_method_11_code
def yX8_put : MethodName := ⟨RX8, "put", "(III)Z"⟩
abbrev cX8_pointsOf : ByteArray := prog_10_method_12_code
def yX8_pointsOf : MethodName := ⟨RX8, "pointsOf", "(LHeavyPairs$Network;)I"⟩
abbrev cX8_pointsOfOne : ByteArray := prog_10_method_13_code
def yX8_pointsOfOne : MethodName := ⟨RX8, "pointsOfOne", "(LHeavyPairs$Network;III)I"⟩
abbrev cX8_pointsCompared : ByteArray := prog_10_method_14_code
def yX8_pointsCompared : MethodName := ⟨RX8, "pointsCompared", "(LHeavyPairs$Network;III)I"⟩
abbrev cX8_measureOf : ByteArray := prog_10_method_15_code
def yX8_measureOf : MethodName := ⟨RX8, "measureOf", "(LHeavyPairs$Network;II)I"⟩
def RX9 : String := "HeavyPairs$Search"
def TX9 : u_T := fun k => match k with
  | 0 => ("HeavyPairs$Search", "row", "LHeavyPairs$Row;", true)
  | _ => ("HeavyPairs$Search", "greatest", "I", false)
def tyX9 : Nat → FieldType := fun k => match k with
  | 0 => .object "HeavyPairs$Row"
  | _ => .int
abbrev wsX90 : List Cond := u_ws RX9 TX9 2
theorem nmX9 : ∀ a, a < 2 → ∀ b, b < 2 → a ≠ b → (TX9 a).2.1 ≠ (TX9 b).2.1 := by decide +kernel
theorem tyX9_ok : ∀ k, k < 2 → parseFieldDescriptor (TX9 k).2.2.1 = some (tyX9 k) := by decide +kernel
abbrev cX9_init : ByteArray := prog_11_method_1_code
def yX9_init : MethodName := ⟨RX9, "<init>", "()V"⟩
abbrev cX9_row : ByteArray := prog_11_method_2_code
def yX9_row : MethodName := ⟨RX9, "row", "()LHeavyPairs$Row;"⟩
abbrev cX9_findPath : ByteArray := prog_11_method_3_code
def yX9_findPath : MethodName := ⟨RX9, "findPath", "(LHeavyPairs$Network;I)Z"⟩
abbrev cX9_findFlower : ByteArray := prog_11_method_4_code
def yX9_findFlower : MethodName := ⟨RX9, "findFlower", "(LHeavyPairs$Network;I)Z"⟩
abbrev cX9_findRow : ByteArray := prog_11_method_5_code
def yX9_findRow : MethodName := ⟨RX9, "findRow", "(LHeavyPairs$Network;IIZ)Z"⟩
abbrev cX9_goOn : ByteArray := prog_11_method_6_code
def yX9_goOn : MethodName := ⟨RX9, "goOn", "(LHeavyPairs$Network;IIZ)Z"⟩
abbrev cX9_growFrom : ByteArray := prog_11_method_7_code
def yX9_growFrom : MethodName := ⟨RX9, "growFrom", "(LHeavyPairs$Network;I)I"⟩
abbrev cX9_greatestGain : ByteArray := prog_11_method_8_code
def yX9_greatestGain : MethodName := ⟨RX9, "greatestGain", "(LHeavyPairs$Network;)I"⟩
abbrev cX9_strokeOn : ByteArray := prog_11_method_9_code
def yX9_strokeOn : MethodName := ⟨RX9, "strokeOn", "(LHeavyPairs$Network;IIIII)V"⟩
def RX10 : String := "HeavyPairs$Tape"
def TX10 : u_T := fun k => match k with
  | 0 => ("HeavyPairs$Tape", "bytes", "[I", true)
  | 1 => ("HeavyPairs$Tape", "toldWords", "[J", true)
  | 2 => ("HeavyPairs$Tape", "length", "I", false)
  | 3 => ("HeavyPairs$Tape", "most", "I", false)
  | 4 => ("HeavyPairs$Tape", "place", "I", false)
  | 5 => ("HeavyPairs$Tape", "overlong", "Z", false)
  | 6 => ("HeavyPairs$Tape", "kind", "I", false)
  | 7 => ("HeavyPairs$Tape", "start", "I", false)
  | 8 => ("HeavyPairs$Tape", "number", "I", false)
  | 9 => ("HeavyPairs$Tape", "word", "J", false)
  | 10 => ("HeavyPairs$Tape", "faultKind", "I", false)
  | _ => ("HeavyPairs$Tape", "faultAt", "I", false)
def tyX10 : Nat → FieldType := fun k => match k with
  | 0 => .array .int
  | 1 => .array .long
  | 2 => .int
  | 3 => .int
  | 4 => .int
  | 5 => .boolean
  | 6 => .int
  | 7 => .int
  | 8 => .int
  | 9 => .long
  | 10 => .int
  | _ => .int
abbrev wsX100 : List Cond := u_ws RX10 TX10 12
theorem nmX10 : ∀ a, a < 12 → ∀ b, b < 12 → a ≠ b → (TX10 a).2.1 ≠ (TX10 b).2.1 := by decide +kernel
theorem tyX10_ok : ∀ k, k < 12 → parseFieldDescriptor (TX10 k).2.2.1 = some (tyX10 k) := by decide +kernel
abbrev cX10_init : ByteArray := prog_12_method_1_code
def yX10_init : MethodName := ⟨RX10, "<init>", "()V"⟩
abbrev cX10_length : ByteArray := prog_12_method_2_code
def yX10_length : MethodName := ⟨RX10, "length", "()I"⟩
abbrev cX10_signAt : ByteArray := prog_12_method_3_code
def yX10_signAt : MethodName := ⟨RX10, "signAt", "(I)I"⟩
abbrev cX10_putFour : ByteArray := prog_12_method_4_code
def yX10_putFour : MethodName := ⟨RX10, "putFour", "(I)V"⟩
abbrev cX10_cut : ByteArray := prog_12_method_5_code
def yX10_cut : MethodName := ⟨RX10, "cut", "(I)V"⟩
abbrev cX10_faultKind : ByteArray := prog_12_method_6_code
def yX10_faultKind : MethodName := ⟨RX10, "faultKind", "()I"⟩
abbrev cX10_faultAt : ByteArray := prog_12_method_7_code
def yX10_faultAt : MethodName := ⟨RX10, "faultAt", "()I"⟩
abbrev cX10_kind : ByteArray := prog_12_method_8_code
def yX10_kind : MethodName := ⟨RX10, "kind", "()I"⟩
abbrev cX10_word : ByteArray := prog_12_method_9_code
def yX10_word : MethodName := ⟨RX10, "word", "()J"⟩
abbrev cX10_begin : ByteArray := prog_12_method_10_code
def yX10_begin : MethodName := ⟨RX10, "begin", "(I)V"⟩
abbrev cX10_advance : ByteArray := prog_12_method_11_code
def yX10_advance : MethodName := ⟨RX10, "advance", "()V"⟩
abbrev cX10_readChunk : ByteArray := prog_12_method_12_code
def yX10_readChunk : MethodName := ⟨RX10, "readChunk", "()V"⟩
abbrev cX10_fail : ByteArray := prog_12_method_13_code
def yX10_fail : MethodName := ⟨RX10, "fail", "(I)Z"⟩
abbrev cX10_take : ByteArray := prog_12_method_14_code
def yX10_take : MethodName := ⟨RX10, "take", "(I)Z"⟩
abbrev cX10_takeNumber : ByteArray := prog_12_method_15_code
def yX10_takeNumber : MethodName := ⟨RX10, "takeNumber", "(II)I"⟩
abbrev cX10_pointHere : ByteArray := prog_12_method_16_code
def yX10_pointHere : MethodName := ⟨RX10, "pointHere", "(LHeavyPairs$Network;)I"⟩
abbrev cX10_takePoint : ByteArray := prog_12_method_17_code
def yX10_takePoint : MethodName := ⟨RX10, "takePoint", "(LHeavyPairs$Network;)I"⟩
abbrev cX10_endsHere : ByteArray := prog_12_method_18_code
def yX10_endsHere : MethodName := ⟨RX10, "endsHere", "()Z"⟩
def RX11 : String := "HeavyPairs"
def TX11 : u_T := fun k => match k with
  | 0 => ("HeavyPairs", "tape", "LHeavyPairs$Tape;", true)
  | 1 => ("HeavyPairs", "net", "LHeavyPairs$Network;", true)
  | 2 => ("HeavyPairs", "trial", "LHeavyPairs$Network;", true)
  | 3 => ("HeavyPairs", "networkText", "LHeavyPairs$NetworkText;", true)
  | 4 => ("HeavyPairs", "search", "LHeavyPairs$Search;", true)
  | 5 => ("HeavyPairs", "path", "LHeavyPairs$Row;", true)
  | 6 => ("HeavyPairs", "blossom", "LHeavyPairs$Row;", true)
  | 7 => ("HeavyPairs", "heaviest", "LHeavyPairs$Heaviest;", true)
  | 8 => ("HeavyPairs", "bestPartners", "LHeavyPairs$Row;", true)
  | 9 => ("HeavyPairs", "history", "LHeavyPairs$History;", true)
  | 10 => ("HeavyPairs", "latestBook", "LHeavyPairs$Book;", true)
  | 11 => ("HeavyPairs", "saying", "LHeavyPairs$Saying;", true)
  | 12 => ("HeavyPairs", "newSaying", "LHeavyPairs$Saying;", true)
  | 13 => ("HeavyPairs", "pictures", "[LHeavyPairs$Picture;", true)
  | 14 => ("HeavyPairs", "draws", "LHeavyPairs$Draws;", true)
  | 15 => ("HeavyPairs", "label", "LHeavyPairs$Row;", true)
  | 16 => ("HeavyPairs", "flawAt", "I", false)
  | 17 => ("HeavyPairs", "flawBy", "I", false)
  | _ => ("HeavyPairs", "asked", "I", false)
def tyX11 : Nat → FieldType := fun k => match k with
  | 0 => .object "HeavyPairs$Tape"
  | 1 => .object "HeavyPairs$Network"
  | 2 => .object "HeavyPairs$Network"
  | 3 => .object "HeavyPairs$NetworkText"
  | 4 => .object "HeavyPairs$Search"
  | 5 => .object "HeavyPairs$Row"
  | 6 => .object "HeavyPairs$Row"
  | 7 => .object "HeavyPairs$Heaviest"
  | 8 => .object "HeavyPairs$Row"
  | 9 => .object "HeavyPairs$History"
  | 10 => .object "HeavyPairs$Book"
  | 11 => .object "HeavyPairs$Saying"
  | 12 => .object "HeavyPairs$Saying"
  | 13 => .array (.object "HeavyPairs$Picture")
  | 14 => .object "HeavyPairs$Draws"
  | 15 => .object "HeavyPairs$Row"
  | 16 => .int
  | 17 => .int
  | _ => .int
abbrev wsX110 : List Cond := u_ws RX11 TX11 19
theorem nmX11 : ∀ a, a < 19 → ∀ b, b < 19 → a ≠ b → (TX11 a).2.1 ≠ (TX11 b).2.1 := by decide +kernel
theorem tyX11_ok : ∀ k, k < 19 → parseFieldDescriptor (TX11 k).2.2.1 = some (tyX11 k) := by decide +kernel
abbrev cX11_init : ByteArray := prog_1_method_1_code
def yX11_init : MethodName := ⟨RX11, "<init>", "()V"⟩
abbrev cX11_feed : ByteArray := prog_1_method_2_code
def yX11_feed : MethodName := ⟨RX11, "feed", "(IIIII)I"⟩
abbrev cX11_end : ByteArray := prog_1_method_3_code
def yX11_end : MethodName := ⟨RX11, "end", "(I)Z"⟩
abbrev cX11_network : ByteArray := prog_1_method_4_code
def yX11_network : MethodName := ⟨RX11, "network", "()I"⟩
abbrev cX11_fault : ByteArray := prog_1_method_5_code
def yX11_fault : MethodName := ⟨RX11, "fault", "()I"⟩
abbrev cX11_point : ByteArray := prog_1_method_6_code
def yX11_point : MethodName := ⟨RX11, "point", "(II)I"⟩
abbrev cX11_link : ByteArray := prog_1_method_7_code
def yX11_link : MethodName := ⟨RX11, "link", "(II)I"⟩
abbrev cX11_slack : ByteArray := prog_1_method_8_code
def yX11_slack : MethodName := ⟨RX11, "slack", "(I)I"⟩
abbrev cX11_odd : ByteArray := prog_1_method_9_code
def yX11_odd : MethodName := ⟨RX11, "odd", "(II)I"⟩
abbrev cX11_now : ByteArray := prog_1_method_10_code
def yX11_now : MethodName := ⟨RX11, "now", "(I)I"⟩
abbrev cX11_pair : ByteArray := prog_1_method_11_code
def yX11_pair : MethodName := ⟨RX11, "pair", "(II)I"⟩
abbrev cX11_part : ByteArray := prog_1_method_12_code
def yX11_part : MethodName := ⟨RX11, "part", "(I)I"⟩
abbrev cX11_weigh : ByteArray := prog_1_method_13_code
def yX11_weigh : MethodName := ⟨RX11, "weigh", "(III)I"⟩
abbrev cX11_price : ByteArray := prog_1_method_14_code
def yX11_price : MethodName := ⟨RX11, "price", "(II)I"⟩
abbrev cX11_crown : ByteArray := prog_1_method_15_code
def yX11_crown : MethodName := ⟨RX11, "crown", "(II)I"⟩
abbrev cX11_open : ByteArray := prog_1_method_16_code
def yX11_open : MethodName := ⟨RX11, "open", "(I)I"⟩
abbrev cX11_grow : ByteArray := prog_1_method_17_code
def yX11_grow : MethodName := ⟨RX11, "grow", "(I)I"⟩
abbrev cX11_growAt : ByteArray := prog_1_method_18_code
def yX11_growAt : MethodName := ⟨RX11, "growAt", "(I)I"⟩
abbrev cX11_turn : ByteArray := prog_1_method_19_code
def yX11_turn : MethodName := ⟨RX11, "turn", "()I"⟩
abbrev cX11_flower : ByteArray := prog_1_method_20_code
def yX11_flower : MethodName := ⟨RX11, "flower", "(I)I"⟩
abbrev cX11_flowerAt : ByteArray := prog_1_method_21_code
def yX11_flowerAt : MethodName := ⟨RX11, "flowerAt", "(I)I"⟩
abbrev cX11_shrink : ByteArray := prog_1_method_22_code
def yX11_shrink : MethodName := ⟨RX11, "shrink", "()I"⟩
abbrev cX11_undo : ByteArray := prog_1_method_23_code
def yX11_undo : MethodName := ⟨RX11, "undo", "()I"⟩
abbrev cX11_proof : ByteArray := prog_1_method_24_code
def yX11_proof : MethodName := ⟨RX11, "proof", "()I"⟩
abbrev cX11_proofAt : ByteArray := prog_1_method_25_code
def yX11_proofAt : MethodName := ⟨RX11, "proofAt", "()I"⟩
abbrev cX11_proofBy : ByteArray := prog_1_method_26_code
def yX11_proofBy : MethodName := ⟨RX11, "proofBy", "()I"⟩
abbrev cX11_room : ByteArray := prog_1_method_27_code
def yX11_room : MethodName := ⟨RX11, "room", "(I)I"⟩
abbrev cX11_best : ByteArray := prog_1_method_28_code
def yX11_best : MethodName := ⟨RX11, "best", "()I"⟩
abbrev cX11_bestOf : ByteArray := prog_1_method_29_code
def yX11_bestOf : MethodName := ⟨RX11, "bestOf", "(I)I"⟩
abbrev cX11_next : ByteArray := prog_1_method_30_code
def yX11_next : MethodName := ⟨RX11, "next", "()I"⟩
abbrev cX11_heavy : ByteArray := prog_1_method_31_code
def yX11_heavy : MethodName := ⟨RX11, "heavy", "(I)I"⟩
abbrev cX11_ways : ByteArray := prog_1_method_32_code
def yX11_ways : MethodName := ⟨RX11, "ways", "(I)I"⟩
abbrev cX11_gain : ByteArray := prog_1_method_33_code
def yX11_gain : MethodName := ⟨RX11, "gain", "()I"⟩
abbrev cX11_who : ByteArray := prog_1_method_34_code
def yX11_who : MethodName := ⟨RX11, "who", "()I"⟩
abbrev cX11_ask : ByteArray := prog_1_method_35_code
def yX11_ask : MethodName := ⟨RX11, "ask", "()I"⟩
abbrev cX11_mean : ByteArray := prog_1_method_36_code
def yX11_mean : MethodName := ⟨RX11, "mean", "(I)I"⟩
abbrev cX11_tag : ByteArray := prog_1_method_37_code
def yX11_tag : MethodName := ⟨RX11, "tag", "(I)I"⟩
abbrev cX11_byteAt : ByteArray := prog_1_method_38_code
def yX11_byteAt : MethodName := ⟨RX11, "byteAt", "(I)I"⟩
abbrev cX11_drawn : ByteArray := prog_1_method_39_code
def yX11_drawn : MethodName := ⟨RX11, "drawn", "(II)I"⟩
abbrev cX11_odds : ByteArray := prog_1_method_40_code
def yX11_odds : MethodName := ⟨RX11, "odds", "(III)I"⟩
abbrev cX11_book : ByteArray := prog_1_method_41_code
def yX11_book : MethodName := ⟨RX11, "book", "(I)I"⟩
abbrev cX11_told : ByteArray := prog_1_method_42_code
def yX11_told : MethodName := ⟨RX11, "told", "(I)I"⟩
abbrev cX11_sentence : ByteArray := prog_1_method_43_code
def yX11_sentence : MethodName := ⟨RX11, "sentence", "()I"⟩
abbrev cX11_said : ByteArray := prog_1_method_44_code
def yX11_said : MethodName := ⟨RX11, "said", "(I)I"⟩
abbrev cX11_image : ByteArray := prog_1_method_45_code
def yX11_image : MethodName := ⟨RX11, "image", "(I)Z"⟩
abbrev cX11_restore : ByteArray := prog_1_method_46_code
def yX11_restore : MethodName := ⟨RX11, "restore", "(I)Z"⟩
abbrev cX11_count : ByteArray := prog_1_method_47_code
def yX11_count : MethodName := ⟨RX11, "count", "(I)I"⟩
abbrev cX11_pictureAt : ByteArray := prog_1_method_48_code
def yX11_pictureAt : MethodName := ⟨RX11, "pictureAt", "(I)LHeavyPairs$Picture;"⟩
abbrev cX11_areTwo : ByteArray := prog_1_method_49_code
def yX11_areTwo : MethodName := ⟨RX11, "areTwo", "(II)Z"⟩
abbrev cX11_isPrice : ByteArray := prog_1_method_50_code
def yX11_isPrice : MethodName := ⟨RX11, "isPrice", "(I)Z"⟩
abbrev cX11_keepIfDone : ByteArray := prog_1_method_51_code
def yX11_keepIfDone : MethodName := ⟨RX11, "keepIfDone", "(I)I"⟩
abbrev cX11_noteFlaw : ByteArray := prog_1_method_52_code
def yX11_noteFlaw : MethodName := ⟨RX11, "noteFlaw", "(III)I"⟩
abbrev cX11_isAsking : ByteArray := prog_1_method_53_code
def yX11_isAsking : MethodName := ⟨RX11, "isAsking", "()Z"⟩
abbrev cX11_commonDivisor : ByteArray := prog_1_method_54_code
def yX11_commonDivisor : MethodName := ⟨RX11, "commonDivisor", "(II)I"⟩
abbrev cX11_bitNumbered : ByteArray := prog_1_method_55_code
def yX11_bitNumbered : MethodName := ⟨RX11, "bitNumbered", "(II)I"⟩
def RX12 : String := "HeavyPairsModel"
def TX12 : u_T := fun k => match k with
  | 0 => ("HeavyPairsModel", "thrown", "I", false)
  | 1 => ("HeavyPairsModel", "tape", "[I", true)
  | 2 => ("HeavyPairsModel", "taped", "I", false)
  | 3 => ("HeavyPairsModel", "size", "I", false)
  | 4 => ("HeavyPairsModel", "limit", "I", false)
  | 5 => ("HeavyPairsModel", "to", "I", false)
  | 6 => ("HeavyPairsModel", "from", "I", false)
  | 7 => ("HeavyPairsModel", "kind", "I", false)
  | 8 => ("HeavyPairsModel", "number", "I", false)
  | 9 => ("HeavyPairsModel", "sign", "I", false)
  | 10 => ("HeavyPairsModel", "fault", "I", false)
  | 11 => ("HeavyPairsModel", "place", "I", false)
  | 12 => ("HeavyPairsModel", "word", "J", false)
  | 13 => ("HeavyPairsModel", "told", "I", false)
  | 14 => ("HeavyPairsModel", "now", "[I", true)
  | 15 => ("HeavyPairsModel", "read", "[I", true)
  | 16 => ("HeavyPairsModel", "kept", "[I", true)
  | 17 => ("HeavyPairsModel", "snaps", "[I", true)
  | 18 => ("HeavyPairsModel", "aside", "[I", true)
  | 19 => ("HeavyPairsModel", "then", "[I", true)
  | 20 => ("HeavyPairsModel", "name", "[J", true)
  | 21 => ("HeavyPairsModel", "readName", "[J", true)
  | 22 => ("HeavyPairsModel", "keptName", "[J", true)
  | 23 => ("HeavyPairsModel", "isKept", "[Z", true)
  | 24 => ("HeavyPairsModel", "isPriced", "[Z", true)
  | 25 => ("HeavyPairsModel", "snapMany", "I", false)
  | 26 => ("HeavyPairsModel", "way", "[I", true)
  | 27 => ("HeavyPairsModel", "grown", "[I", true)
  | 28 => ("HeavyPairsModel", "flowered", "[I", true)
  | 29 => ("HeavyPairsModel", "grownMany", "I", false)
  | 30 => ("HeavyPairsModel", "floweredMany", "I", false)
  | 31 => ("HeavyPairsModel", "proven", "I", false)
  | 32 => ("HeavyPairsModel", "provenAt", "I", false)
  | 33 => ("HeavyPairsModel", "provenBy", "I", false)
  | 34 => ("HeavyPairsModel", "mate", "[I", true)
  | 35 => ("HeavyPairsModel", "bestMate", "[I", true)
  | 36 => ("HeavyPairsModel", "toldMate", "[I", true)
  | 37 => ("HeavyPairsModel", "heavyBy", "[I", true)
  | 38 => ("HeavyPairsModel", "waysBy", "[I", true)
  | 39 => ("HeavyPairsModel", "mostOf", "[I", true)
  | 40 => ("HeavyPairsModel", "partnerOf", "[I", true)
  | 41 => ("HeavyPairsModel", "most", "I", false)
  | 42 => ("HeavyPairsModel", "nextMost", "I", false)
  | 43 => ("HeavyPairsModel", "mostWays", "I", false)
  | 44 => ("HeavyPairsModel", "askedWays", "I", false)
  | 45 => ("HeavyPairsModel", "toldMany", "I", false)
  | 46 => ("HeavyPairsModel", "isSecond", "Z", false)
  | 47 => ("HeavyPairsModel", "askMany", "I", false)
  | 48 => ("HeavyPairsModel", "asked", "I", false)
  | 49 => ("HeavyPairsModel", "gained", "I", false)
  | 50 => ("HeavyPairsModel", "text", "[I", true)
  | 51 => ("HeavyPairsModel", "texts", "I", false)
  | 52 => ("HeavyPairsModel", "seed", "I", false)
  | 53 => ("HeavyPairsModel", "line", "[I", true)
  | 54 => ("HeavyPairsModel", "written", "[I", true)
  | 55 => ("HeavyPairsModel", "lineMany", "I", false)
  | 56 => ("HeavyPairsModel", "hasWritten", "Z", false)
  | 57 => ("HeavyPairsModel", "node", "[I", true)
  | 58 => ("HeavyPairsModel", "nodes", "I", false)
  | 59 => ("HeavyPairsModel", "onesMany", "I", false)
  | 60 => ("HeavyPairsModel", "within", "I", false)
  | _ => ("HeavyPairsModel", "top", "I", false)
def tyX12 : Nat → FieldType := fun k => match k with
  | 0 => .int
  | 1 => .array .int
  | 2 => .int
  | 3 => .int
  | 4 => .int
  | 5 => .int
  | 6 => .int
  | 7 => .int
  | 8 => .int
  | 9 => .int
  | 10 => .int
  | 11 => .int
  | 12 => .long
  | 13 => .int
  | 14 => .array .int
  | 15 => .array .int
  | 16 => .array .int
  | 17 => .array .int
  | 18 => .array .int
  | 19 => .array .int
  | 20 => .array .long
  | 21 => .array .long
  | 22 => .array .long
  | 23 => .array .boolean
  | 24 => .array .boolean
  | 25 => .int
  | 26 => .array .int
  | 27 => .array .int
  | 28 => .array .int
  | 29 => .int
  | 30 => .int
  | 31 => .int
  | 32 => .int
  | 33 => .int
  | 34 => .array .int
  | 35 => .array .int
  | 36 => .array .int
  | 37 => .array .int
  | 38 => .array .int
  | 39 => .array .int
  | 40 => .array .int
  | 41 => .int
  | 42 => .int
  | 43 => .int
  | 44 => .int
  | 45 => .int
  | 46 => .boolean
  | 47 => .int
  | 48 => .int
  | 49 => .int
  | 50 => .array .int
  | 51 => .int
  | 52 => .int
  | 53 => .array .int
  | 54 => .array .int
  | 55 => .int
  | 56 => .boolean
  | 57 => .array .int
  | 58 => .int
  | 59 => .int
  | 60 => .int
  | _ => .int
abbrev wsX120 : List Cond := u_ws RX12 TX12 62
theorem nmX12 : ∀ a, a < 62 → ∀ b, b < 62 → a ≠ b → (TX12 a).2.1 ≠ (TX12 b).2.1 := by decide +kernel
theorem tyX12_ok : ∀ k, k < 62 → parseFieldDescriptor (TX12 k).2.2.1 = some (tyX12 k) := by decide +kernel
abbrev cX12_thrown : ByteArray := prog_14_method_1_code
def yX12_thrown : MethodName := ⟨RX12, "thrown", "()I"⟩
abbrev cX12_refuse : ByteArray := prog_14_method_2_code
def yX12_refuse : MethodName := ⟨RX12, "refuse", "()I"⟩
abbrev cX12_come : ByteArray := prog_14_method_3_code
def yX12_come : MethodName := ⟨RX12, "come", "(I)V"⟩
abbrev cX12_feed : ByteArray := prog_14_method_4_code
def yX12_feed : MethodName := ⟨RX12, "feed", "(IIIII)I"⟩
abbrev cX12_end : ByteArray := prog_14_method_5_code
def yX12_end : MethodName := ⟨RX12, "end", "(I)Z"⟩
abbrev cX12_take : ByteArray := prog_14_method_6_code
def yX12_take : MethodName := ⟨RX12, "take", "()I"⟩
abbrev cX12_isIn : ByteArray := prog_14_method_7_code
def yX12_isIn : MethodName := ⟨RX12, "isIn", "(III)Z"⟩
abbrev cX12_has : ByteArray := prog_14_method_8_code
def yX12_has : MethodName := ⟨RX12, "has", "(II)Z"⟩
abbrev cX12_bits : ByteArray := prog_14_method_9_code
def yX12_bits : MethodName := ⟨RX12, "bits", "(I)I"⟩
abbrev cX12_common : ByteArray := prog_14_method_12_code
def yX12_common : MethodName := ⟨RX12, "common", "(II)I"⟩
abbrev cX12_tapeAt : ByteArray := prog_14_method_13_code
def yX12_tapeAt : MethodName := ⟨RX12, "tapeAt", "(I)I"⟩
abbrev cX12_isDigit : ByteArray := prog_14_method_14_code
def yX12_isDigit : MethodName := ⟨RX12, "isDigit", "(I)Z"⟩
abbrev cX12_isLetter : ByteArray := prog_14_method_15_code
def yX12_isLetter : MethodName := ⟨RX12, "isLetter", "(I)Z"⟩
abbrev cX12_go : ByteArray := prog_14_method_16_code
def yX12_go : MethodName := ⟨RX12, "go", "()V"⟩
abbrev cX12_spelt : ByteArray := prog_14_method_17_code
def yX12_spelt : MethodName := ⟨RX12, "spelt", "(IIIIII)J"⟩
abbrev cX12_wordOf : ByteArray := prog_14_method_18_code
def yX12_wordOf : MethodName := ⟨RX12, "wordOf", "(I)J"⟩
abbrev cX12_isWord : ByteArray := prog_14_method_19_code
def yX12_isWord : MethodName := ⟨RX12, "isWord", "(I)Z"⟩
abbrev cX12_isSign : ByteArray := prog_14_method_20_code
def yX12_isSign : MethodName := ⟨RX12, "isSign", "(I)Z"⟩
abbrev cX12_isName : ByteArray := prog_14_method_21_code
def yX12_isName : MethodName := ⟨RX12, "isName", "()Z"⟩
abbrev cX12_bad : ByteArray := prog_14_method_22_code
def yX12_bad : MethodName := ⟨RX12, "bad", "(I)Z"⟩
abbrev cX12_readNumber : ByteArray := prog_14_method_23_code
def yX12_readNumber : MethodName := ⟨RX12, "readNumber", "(II)Z"⟩
abbrev cX12_readEnd : ByteArray := prog_14_method_24_code
def yX12_readEnd : MethodName := ⟨RX12, "readEnd", "()Z"⟩
abbrev cX12_begin : ByteArray := prog_14_method_25_code
def yX12_begin : MethodName := ⟨RX12, "begin", "(I)V"⟩
abbrev cX12_init : ByteArray := prog_14_method_26_code
def yX12_init : MethodName := ⟨RX12, "<init>", "()V"⟩
abbrev cX12_startSo : ByteArray := prog_14_method_27_code
def yX12_startSo : MethodName := ⟨RX12, "startSo", "()V"⟩
abbrev cX12_findIn : ByteArray := prog_14_method_28_code
def yX12_findIn : MethodName := ⟨RX12, "findIn", "([JIIJ)I"⟩
abbrev cX12_readFirst : ByteArray := prog_14_method_29_code
def yX12_readFirst : MethodName := ⟨RX12, "readFirst", "(II)Z"⟩
abbrev cX12_noted : ByteArray := prog_14_method_30_code
def yX12_noted : MethodName := ⟨RX12, "noted", "(IZ)Z"⟩
abbrev cX12_readPoint : ByteArray := prog_14_method_31_code
def yX12_readPoint : MethodName := ⟨RX12, "readPoint", "()Z"⟩
abbrev cX12_isHere : ByteArray := prog_14_method_32_code
def yX12_isHere : MethodName := ⟨RX12, "isHere", "()Z"⟩
abbrev cX12_linkIn : ByteArray := prog_14_method_33_code
def yX12_linkIn : MethodName := ⟨RX12, "linkIn", "([III)I"⟩
abbrev cX12_readLink : ByteArray := prog_14_method_34_code
def yX12_readLink : MethodName := ⟨RX12, "readLink", "()Z"⟩
abbrev cX12_readPair : ByteArray := prog_14_method_35_code
def yX12_readPair : MethodName := ⟨RX12, "readPair", "()Z"⟩
abbrev cX12_readPrice : ByteArray := prog_14_method_36_code
def yX12_readPrice : MethodName := ⟨RX12, "readPrice", "()Z"⟩
abbrev cX12_isOddIn : ByteArray := prog_14_method_37_code
def yX12_isOddIn : MethodName := ⟨RX12, "isOddIn", "([IIII)Z"⟩
abbrev cX12_readOdd : ByteArray := prog_14_method_38_code
def yX12_readOdd : MethodName := ⟨RX12, "readOdd", "()Z"⟩
abbrev cX12_readLine : ByteArray := prog_14_method_39_code
def yX12_readLine : MethodName := ⟨RX12, "readLine", "()Z"⟩
abbrev cX12_network : ByteArray := prog_14_method_40_code
def yX12_network : MethodName := ⟨RX12, "network", "()I"⟩
abbrev cX12_fault : ByteArray := prog_14_method_41_code
def yX12_fault : MethodName := ⟨RX12, "fault", "()I"⟩
abbrev cX12_isPoint : ByteArray := prog_14_method_42_code
def yX12_isPoint : MethodName := ⟨RX12, "isPoint", "(I)Z"⟩
abbrev cX12_areTwo : ByteArray := prog_14_method_43_code
def yX12_areTwo : MethodName := ⟨RX12, "areTwo", "(II)Z"⟩
abbrev cX12_isLink : ByteArray := prog_14_method_44_code
def yX12_isLink : MethodName := ⟨RX12, "isLink", "(I)Z"⟩
abbrev cX12_isOdd : ByteArray := prog_14_method_45_code
def yX12_isOdd : MethodName := ⟨RX12, "isOdd", "(I)Z"⟩
abbrev cX12_between : ByteArray := prog_14_method_46_code
def yX12_between : MethodName := ⟨RX12, "between", "(II)I"⟩
abbrev cX12_areLinked : ByteArray := prog_14_method_47_code
def yX12_areLinked : MethodName := ⟨RX12, "areLinked", "(II)Z"⟩
abbrev cX12_isLone : ByteArray := prog_14_method_48_code
def yX12_isLone : MethodName := ⟨RX12, "isLone", "(I)Z"⟩
abbrev cX12_arePaired : ByteArray := prog_14_method_49_code
def yX12_arePaired : MethodName := ⟨RX12, "arePaired", "(II)Z"⟩
abbrev cX12_isOfPair : ByteArray := prog_14_method_50_code
def yX12_isOfPair : MethodName := ⟨RX12, "isOfPair", "(I)Z"⟩
abbrev cX12_isAt : ByteArray := prog_14_method_51_code
def yX12_isAt : MethodName := ⟨RX12, "isAt", "(II)Z"⟩
abbrev cX12_slackOf : ByteArray := prog_14_method_52_code
def yX12_slackOf : MethodName := ⟨RX12, "slackOf", "(I)I"⟩
abbrev cX12_pairsIn : ByteArray := prog_14_method_53_code
def yX12_pairsIn : MethodName := ⟨RX12, "pairsIn", "(I)I"⟩
abbrev cX12_pairMany : ByteArray := prog_14_method_54_code
def yX12_pairMany : MethodName := ⟨RX12, "pairMany", "()I"⟩
abbrev cX12_totalNow : ByteArray := prog_14_method_55_code
def yX12_totalNow : MethodName := ⟨RX12, "totalNow", "()I"⟩
abbrev cX12_boundNow : ByteArray := prog_14_method_56_code
def yX12_boundNow : MethodName := ⟨RX12, "boundNow", "()I"⟩
abbrev cX12_partners : ByteArray := prog_14_method_57_code
def yX12_partners : MethodName := ⟨RX12, "partners", "(IZ)I"⟩
abbrev cX12_point : ByteArray := prog_14_method_58_code
def yX12_point : MethodName := ⟨RX12, "point", "(II)I"⟩
abbrev cX12_link : ByteArray := prog_14_method_59_code
def yX12_link : MethodName := ⟨RX12, "link", "(II)I"⟩
abbrev cX12_slack : ByteArray := prog_14_method_60_code
def yX12_slack : MethodName := ⟨RX12, "slack", "(I)I"⟩
abbrev cX12_odd : ByteArray := prog_14_method_61_code
def yX12_odd : MethodName := ⟨RX12, "odd", "(II)I"⟩
abbrev cX12_now : ByteArray := prog_14_method_62_code
def yX12_now : MethodName := ⟨RX12, "now", "(I)I"⟩
abbrev cX12_goesOn : ByteArray := prog_14_method_63_code
def yX12_goesOn : MethodName := ⟨RX12, "goesOn", "(III)Z"⟩
abbrev cX12_layPath : ByteArray := prog_14_method_64_code
def yX12_layPath : MethodName := ⟨RX12, "layPath", "(I)I"⟩
abbrev cX12_isPath : ByteArray := prog_14_method_65_code
def yX12_isPath : MethodName := ⟨RX12, "isPath", "([II)Z"⟩
abbrev cX12_turnPath : ByteArray := prog_14_method_66_code
def yX12_turnPath : MethodName := ⟨RX12, "turnPath", "([II)V"⟩
abbrev cX12_flowers : ByteArray := prog_14_method_67_code
def yX12_flowers : MethodName := ⟨RX12, "flowers", "(III)Z"⟩
abbrev cX12_isFlower : ByteArray := prog_14_method_68_code
def yX12_isFlower : MethodName := ⟨RX12, "isFlower", "()Z"⟩
abbrev cX12_grow : ByteArray := prog_14_method_69_code
def yX12_grow : MethodName := ⟨RX12, "grow", "(I)I"⟩
abbrev cX12_growAt : ByteArray := prog_14_method_70_code
def yX12_growAt : MethodName := ⟨RX12, "growAt", "(I)I"⟩
abbrev cX12_flower : ByteArray := prog_14_method_71_code
def yX12_flower : MethodName := ⟨RX12, "flower", "(I)I"⟩
abbrev cX12_flowerAt : ByteArray := prog_14_method_72_code
def yX12_flowerAt : MethodName := ⟨RX12, "flowerAt", "(I)I"⟩
abbrev cX12_save : ByteArray := prog_14_method_73_code
def yX12_save : MethodName := ⟨RX12, "save", "([II)V"⟩
abbrev cX12_comeBack : ByteArray := prog_14_method_74_code
def yX12_comeBack : MethodName := ⟨RX12, "comeBack", "([II)V"⟩
abbrev cX12_snap : ByteArray := prog_14_method_75_code
def yX12_snap : MethodName := ⟨RX12, "snap", "()V"⟩
abbrev cX12_refusal : ByteArray := prog_14_method_76_code
def yX12_refusal : MethodName := ⟨RX12, "refusal", "(IIII)I"⟩
abbrev cX12_live : ByteArray := prog_14_method_77_code
def yX12_live : MethodName := ⟨RX12, "live", "(IIII)V"⟩
abbrev cX12_openOdd : ByteArray := prog_14_method_78_code
def yX12_openOdd : MethodName := ⟨RX12, "openOdd", "(I)V"⟩
abbrev cX12_act : ByteArray := prog_14_method_79_code
def yX12_act : MethodName := ⟨RX12, "act", "(IIIIZ)I"⟩
abbrev cX12_pair : ByteArray := prog_14_method_80_code
def yX12_pair : MethodName := ⟨RX12, "pair", "(II)I"⟩
abbrev cX12_part : ByteArray := prog_14_method_81_code
def yX12_part : MethodName := ⟨RX12, "part", "(I)I"⟩
abbrev cX12_weigh : ByteArray := prog_14_method_82_code
def yX12_weigh : MethodName := ⟨RX12, "weigh", "(III)I"⟩
abbrev cX12_price : ByteArray := prog_14_method_83_code
def yX12_price : MethodName := ⟨RX12, "price", "(II)I"⟩
abbrev cX12_crown : ByteArray := prog_14_method_84_code
def yX12_crown : MethodName := ⟨RX12, "crown", "(II)I"⟩
abbrev cX12_open : ByteArray := prog_14_method_85_code
def yX12_open : MethodName := ⟨RX12, "open", "(I)I"⟩
abbrev cX12_turn : ByteArray := prog_14_method_86_code
def yX12_turn : MethodName := ⟨RX12, "turn", "()I"⟩
abbrev cX12_shrink : ByteArray := prog_14_method_87_code
def yX12_shrink : MethodName := ⟨RX12, "shrink", "()I"⟩
abbrev cX12_undo : ByteArray := prog_14_method_88_code
def yX12_undo : MethodName := ⟨RX12, "undo", "()I"⟩
abbrev cX12_breaks : ByteArray := prog_14_method_89_code
def yX12_breaks : MethodName := ⟨RX12, "breaks", "(I)I"⟩
abbrev cX12_proof : ByteArray := prog_14_method_90_code
def yX12_proof : MethodName := ⟨RX12, "proof", "()I"⟩
abbrev cX12_proofAt : ByteArray := prog_14_method_91_code
def yX12_proofAt : MethodName := ⟨RX12, "proofAt", "()I"⟩
abbrev cX12_proofBy : ByteArray := prog_14_method_92_code
def yX12_proofBy : MethodName := ⟨RX12, "proofBy", "()I"⟩
abbrev cX12_room : ByteArray := prog_14_method_93_code
def yX12_room : MethodName := ⟨RX12, "room", "(I)I"⟩
abbrev cX12_leaf : ByteArray := prog_14_method_94_code
def yX12_leaf : MethodName := ⟨RX12, "leaf", "(II)V"⟩
abbrev cX12_walk : ByteArray := prog_14_method_95_code
def yX12_walk : MethodName := ⟨RX12, "walk", "(III)V"⟩
abbrev cX12_survey : ByteArray := prog_14_method_96_code
def yX12_survey : MethodName := ⟨RX12, "survey", "()V"⟩
abbrev cX12_isAsked : ByteArray := prog_14_method_97_code
def yX12_isAsked : MethodName := ⟨RX12, "isAsked", "()Z"⟩
abbrev cX12_surveyMost : ByteArray := prog_14_method_98_code
def yX12_surveyMost : MethodName := ⟨RX12, "surveyMost", "()V"⟩
abbrev cX12_fateOf : ByteArray := prog_14_method_99_code
def yX12_fateOf : MethodName := ⟨RX12, "fateOf", "(I)I"⟩
abbrev cX12_best : ByteArray := prog_14_method_100_code
def yX12_best : MethodName := ⟨RX12, "best", "()I"⟩
abbrev cX12_bestOf : ByteArray := prog_14_method_101_code
def yX12_bestOf : MethodName := ⟨RX12, "bestOf", "(I)I"⟩
abbrev cX12_next : ByteArray := prog_14_method_102_code
def yX12_next : MethodName := ⟨RX12, "next", "()I"⟩
abbrev cX12_heavy : ByteArray := prog_14_method_103_code
def yX12_heavy : MethodName := ⟨RX12, "heavy", "(I)I"⟩
abbrev cX12_ways : ByteArray := prog_14_method_104_code
def yX12_ways : MethodName := ⟨RX12, "ways", "(I)I"⟩
abbrev cX12_who : ByteArray := prog_14_method_105_code
def yX12_who : MethodName := ⟨RX12, "who", "()I"⟩
abbrev cX12_ask : ByteArray := prog_14_method_106_code
def yX12_ask : MethodName := ⟨RX12, "ask", "()I"⟩
abbrev cX12_stroke : ByteArray := prog_14_method_107_code
def yX12_stroke : MethodName := ⟨RX12, "stroke", "(IIIZZII)V"⟩
abbrev cX12_gain : ByteArray := prog_14_method_108_code
def yX12_gain : MethodName := ⟨RX12, "gain", "()I"⟩
abbrev cX12_fraction : ByteArray := prog_14_method_109_code
def yX12_fraction : MethodName := ⟨RX12, "fraction", "(III)I"⟩
abbrev cX12_mean : ByteArray := prog_14_method_110_code
def yX12_mean : MethodName := ⟨RX12, "mean", "(I)I"⟩
abbrev cX12_write : ByteArray := prog_14_method_111_code
def yX12_write : MethodName := ⟨RX12, "write", "(I)V"⟩
abbrev cX12_writeWord : ByteArray := prog_14_method_112_code
def yX12_writeWord : MethodName := ⟨RX12, "writeWord", "(J)V"⟩
abbrev cX12_writeNext : ByteArray := prog_14_method_113_code
def yX12_writeNext : MethodName := ⟨RX12, "writeNext", "(J)V"⟩
abbrev cX12_writeNumber : ByteArray := prog_14_method_114_code
def yX12_writeNumber : MethodName := ⟨RX12, "writeNumber", "(I)V"⟩
abbrev cX12_tag : ByteArray := prog_14_method_115_code
def yX12_tag : MethodName := ⟨RX12, "tag", "(I)I"⟩
abbrev cX12_byteAt : ByteArray := prog_14_method_116_code
def yX12_byteAt : MethodName := ⟨RX12, "byteAt", "(I)I"⟩
abbrev cX12_draw : ByteArray := prog_14_method_117_code
def yX12_draw : MethodName := ⟨RX12, "draw", "(I)I"⟩
abbrev cX12_drawPoint : ByteArray := prog_14_method_118_code
def yX12_drawPoint : MethodName := ⟨RX12, "drawPoint", "()I"⟩
abbrev cX12_doIf : ByteArray := prog_14_method_119_code
def yX12_doIf : MethodName := ⟨RX12, "doIf", "(IIII)Z"⟩
abbrev cX12_drawsDeed : ByteArray := prog_14_method_120_code
def yX12_drawsDeed : MethodName := ⟨RX12, "drawsDeed", "()Z"⟩
abbrev cX12_drawDeeds : ByteArray := prog_14_method_121_code
def yX12_drawDeeds : MethodName := ⟨RX12, "drawDeeds", "(II)I"⟩
abbrev cX12_drawn : ByteArray := prog_14_method_122_code
def yX12_drawn : MethodName := ⟨RX12, "drawn", "(II)I"⟩
abbrev cX12_odds : ByteArray := prog_14_method_123_code
def yX12_odds : MethodName := ⟨RX12, "odds", "(III)I"⟩
abbrev cX12_keep : ByteArray := prog_14_method_124_code
def yX12_keep : MethodName := ⟨RX12, "keep", "(IZ)Z"⟩
abbrev cX12_readPointName : ByteArray := prog_14_method_125_code
def yX12_readPointName : MethodName := ⟨RX12, "readPointName", "()Z"⟩
abbrev cX12_readOther : ByteArray := prog_14_method_126_code
def yX12_readOther : MethodName := ⟨RX12, "readOther", "(I)Z"⟩
abbrev cX12_readBookLine : ByteArray := prog_14_method_127_code
def yX12_readBookLine : MethodName := ⟨RX12, "readBookLine", "()Z"⟩
abbrev cX12_goBy : ByteArray := prog_14_method_128_code
def yX12_goBy : MethodName := ⟨RX12, "goBy", "(I)I"⟩
abbrev cX12_book : ByteArray := prog_14_method_129_code
def yX12_book : MethodName := ⟨RX12, "book", "(I)I"⟩
abbrev cX12_stay : ByteArray := prog_14_method_130_code
def yX12_stay : MethodName := ⟨RX12, "stay", "(Z)V"⟩
abbrev cX12_told : ByteArray := prog_14_method_131_code
def yX12_told : MethodName := ⟨RX12, "told", "(I)I"⟩
abbrev cX12_readThat : ByteArray := prog_14_method_132_code
def yX12_readThat : MethodName := ⟨RX12, "readThat", "(I)Z"⟩
abbrev cX12_weightOf : ByteArray := prog_14_method_133_code
def yX12_weightOf : MethodName := ⟨RX12, "weightOf", "(I)I"⟩
abbrev cX12_saysOne : ByteArray := prog_14_method_134_code
def yX12_saysOne : MethodName := ⟨RX12, "saysOne", "(IIII)I"⟩
abbrev cX12_readOr : ByteArray := prog_14_method_135_code
def yX12_readOr : MethodName := ⟨RX12, "readOr", "()Z"⟩
abbrev cX12_readAnd : ByteArray := prog_14_method_136_code
def yX12_readAnd : MethodName := ⟨RX12, "readAnd", "()Z"⟩
abbrev cX12_readSaid : ByteArray := prog_14_method_137_code
def yX12_readSaid : MethodName := ⟨RX12, "readSaid", "()Z"⟩
abbrev cX12_readNot : ByteArray := prog_14_method_138_code
def yX12_readNot : MethodName := ⟨RX12, "readNot", "()Z"⟩
abbrev cX12_readBracket : ByteArray := prog_14_method_139_code
def yX12_readBracket : MethodName := ⟨RX12, "readBracket", "()Z"⟩
abbrev cX12_readOf : ByteArray := prog_14_method_140_code
def yX12_readOf : MethodName := ⟨RX12, "readOf", "(I)Z"⟩
abbrev cX12_readCompare : ByteArray := prog_14_method_141_code
def yX12_readCompare : MethodName := ⟨RX12, "readCompare", "(I)Z"⟩
abbrev cX12_sentence : ByteArray := prog_14_method_142_code
def yX12_sentence : MethodName := ⟨RX12, "sentence", "()I"⟩
abbrev cX12_holds : ByteArray := prog_14_method_143_code
def yX12_holds : MethodName := ⟨RX12, "holds", "(II)Z"⟩
abbrev cX12_said : ByteArray := prog_14_method_144_code
def yX12_said : MethodName := ⟨RX12, "said", "(I)I"⟩
abbrev cX12_image : ByteArray := prog_14_method_145_code
def yX12_image : MethodName := ⟨RX12, "image", "(I)Z"⟩
abbrev cX12_restore : ByteArray := prog_14_method_146_code
def yX12_restore : MethodName := ⟨RX12, "restore", "(I)Z"⟩
abbrev cX12_count : ByteArray := prog_14_method_147_code
def yX12_count : MethodName := ⟨RX12, "count", "(I)I"⟩
def RJ6 : String := "java/lang/Integer"
def TJ6 : u_T := fun k => match k with
  | _ => ("", "", "", false)
def tyJ6 : Nat → FieldType := fun k => match k with
  | _ => .int
abbrev wsJ60 : List Cond := u_ws RJ6 TJ6 0
theorem nmJ6 : ∀ a, a < 0 → ∀ b, b < 0 → a ≠ b → (TJ6 a).2.1 ≠ (TJ6 b).2.1 := by decide +kernel
theorem tyJ6_ok : ∀ k, k < 0 → parseFieldDescriptor (TJ6 k).2.2.1 = some (tyJ6 k) := by decide +kernel
abbrev cJ6_bitCount_0f7a4 : ByteArray := prog_19_method_49_code
def yJ6_bitCount_0f7a4 : MethodName := ⟨RJ6, "bitCount", "(I)I"⟩
def RJ9 : String := "java/lang/Math"
def TJ9 : u_T := fun k => match k with
  | _ => ("", "", "", false)
def tyJ9 : Nat → FieldType := fun k => match k with
  | _ => .int
abbrev wsJ90 : List Cond := u_ws RJ9 TJ9 0
theorem nmJ9 : ∀ a, a < 0 → ∀ b, b < 0 → a ≠ b → (TJ9 a).2.1 ≠ (TJ9 b).2.1 := by decide +kernel
theorem tyJ9_ok : ∀ k, k < 0 → parseFieldDescriptor (TJ9 k).2.2.1 = some (tyJ9 k) := by decide +kernel
abbrev cJ9_floorMod_7cf53 : ByteArray := prog_20_method_50_code
def yJ9_floorMod_7cf53 : MethodName := ⟨RJ9, "floorMod", "(II)I"⟩
abbrev cJ9_max_7cf53 : ByteArray := prog_20_method_65_code
def yJ9_max_7cf53 : MethodName := ⟨RJ9, "max", "(II)I"⟩
abbrev cJ9_min_7cf53 : ByteArray := prog_20_method_69_code
def yJ9_min_7cf53 : MethodName := ⟨RJ9, "min", "(II)I"⟩
def RJ0 : String := "java/lang/String"
def TJ0 : u_T := fun k => match k with
  | _ => ("", "", "", false)
def tyJ0 : Nat → FieldType := fun k => match k with
  | _ => .int
abbrev wsJ00 : List Cond := u_ws RJ0 TJ0 0
theorem nmJ0 : ∀ a, a < 0 → ∀ b, b < 0 → a ≠ b → (TJ0 a).2.1 ≠ (TJ0 b).2.1 := by decide +kernel
theorem tyJ0_ok : ∀ k, k < 0 → parseFieldDescriptor (TJ0 k).2.2.1 = some (tyJ0 k) := by decide +kernel
abbrev cJ0_length_8abf5 : ByteArray := prog_22_method_54_code
def yJ0_length_8abf5 : MethodName := ⟨RJ0, "length", "()I"⟩
abbrev cJ0_charAt_5068e : ByteArray := prog_22_method_56_code
def yJ0_charAt_5068e : MethodName := ⟨RJ0, "charAt", "(I)C"⟩
abbrev cJ0_coder_7d493 : ByteArray := prog_22_method_152_code
def yJ0_coder_7d493 : MethodName := ⟨RJ0, "coder", "()B"⟩
abbrev cJ0_isLatin1_aae02 : ByteArray := prog_22_method_154_code
def yJ0_isLatin1_aae02 : MethodName := ⟨RJ0, "isLatin1", "()Z"⟩
abbrev cJ0_checkIndex_df160 : ByteArray := prog_22_method_155_code
def yJ0_checkIndex_df160 : MethodName := ⟨RJ0, "checkIndex", "(II)V"⟩
def RJ1 : String := "java/lang/StringLatin1"
def TJ1 : u_T := fun k => match k with
  | _ => ("", "", "", false)
def tyJ1 : Nat → FieldType := fun k => match k with
  | _ => .int
abbrev wsJ10 : List Cond := u_ws RJ1 TJ1 0
theorem nmJ1 : ∀ a, a < 0 → ∀ b, b < 0 → a ≠ b → (TJ1 a).2.1 ≠ (TJ1 b).2.1 := by decide +kernel
theorem tyJ1_ok : ∀ k, k < 0 → parseFieldDescriptor (TJ1 k).2.2.1 = some (tyJ1 k) := by decide +kernel
abbrev cJ1_charAt_3b067 : ByteArray := prog_23_method_2_code
def yJ1_charAt_3b067 : MethodName := ⟨RJ1, "charAt", "([BI)C"⟩
def RJ2 : String := "java/lang/StringUTF16"
def TJ2 : u_T := fun k => match k with
  | _ => ("", "", "", false)
def tyJ2 : Nat → FieldType := fun k => match k with
  | _ => .int
abbrev wsJ20 : List Cond := u_ws RJ2 TJ2 0
theorem nmJ2 : ∀ a, a < 0 → ∀ b, b < 0 → a ≠ b → (TJ2 a).2.1 ≠ (TJ2 b).2.1 := by decide +kernel
theorem tyJ2_ok : ∀ k, k < 0 → parseFieldDescriptor (TJ2 k).2.2.1 = some (tyJ2 k) := by decide +kernel
abbrev cJ2_getChar_3b067 : ByteArray := prog_24_method_5_code
def yJ2_getChar_3b067 : MethodName := ⟨RJ2, "getChar", "([BI)C"⟩
abbrev cJ2_length_9d52b : ByteArray := prog_24_method_6_code
def yJ2_length_9d52b : MethodName := ⟨RJ2, "length", "([B)I"⟩
abbrev cJ2_charAt_3b067 : ByteArray := prog_24_method_83_code
def yJ2_charAt_3b067 : MethodName := ⟨RJ2, "charAt", "([BI)C"⟩
abbrev cJ2_checkIndex_2214a : ByteArray := prog_24_method_91_code
def yJ2_checkIndex_2214a : MethodName := ⟨RJ2, "checkIndex", "(I[B)V"⟩
def RJ10 : String := "java/lang/System"
def TJ10 : u_T := fun k => match k with
  | _ => ("", "", "", false)
def tyJ10 : Nat → FieldType := fun k => match k with
  | _ => .int
abbrev wsJ100 : List Cond := u_ws RJ10 TJ10 0
theorem nmJ10 : ∀ a, a < 0 → ∀ b, b < 0 → a ≠ b → (TJ10 a).2.1 ≠ (TJ10 b).2.1 := by decide +kernel
theorem tyJ10_ok : ∀ k, k < 0 → parseFieldDescriptor (TJ10 k).2.2.1 = some (tyJ10 k) := by decide +kernel
def RJ3 : String := "jdk/internal/util/Preconditions"
def TJ3 : u_T := fun k => match k with
  | _ => ("", "", "", false)
def tyJ3 : Nat → FieldType := fun k => match k with
  | _ => .int
abbrev wsJ30 : List Cond := u_ws RJ3 TJ3 0
theorem nmJ3 : ∀ a, a < 0 → ∀ b, b < 0 → a ≠ b → (TJ3 a).2.1 ≠ (TJ3 b).2.1 := by decide +kernel
theorem tyJ3_ok : ∀ k, k < 0 → parseFieldDescriptor (TJ3 k).2.2.1 = some (tyJ3 k) := by decide +kernel
abbrev cJ3_checkIndex_8e157 : ByteArray := prog_30_method_11_code
def yJ3_checkIndex_8e157 : MethodName := ⟨RJ3, "checkIndex", "(IILjava/util/function/BiFunction;)I"⟩
def RL : String := "HeavyPairsLaw"
abbrev cL_point : ByteArray := method_3_code
def yL_point : MethodName := ⟨RL, "point", "(LHeavyPairs;II[J)I"⟩
abbrev cL_slack : ByteArray := method_4_code
def yL_slack : MethodName := ⟨RL, "slack", "(LHeavyPairs;I[J)I"⟩
abbrev cL_proofBy : ByteArray := method_5_code
def yL_proofBy : MethodName := ⟨RL, "proofBy", "(LHeavyPairs;[J)I"⟩
abbrev cL_mean : ByteArray := method_6_code
def yL_mean : MethodName := ⟨RL, "mean", "(LHeavyPairs;I[J)I"⟩
abbrev cL_law : ByteArray := code
def yL_law : MethodName := ⟨RL, "law", "([I)Z"⟩
abbrev vwCl : List vw_C := [(RX0, TX0, 10), (RX1, TX1, 1), (RX2, TX2, 16), (RX3, TX3, 3), (RX4, TX4, 15), (RX5, TX5, 3), (RX6, TX6, 3), (RX7, TX7, 2), (RX8, TX8, 7), (RX9, TX9, 2), (RX10, TX10, 12), (RX11, TX11, 19), (RX12, TX12, 62)]
/-- a method: the class that holds it, its name, its code, its locals, what it returns -/
abbrev mM : Type := String × MethodName × ByteArray × Nat × Option FieldType
abbrev MX0_init : mM := (RX0, yX0_init, cX0_init, 1, none)
abbrev MX0_toldOf : mM := (RX0, yX0_toldOf, cX0_toldOf, 2, (some .int))
abbrev MX0_read : mM := (RX0, yX0_read, cX0_read, 4, (some .boolean))
abbrev MX0_readLine : mM := (RX0, yX0_readLine, cX0_readLine, 4, (some .boolean))
abbrev MX0_isDeed : mM := (RX0, yX0_isDeed, cX0_isDeed, 1, (some .boolean))
abbrev MX0_readFirst : mM := (RX0, yX0_readFirst, cX0_readFirst, 4, (some .boolean))
abbrev MX0_readTwo : mM := (RX0, yX0_readTwo, cX0_readTwo, 4, (some .boolean))
abbrev MX0_readNumber : mM := (RX0, yX0_readNumber, cX0_readNumber, 3, (some .boolean))
abbrev MX0_readThird : mM := (RX0, yX0_readThird, cX0_readThird, 5, (some .boolean))
abbrev MX0_judge : mM := (RX0, yX0_judge, cX0_judge, 4, (some .int))
abbrev MX0_live : mM := (RX0, yX0_live, cX0_live, 5, (some .int))
abbrev MX0_behind : mM := (RX0, yX0_behind, cX0_behind, 2, (some .int))
abbrev MX1_init : mM := (RX1, yX1_init, cX1_init, 1, none)
abbrev MX1_run : mM := (RX1, yX1_run, cX1_run, 7, (some .int))
abbrev MX1_draw : mM := (RX1, yX1_draw, cX1_draw, 2, (some .int))
abbrev MX1_isDone : mM := (RX1, yX1_isDone, cX1_isDone, 4, (some .boolean))
abbrev MX1_pairTwo : mM := (RX1, yX1_pairTwo, cX1_pairTwo, 3, (some .boolean))
abbrev MX1_weighOne : mM := (RX1, yX1_weighOne, cX1_weighOne, 4, (some .boolean))
abbrev MX1_crownOne : mM := (RX1, yX1_crownOne, cX1_crownOne, 2, (some .boolean))
abbrev MX2_init : mM := (RX2, yX2_init, cX2_init, 1, none)
abbrev MX2_lookAt : mM := (RX2, yX2_lookAt, cX2_lookAt, 3, none)
abbrev MX2_top : mM := (RX2, yX2_top, cX2_top, 1, (some .int))
abbrev MX2_second : mM := (RX2, yX2_second, cX2_second, 1, (some .int))
abbrev MX2_heaviestOf : mM := (RX2, yX2_heaviestOf, cX2_heaviestOf, 2, (some .int))
abbrev MX2_countOf : mM := (RX2, yX2_countOf, cX2_countOf, 2, (some .int))
abbrev MX2_slotKnown : mM := (RX2, yX2_slotKnown, cX2_slotKnown, 3, (some .int))
abbrev MX2_topFor : mM := (RX2, yX2_topFor, cX2_topFor, 2, (some .int))
abbrev MX2_slotFor : mM := (RX2, yX2_slotFor, cX2_slotFor, 8, (some .int))
abbrev MX2_leastOf : mM := (RX2, yX2_leastOf, cX2_leastOf, 2, (some .int))
abbrev MX2_startSlot : mM := (RX2, yX2_startSlot, cX2_startSlot, 4, none)
abbrev MX2_addWays : mM := (RX2, yX2_addWays, cX2_addWays, 8, none)
abbrev MX2_addTotal : mM := (RX2, yX2_addTotal, cX2_addTotal, 3, none)
abbrev MX2_bestInto : mM := (RX2, yX2_bestInto, cX2_bestInto, 5, none)
abbrev MX2_firstBestPartner : mM := (RX2, yX2_firstBestPartner, cX2_firstBestPartner, 5, (some .int))
abbrev MX2_keepsTop : mM := (RX2, yX2_keepsTop, cX2_keepsTop, 5, (some .boolean))
abbrev MX2_choose : mM := (RX2, yX2_choose, cX2_choose, 3, none)
abbrev MX2_fateOf : mM := (RX2, yX2_fateOf, cX2_fateOf, 4, (some .int))
abbrev MX2_wantNothing : mM := (RX2, yX2_wantNothing, cX2_wantNothing, 2, none)
abbrev MX2_want : mM := (RX2, yX2_want, cX2_want, 4, none)
abbrev MX2_countWanted : mM := (RX2, yX2_countWanted, cX2_countWanted, 2, (some .int))
abbrev MX2_walkBest : mM := (RX2, yX2_walkBest, cX2_walkBest, 7, none)
abbrev MX2_mayBe : mM := (RX2, yX2_mayBe, cX2_mayBe, 3, (some .boolean))
abbrev MX2_tallyChosen : mM := (RX2, yX2_tallyChosen, cX2_tallyChosen, 3, none)
abbrev MX2_tallyAt : mM := (RX2, yX2_tallyAt, cX2_tallyAt, 3, (some .int))
abbrev MX2_mostTelling : mM := (RX2, yX2_mostTelling, cX2_mostTelling, 6, (some .int))
abbrev MX3_init : mM := (RX3, yX3_init, cX3_init, 2, none)
abbrev MX3_forget : mM := (RX3, yX3_forget, cX3_forget, 1, none)
abbrev MX3_mark : mM := (RX3, yX3_mark, cX3_mark, 3, none)
abbrev MX3_keep : mM := (RX3, yX3_keep, cX3_keep, 1, none)
abbrev MX3_takeBack : mM := (RX3, yX3_takeBack, cX3_takeBack, 3, (some .int))
abbrev MX4_init : mM := (RX4, yX4_init, cX4_init, 1, none)
abbrev MX4_clear : mM := (RX4, yX4_clear, cX4_clear, 2, none)
abbrev MX4_copyFrom : mM := (RX4, yX4_copyFrom, cX4_copyFrom, 2, none)
abbrev MX4_copyLinksFrom : mM := (RX4, yX4_copyLinksFrom, cX4_copyLinksFrom, 2, none)
abbrev MX4_hasLinksOf : mM := (RX4, yX4_hasLinksOf, cX4_hasLinksOf, 3, (some .boolean))
abbrev MX4_points : mM := (RX4, yX4_points, cX4_points, 1, (some .int))
abbrev MX4_links : mM := (RX4, yX4_links, cX4_links, 1, (some .int))
abbrev MX4_sets : mM := (RX4, yX4_sets, cX4_sets, 1, (some .int))
abbrev MX4_turned : mM := (RX4, yX4_turned, cX4_turned, 1, (some .int))
abbrev MX4_shrunk : mM := (RX4, yX4_shrunk, cX4_shrunk, 1, (some .int))
abbrev MX4_hasPoint : mM := (RX4, yX4_hasPoint, cX4_hasPoint, 2, (some .boolean))
abbrev MX4_hasLink : mM := (RX4, yX4_hasLink, cX4_hasLink, 2, (some .boolean))
abbrev MX4_hasSet : mM := (RX4, yX4_hasSet, cX4_hasSet, 2, (some .boolean))
abbrev MX4_addPoint : mM := (RX4, yX4_addPoint, cX4_addPoint, 3, none)
abbrev MX4_addLink : mM := (RX4, yX4_addLink, cX4_addLink, 4, none)
abbrev MX4_addSet : mM := (RX4, yX4_addSet, cX4_addSet, 3, none)
abbrev MX4_pointNamed : mM := (RX4, yX4_pointNamed, cX4_pointNamed, 4, (some .int))
abbrev MX4_nameOf : mM := (RX4, yX4_nameOf, cX4_nameOf, 2, (some .long))
abbrev MX4_nearTo : mM := (RX4, yX4_nearTo, cX4_nearTo, 2, (some .int))
abbrev MX4_partnerOf : mM := (RX4, yX4_partnerOf, cX4_partnerOf, 2, (some .int))
abbrev MX4_isLone : mM := (RX4, yX4_isLone, cX4_isLone, 2, (some .boolean))
abbrev MX4_priceOf : mM := (RX4, yX4_priceOf, cX4_priceOf, 2, (some .int))
abbrev MX4_fromOf : mM := (RX4, yX4_fromOf, cX4_fromOf, 2, (some .int))
abbrev MX4_toOf : mM := (RX4, yX4_toOf, cX4_toOf, 2, (some .int))
abbrev MX4_weightAt : mM := (RX4, yX4_weightAt, cX4_weightAt, 2, (some .int))
abbrev MX4_isPair : mM := (RX4, yX4_isPair, cX4_isPair, 2, (some .boolean))
abbrev MX4_membersOf : mM := (RX4, yX4_membersOf, cX4_membersOf, 2, (some .int))
abbrev MX4_crownOf : mM := (RX4, yX4_crownOf, cX4_crownOf, 2, (some .int))
abbrev MX4_areLinked : mM := (RX4, yX4_areLinked, cX4_areLinked, 3, (some .boolean))
abbrev MX4_linkOf : mM := (RX4, yX4_linkOf, cX4_linkOf, 3, (some .int))
abbrev MX4_weightOf : mM := (RX4, yX4_weightOf, cX4_weightOf, 3, (some .int))
abbrev MX4_setOf : mM := (RX4, yX4_setOf, cX4_setOf, 3, (some .int))
abbrev MX4_setsWith : mM := (RX4, yX4_setsWith, cX4_setsWith, 4, (some .int))
abbrev MX4_slackOf : mM := (RX4, yX4_slackOf, cX4_slackOf, 5, (some .int))
abbrev MX4_tightLinks : mM := (RX4, yX4_tightLinks, cX4_tightLinks, 3, (some .int))
abbrev MX4_tightTo : mM := (RX4, yX4_tightTo, cX4_tightTo, 4, (some .int))
abbrev MX4_otherEnd : mM := (RX4, yX4_otherEnd, cX4_otherEnd, 3, (some .int))
abbrev MX4_tightPoints : mM := (RX4, yX4_tightPoints, cX4_tightPoints, 3, (some .int))
abbrev MX4_lonePoints : mM := (RX4, yX4_lonePoints, cX4_lonePoints, 3, (some .int))
abbrev MX4_pairs : mM := (RX4, yX4_pairs, cX4_pairs, 3, (some .int))
abbrev MX4_total : mM := (RX4, yX4_total, cX4_total, 3, (some .int))
abbrev MX4_pairsWithin : mM := (RX4, yX4_pairsWithin, cX4_pairsWithin, 5, (some .int))
abbrev MX4_fullPairs : mM := (RX4, yX4_fullPairs, cX4_fullPairs, 2, (some .int))
abbrev MX4_bound : mM := (RX4, yX4_bound, cX4_bound, 3, (some .int))
abbrev MX4_roomOf : mM := (RX4, yX4_roomOf, cX4_roomOf, 4, (some .int))
abbrev MX4_firstLinkBelow : mM := (RX4, yX4_firstLinkBelow, cX4_firstLinkBelow, 2, (some .int))
abbrev MX4_firstLoosePair : mM := (RX4, yX4_firstLoosePair, cX4_firstLoosePair, 2, (some .int))
abbrev MX4_firstPricedLone : mM := (RX4, yX4_firstPricedLone, cX4_firstPricedLone, 2, (some .int))
abbrev MX4_firstCrownedUnfilled : mM := (RX4, yX4_firstCrownedUnfilled, cX4_firstCrownedUnfilled, 2, (some .int))
abbrev MX4_pairUp : mM := (RX4, yX4_pairUp, cX4_pairUp, 3, (some .int))
abbrev MX4_partFrom : mM := (RX4, yX4_partFrom, cX4_partFrom, 3, (some .int))
abbrev MX4_weighAnew : mM := (RX4, yX4_weighAnew, cX4_weighAnew, 5, (some .int))
abbrev MX4_priceAt : mM := (RX4, yX4_priceAt, cX4_priceAt, 3, (some .int))
abbrev MX4_crownAt : mM := (RX4, yX4_crownAt, cX4_crownAt, 3, (some .int))
abbrev MX4_openSet : mM := (RX4, yX4_openSet, cX4_openSet, 3, (some .int))
abbrev MX4_turnAlong : mM := (RX4, yX4_turnAlong, cX4_turnAlong, 6, (some .int))
abbrev MX4_shrinkAlong : mM := (RX4, yX4_shrinkAlong, cX4_shrinkAlong, 5, (some .int))
abbrev MX4_goesByPairs : mM := (RX4, yX4_goesByPairs, cX4_goesByPairs, 3, (some .boolean))
abbrev MX5_init : mM := (RX5, yX5_init, cX5_init, 1, none)
abbrev MX5_result : mM := (RX5, yX5_result, cX5_result, 1, (some (.object "HeavyPairs$Network")))
abbrev MX5_lines : mM := (RX5, yX5_lines, cX5_lines, 1, (some .int))
abbrev MX5_read : mM := (RX5, yX5_read, cX5_read, 2, (some .boolean))
abbrev MX5_readLine : mM := (RX5, yX5_readLine, cX5_readLine, 2, (some .boolean))
abbrev MX5_readPoint : mM := (RX5, yX5_readPoint, cX5_readPoint, 2, (some .boolean))
abbrev MX5_readLink : mM := (RX5, yX5_readLink, cX5_readLink, 5, (some .boolean))
abbrev MX5_readPair : mM := (RX5, yX5_readPair, cX5_readPair, 4, (some .boolean))
abbrev MX5_readPrice : mM := (RX5, yX5_readPrice, cX5_readPrice, 4, (some .boolean))
abbrev MX5_readSet : mM := (RX5, yX5_readSet, cX5_readSet, 6, (some .boolean))
abbrev MX6_init : mM := (RX6, yX6_init, cX6_init, 1, none)
abbrev MX6_take : mM := (RX6, yX6_take, cX6_take, 3, none)
abbrev MX6_giveBack : mM := (RX6, yX6_giveBack, cX6_giveBack, 3, (some .boolean))
abbrev MX7_init : mM := (RX7, yX7_init, cX7_init, 2, none)
abbrev MX7_size : mM := (RX7, yX7_size, cX7_size, 1, (some .int))
abbrev MX7_at : mM := (RX7, yX7_at, cX7_at, 2, (some .int))
abbrev MX7_clear : mM := (RX7, yX7_clear, cX7_clear, 1, none)
abbrev MX7_add : mM := (RX7, yX7_add, cX7_add, 2, none)
abbrev MX7_dropTwo : mM := (RX7, yX7_dropTwo, cX7_dropTwo, 1, none)
abbrev MX7_copyFrom : mM := (RX7, yX7_copyFrom, cX7_copyFrom, 3, none)
abbrev MX7_addText : mM := (RX7, yX7_addText, cX7_addText, 3, none)
abbrev MX7_addName : mM := (RX7, yX7_addName, cX7_addName, 5, none)
abbrev MX7_addDigits : mM := (RX7, yX7_addDigits, cX7_addDigits, 2, none)
abbrev MX8_init : mM := (RX8, yX8_init, cX8_init, 1, none)
abbrev MX8_stands : mM := (RX8, yX8_stands, cX8_stands, 1, (some .boolean))
abbrev MX8_ones : mM := (RX8, yX8_ones, cX8_ones, 1, (some .int))
abbrev MX8_clear : mM := (RX8, yX8_clear, cX8_clear, 1, none)
abbrev MX8_copyFrom : mM := (RX8, yX8_copyFrom, cX8_copyFrom, 2, none)
abbrev MX8_read : mM := (RX8, yX8_read, cX8_read, 3, (some .boolean))
abbrev MX8_readCond : mM := (RX8, yX8_readCond, cX8_readCond, 5, (some .boolean))
abbrev MX8_readAll : mM := (RX8, yX8_readAll, cX8_readAll, 5, (some .boolean))
abbrev MX8_readOne : mM := (RX8, yX8_readOne, cX8_readOne, 6, (some .boolean))
abbrev MX8_putIfRead : mM := (RX8, yX8_putIfRead, cX8_putIfRead, 4, (some .boolean))
abbrev MX8_put : mM := (RX8, yX8_put, cX8_put, 4, (some .boolean))
abbrev MX8_pointsOf : mM := (RX8, yX8_pointsOf, cX8_pointsOf, 6, (some .int))
abbrev MX8_pointsOfOne : mM := (RX8, yX8_pointsOfOne, cX8_pointsOfOne, 4, (some .int))
abbrev MX8_pointsCompared : mM := (RX8, yX8_pointsCompared, cX8_pointsCompared, 7, (some .int))
abbrev MX8_measureOf : mM := (RX8, yX8_measureOf, cX8_measureOf, 3, (some .int))
abbrev MX9_init : mM := (RX9, yX9_init, cX9_init, 1, none)
abbrev MX9_row : mM := (RX9, yX9_row, cX9_row, 1, (some (.object "HeavyPairs$Row")))
abbrev MX9_findPath : mM := (RX9, yX9_findPath, cX9_findPath, 3, (some .boolean))
abbrev MX9_findFlower : mM := (RX9, yX9_findFlower, cX9_findFlower, 3, (some .boolean))
abbrev MX9_findRow : mM := (RX9, yX9_findRow, cX9_findRow, 6, (some .boolean))
abbrev MX9_goOn : mM := (RX9, yX9_goOn, cX9_goOn, 9, (some .boolean))
abbrev MX9_growFrom : mM := (RX9, yX9_growFrom, cX9_growFrom, 3, (some .int))
abbrev MX9_greatestGain : mM := (RX9, yX9_greatestGain, cX9_greatestGain, 4, (some .int))
abbrev MX9_strokeOn : mM := (RX9, yX9_strokeOn, cX9_strokeOn, 11, none)
abbrev MX10_init : mM := (RX10, yX10_init, cX10_init, 6, none)
abbrev MX10_length : mM := (RX10, yX10_length, cX10_length, 1, (some .int))
abbrev MX10_signAt : mM := (RX10, yX10_signAt, cX10_signAt, 2, (some .int))
abbrev MX10_putFour : mM := (RX10, yX10_putFour, cX10_putFour, 3, none)
abbrev MX10_cut : mM := (RX10, yX10_cut, cX10_cut, 2, none)
abbrev MX10_faultKind : mM := (RX10, yX10_faultKind, cX10_faultKind, 1, (some .int))
abbrev MX10_faultAt : mM := (RX10, yX10_faultAt, cX10_faultAt, 1, (some .int))
abbrev MX10_kind : mM := (RX10, yX10_kind, cX10_kind, 1, (some .int))
abbrev MX10_word : mM := (RX10, yX10_word, cX10_word, 1, (some .long))
abbrev MX10_begin : mM := (RX10, yX10_begin, cX10_begin, 2, none)
abbrev MX10_advance : mM := (RX10, yX10_advance, cX10_advance, 2, none)
abbrev MX10_readChunk : mM := (RX10, yX10_readChunk, cX10_readChunk, 7, none)
abbrev MX10_fail : mM := (RX10, yX10_fail, cX10_fail, 2, (some .boolean))
abbrev MX10_take : mM := (RX10, yX10_take, cX10_take, 2, (some .boolean))
abbrev MX10_takeNumber : mM := (RX10, yX10_takeNumber, cX10_takeNumber, 4, (some .int))
abbrev MX10_pointHere : mM := (RX10, yX10_pointHere, cX10_pointHere, 3, (some .int))
abbrev MX10_takePoint : mM := (RX10, yX10_takePoint, cX10_takePoint, 3, (some .int))
abbrev MX10_endsHere : mM := (RX10, yX10_endsHere, cX10_endsHere, 1, (some .boolean))
abbrev MX11_init : mM := (RX11, yX11_init, cX11_init, 2, none)
abbrev MX11_feed : mM := (RX11, yX11_feed, cX11_feed, 6, (some .int))
abbrev MX11_end : mM := (RX11, yX11_end, cX11_end, 2, (some .boolean))
abbrev MX11_network : mM := (RX11, yX11_network, cX11_network, 2, (some .int))
abbrev MX11_fault : mM := (RX11, yX11_fault, cX11_fault, 1, (some .int))
abbrev MX11_point : mM := (RX11, yX11_point, cX11_point, 3, (some .int))
abbrev MX11_link : mM := (RX11, yX11_link, cX11_link, 3, (some .int))
abbrev MX11_slack : mM := (RX11, yX11_slack, cX11_slack, 2, (some .int))
abbrev MX11_odd : mM := (RX11, yX11_odd, cX11_odd, 3, (some .int))
abbrev MX11_now : mM := (RX11, yX11_now, cX11_now, 2, (some .int))
abbrev MX11_pair : mM := (RX11, yX11_pair, cX11_pair, 3, (some .int))
abbrev MX11_part : mM := (RX11, yX11_part, cX11_part, 2, (some .int))
abbrev MX11_weigh : mM := (RX11, yX11_weigh, cX11_weigh, 4, (some .int))
abbrev MX11_price : mM := (RX11, yX11_price, cX11_price, 3, (some .int))
abbrev MX11_crown : mM := (RX11, yX11_crown, cX11_crown, 3, (some .int))
abbrev MX11_open : mM := (RX11, yX11_open, cX11_open, 2, (some .int))
abbrev MX11_grow : mM := (RX11, yX11_grow, cX11_grow, 2, (some .int))
abbrev MX11_growAt : mM := (RX11, yX11_growAt, cX11_growAt, 2, (some .int))
abbrev MX11_turn : mM := (RX11, yX11_turn, cX11_turn, 1, (some .int))
abbrev MX11_flower : mM := (RX11, yX11_flower, cX11_flower, 2, (some .int))
abbrev MX11_flowerAt : mM := (RX11, yX11_flowerAt, cX11_flowerAt, 2, (some .int))
abbrev MX11_shrink : mM := (RX11, yX11_shrink, cX11_shrink, 1, (some .int))
abbrev MX11_undo : mM := (RX11, yX11_undo, cX11_undo, 1, (some .int))
abbrev MX11_proof : mM := (RX11, yX11_proof, cX11_proof, 2, (some .int))
abbrev MX11_proofAt : mM := (RX11, yX11_proofAt, cX11_proofAt, 1, (some .int))
abbrev MX11_proofBy : mM := (RX11, yX11_proofBy, cX11_proofBy, 1, (some .int))
abbrev MX11_room : mM := (RX11, yX11_room, cX11_room, 2, (some .int))
abbrev MX11_best : mM := (RX11, yX11_best, cX11_best, 1, (some .int))
abbrev MX11_bestOf : mM := (RX11, yX11_bestOf, cX11_bestOf, 2, (some .int))
abbrev MX11_next : mM := (RX11, yX11_next, cX11_next, 1, (some .int))
abbrev MX11_heavy : mM := (RX11, yX11_heavy, cX11_heavy, 2, (some .int))
abbrev MX11_ways : mM := (RX11, yX11_ways, cX11_ways, 2, (some .int))
abbrev MX11_gain : mM := (RX11, yX11_gain, cX11_gain, 1, (some .int))
abbrev MX11_who : mM := (RX11, yX11_who, cX11_who, 3, (some .int))
abbrev MX11_ask : mM := (RX11, yX11_ask, cX11_ask, 1, (some .int))
abbrev MX11_mean : mM := (RX11, yX11_mean, cX11_mean, 5, (some .int))
abbrev MX11_tag : mM := (RX11, yX11_tag, cX11_tag, 2, (some .int))
abbrev MX11_byteAt : mM := (RX11, yX11_byteAt, cX11_byteAt, 2, (some .int))
abbrev MX11_drawn : mM := (RX11, yX11_drawn, cX11_drawn, 4, (some .int))
abbrev MX11_odds : mM := (RX11, yX11_odds, cX11_odds, 6, (some .int))
abbrev MX11_book : mM := (RX11, yX11_book, cX11_book, 4, (some .int))
abbrev MX11_told : mM := (RX11, yX11_told, cX11_told, 2, (some .int))
abbrev MX11_sentence : mM := (RX11, yX11_sentence, cX11_sentence, 2, (some .int))
abbrev MX11_said : mM := (RX11, yX11_said, cX11_said, 3, (some .int))
abbrev MX11_image : mM := (RX11, yX11_image, cX11_image, 3, (some .boolean))
abbrev MX11_restore : mM := (RX11, yX11_restore, cX11_restore, 3, (some .boolean))
abbrev MX11_count : mM := (RX11, yX11_count, cX11_count, 2, (some .int))
abbrev MX11_pictureAt : mM := (RX11, yX11_pictureAt, cX11_pictureAt, 2, (some (.object "HeavyPairs$Picture")))
abbrev MX11_areTwo : mM := (RX11, yX11_areTwo, cX11_areTwo, 3, (some .boolean))
abbrev MX11_isPrice : mM := (RX11, yX11_isPrice, cX11_isPrice, 1, (some .boolean))
abbrev MX11_keepIfDone : mM := (RX11, yX11_keepIfDone, cX11_keepIfDone, 2, (some .int))
abbrev MX11_noteFlaw : mM := (RX11, yX11_noteFlaw, cX11_noteFlaw, 4, (some .int))
abbrev MX11_isAsking : mM := (RX11, yX11_isAsking, cX11_isAsking, 4, (some .boolean))
abbrev MX11_commonDivisor : mM := (RX11, yX11_commonDivisor, cX11_commonDivisor, 6, (some .int))
abbrev MX11_bitNumbered : mM := (RX11, yX11_bitNumbered, cX11_bitNumbered, 4, (some .int))
abbrev MX12_thrown : mM := (RX12, yX12_thrown, cX12_thrown, 1, (some .int))
abbrev MX12_refuse : mM := (RX12, yX12_refuse, cX12_refuse, 1, (some .int))
abbrev MX12_come : mM := (RX12, yX12_come, cX12_come, 3, none)
abbrev MX12_feed : mM := (RX12, yX12_feed, cX12_feed, 6, (some .int))
abbrev MX12_end : mM := (RX12, yX12_end, cX12_end, 2, (some .boolean))
abbrev MX12_take : mM := (RX12, yX12_take, cX12_take, 2, (some .int))
abbrev MX12_isIn : mM := (RX12, yX12_isIn, cX12_isIn, 3, (some .boolean))
abbrev MX12_has : mM := (RX12, yX12_has, cX12_has, 2, (some .boolean))
abbrev MX12_bits : mM := (RX12, yX12_bits, cX12_bits, 3, (some .int))
abbrev MX12_common : mM := (RX12, yX12_common, cX12_common, 5, (some .int))
abbrev MX12_tapeAt : mM := (RX12, yX12_tapeAt, cX12_tapeAt, 2, (some .int))
abbrev MX12_isDigit : mM := (RX12, yX12_isDigit, cX12_isDigit, 1, (some .boolean))
abbrev MX12_isLetter : mM := (RX12, yX12_isLetter, cX12_isLetter, 1, (some .boolean))
abbrev MX12_go : mM := (RX12, yX12_go, cX12_go, 5, none)
abbrev MX12_spelt : mM := (RX12, yX12_spelt, cX12_spelt, 8, (some .long))
abbrev MX12_wordOf : mM := (RX12, yX12_wordOf, cX12_wordOf, 1, (some .long))
abbrev MX12_isWord : mM := (RX12, yX12_isWord, cX12_isWord, 2, (some .boolean))
abbrev MX12_isSign : mM := (RX12, yX12_isSign, cX12_isSign, 2, (some .boolean))
abbrev MX12_isName : mM := (RX12, yX12_isName, cX12_isName, 2, (some .boolean))
abbrev MX12_bad : mM := (RX12, yX12_bad, cX12_bad, 2, (some .boolean))
abbrev MX12_readNumber : mM := (RX12, yX12_readNumber, cX12_readNumber, 3, (some .boolean))
abbrev MX12_readEnd : mM := (RX12, yX12_readEnd, cX12_readEnd, 1, (some .boolean))
abbrev MX12_begin : mM := (RX12, yX12_begin, cX12_begin, 2, none)
abbrev MX12_init : mM := (RX12, yX12_init, cX12_init, 2, none)
abbrev MX12_startSo : mM := (RX12, yX12_startSo, cX12_startSo, 2, none)
abbrev MX12_findIn : mM := (RX12, yX12_findIn, cX12_findIn, 6, (some .int))
abbrev MX12_readFirst : mM := (RX12, yX12_readFirst, cX12_readFirst, 3, (some .boolean))
abbrev MX12_noted : mM := (RX12, yX12_noted, cX12_noted, 3, (some .boolean))
abbrev MX12_readPoint : mM := (RX12, yX12_readPoint, cX12_readPoint, 1, (some .boolean))
abbrev MX12_isHere : mM := (RX12, yX12_isHere, cX12_isHere, 1, (some .boolean))
abbrev MX12_linkIn : mM := (RX12, yX12_linkIn, cX12_linkIn, 4, (some .int))
abbrev MX12_readLink : mM := (RX12, yX12_readLink, cX12_readLink, 3, (some .boolean))
abbrev MX12_readPair : mM := (RX12, yX12_readPair, cX12_readPair, 2, (some .boolean))
abbrev MX12_readPrice : mM := (RX12, yX12_readPrice, cX12_readPrice, 2, (some .boolean))
abbrev MX12_isOddIn : mM := (RX12, yX12_isOddIn, cX12_isOddIn, 6, (some .boolean))
abbrev MX12_readOdd : mM := (RX12, yX12_readOdd, cX12_readOdd, 4, (some .boolean))
abbrev MX12_readLine : mM := (RX12, yX12_readLine, cX12_readLine, 1, (some .boolean))
abbrev MX12_network : mM := (RX12, yX12_network, cX12_network, 3, (some .int))
abbrev MX12_fault : mM := (RX12, yX12_fault, cX12_fault, 1, (some .int))
abbrev MX12_isPoint : mM := (RX12, yX12_isPoint, cX12_isPoint, 2, (some .boolean))
abbrev MX12_areTwo : mM := (RX12, yX12_areTwo, cX12_areTwo, 3, (some .boolean))
abbrev MX12_isLink : mM := (RX12, yX12_isLink, cX12_isLink, 2, (some .boolean))
abbrev MX12_isOdd : mM := (RX12, yX12_isOdd, cX12_isOdd, 2, (some .boolean))
abbrev MX12_between : mM := (RX12, yX12_between, cX12_between, 3, (some .int))
abbrev MX12_areLinked : mM := (RX12, yX12_areLinked, cX12_areLinked, 3, (some .boolean))
abbrev MX12_isLone : mM := (RX12, yX12_isLone, cX12_isLone, 2, (some .boolean))
abbrev MX12_arePaired : mM := (RX12, yX12_arePaired, cX12_arePaired, 3, (some .boolean))
abbrev MX12_isOfPair : mM := (RX12, yX12_isOfPair, cX12_isOfPair, 2, (some .boolean))
abbrev MX12_isAt : mM := (RX12, yX12_isAt, cX12_isAt, 3, (some .boolean))
abbrev MX12_slackOf : mM := (RX12, yX12_slackOf, cX12_slackOf, 6, (some .int))
abbrev MX12_pairsIn : mM := (RX12, yX12_pairsIn, cX12_pairsIn, 4, (some .int))
abbrev MX12_pairMany : mM := (RX12, yX12_pairMany, cX12_pairMany, 1, (some .int))
abbrev MX12_totalNow : mM := (RX12, yX12_totalNow, cX12_totalNow, 3, (some .int))
abbrev MX12_boundNow : mM := (RX12, yX12_boundNow, cX12_boundNow, 3, (some .int))
abbrev MX12_partners : mM := (RX12, yX12_partners, cX12_partners, 5, (some .int))
abbrev MX12_point : mM := (RX12, yX12_point, cX12_point, 5, (some .int))
abbrev MX12_link : mM := (RX12, yX12_link, cX12_link, 3, (some .int))
abbrev MX12_slack : mM := (RX12, yX12_slack, cX12_slack, 2, (some .int))
abbrev MX12_odd : mM := (RX12, yX12_odd, cX12_odd, 3, (some .int))
abbrev MX12_now : mM := (RX12, yX12_now, cX12_now, 4, (some .int))
abbrev MX12_goesOn : mM := (RX12, yX12_goesOn, cX12_goesOn, 6, (some .boolean))
abbrev MX12_layPath : mM := (RX12, yX12_layPath, cX12_layPath, 3, (some .int))
abbrev MX12_isPath : mM := (RX12, yX12_isPath, cX12_isPath, 4, (some .boolean))
abbrev MX12_turnPath : mM := (RX12, yX12_turnPath, cX12_turnPath, 4, none)
abbrev MX12_flowers : mM := (RX12, yX12_flowers, cX12_flowers, 6, (some .boolean))
abbrev MX12_isFlower : mM := (RX12, yX12_isFlower, cX12_isFlower, 2, (some .boolean))
abbrev MX12_grow : mM := (RX12, yX12_grow, cX12_grow, 4, (some .int))
abbrev MX12_growAt : mM := (RX12, yX12_growAt, cX12_growAt, 2, (some .int))
abbrev MX12_flower : mM := (RX12, yX12_flower, cX12_flower, 4, (some .int))
abbrev MX12_flowerAt : mM := (RX12, yX12_flowerAt, cX12_flowerAt, 2, (some .int))
abbrev MX12_save : mM := (RX12, yX12_save, cX12_save, 4, none)
abbrev MX12_comeBack : mM := (RX12, yX12_comeBack, cX12_comeBack, 4, none)
abbrev MX12_snap : mM := (RX12, yX12_snap, cX12_snap, 2, none)
abbrev MX12_refusal : mM := (RX12, yX12_refusal, cX12_refusal, 5, (some .int))
abbrev MX12_live : mM := (RX12, yX12_live, cX12_live, 5, none)
abbrev MX12_openOdd : mM := (RX12, yX12_openOdd, cX12_openOdd, 3, none)
abbrev MX12_act : mM := (RX12, yX12_act, cX12_act, 7, (some .int))
abbrev MX12_pair : mM := (RX12, yX12_pair, cX12_pair, 3, (some .int))
abbrev MX12_part : mM := (RX12, yX12_part, cX12_part, 2, (some .int))
abbrev MX12_weigh : mM := (RX12, yX12_weigh, cX12_weigh, 4, (some .int))
abbrev MX12_price : mM := (RX12, yX12_price, cX12_price, 3, (some .int))
abbrev MX12_crown : mM := (RX12, yX12_crown, cX12_crown, 3, (some .int))
abbrev MX12_open : mM := (RX12, yX12_open, cX12_open, 2, (some .int))
abbrev MX12_turn : mM := (RX12, yX12_turn, cX12_turn, 1, (some .int))
abbrev MX12_shrink : mM := (RX12, yX12_shrink, cX12_shrink, 3, (some .int))
abbrev MX12_undo : mM := (RX12, yX12_undo, cX12_undo, 1, (some .int))
abbrev MX12_breaks : mM := (RX12, yX12_breaks, cX12_breaks, 3, (some .int))
abbrev MX12_proof : mM := (RX12, yX12_proof, cX12_proof, 2, (some .int))
abbrev MX12_proofAt : mM := (RX12, yX12_proofAt, cX12_proofAt, 1, (some .int))
abbrev MX12_proofBy : mM := (RX12, yX12_proofBy, cX12_proofBy, 1, (some .int))
abbrev MX12_room : mM := (RX12, yX12_room, cX12_room, 4, (some .int))
abbrev MX12_leaf : mM := (RX12, yX12_leaf, cX12_leaf, 4, none)
abbrev MX12_walk : mM := (RX12, yX12_walk, cX12_walk, 6, none)
abbrev MX12_survey : mM := (RX12, yX12_survey, cX12_survey, 2, none)
abbrev MX12_isAsked : mM := (RX12, yX12_isAsked, cX12_isAsked, 2, (some .boolean))
abbrev MX12_surveyMost : mM := (RX12, yX12_surveyMost, cX12_surveyMost, 2, none)
abbrev MX12_fateOf : mM := (RX12, yX12_fateOf, cX12_fateOf, 2, (some .int))
abbrev MX12_best : mM := (RX12, yX12_best, cX12_best, 2, (some .int))
abbrev MX12_bestOf : mM := (RX12, yX12_bestOf, cX12_bestOf, 2, (some .int))
abbrev MX12_next : mM := (RX12, yX12_next, cX12_next, 1, (some .int))
abbrev MX12_heavy : mM := (RX12, yX12_heavy, cX12_heavy, 2, (some .int))
abbrev MX12_ways : mM := (RX12, yX12_ways, cX12_ways, 2, (some .int))
abbrev MX12_who : mM := (RX12, yX12_who, cX12_who, 6, (some .int))
abbrev MX12_ask : mM := (RX12, yX12_ask, cX12_ask, 1, (some .int))
abbrev MX12_stroke : mM := (RX12, yX12_stroke, cX12_stroke, 11, none)
abbrev MX12_gain : mM := (RX12, yX12_gain, cX12_gain, 5, (some .int))
abbrev MX12_fraction : mM := (RX12, yX12_fraction, cX12_fraction, 4, (some .int))
abbrev MX12_mean : mM := (RX12, yX12_mean, cX12_mean, 2, (some .int))
abbrev MX12_write : mM := (RX12, yX12_write, cX12_write, 2, none)
abbrev MX12_writeWord : mM := (RX12, yX12_writeWord, cX12_writeWord, 3, none)
abbrev MX12_writeNext : mM := (RX12, yX12_writeNext, cX12_writeNext, 3, none)
abbrev MX12_writeNumber : mM := (RX12, yX12_writeNumber, cX12_writeNumber, 2, none)
abbrev MX12_tag : mM := (RX12, yX12_tag, cX12_tag, 2, (some .int))
abbrev MX12_byteAt : mM := (RX12, yX12_byteAt, cX12_byteAt, 2, (some .int))
abbrev MX12_draw : mM := (RX12, yX12_draw, cX12_draw, 2, (some .int))
abbrev MX12_drawPoint : mM := (RX12, yX12_drawPoint, cX12_drawPoint, 1, (some .int))
abbrev MX12_doIf : mM := (RX12, yX12_doIf, cX12_doIf, 5, (some .boolean))
abbrev MX12_drawsDeed : mM := (RX12, yX12_drawsDeed, cX12_drawsDeed, 4, (some .boolean))
abbrev MX12_drawDeeds : mM := (RX12, yX12_drawDeeds, cX12_drawDeeds, 5, (some .int))
abbrev MX12_drawn : mM := (RX12, yX12_drawn, cX12_drawn, 4, (some .int))
abbrev MX12_odds : mM := (RX12, yX12_odds, cX12_odds, 6, (some .int))
abbrev MX12_keep : mM := (RX12, yX12_keep, cX12_keep, 3, (some .boolean))
abbrev MX12_readPointName : mM := (RX12, yX12_readPointName, cX12_readPointName, 1, (some .boolean))
abbrev MX12_readOther : mM := (RX12, yX12_readOther, cX12_readOther, 2, (some .boolean))
abbrev MX12_readBookLine : mM := (RX12, yX12_readBookLine, cX12_readBookLine, 4, (some .boolean))
abbrev MX12_goBy : mM := (RX12, yX12_goBy, cX12_goBy, 4, (some .int))
abbrev MX12_book : mM := (RX12, yX12_book, cX12_book, 4, (some .int))
abbrev MX12_stay : mM := (RX12, yX12_stay, cX12_stay, 2, none)
abbrev MX12_told : mM := (RX12, yX12_told, cX12_told, 2, (some .int))
abbrev MX12_readThat : mM := (RX12, yX12_readThat, cX12_readThat, 2, (some .boolean))
abbrev MX12_weightOf : mM := (RX12, yX12_weightOf, cX12_weightOf, 2, (some .int))
abbrev MX12_saysOne : mM := (RX12, yX12_saysOne, cX12_saysOne, 6, (some .int))
abbrev MX12_readOr : mM := (RX12, yX12_readOr, cX12_readOr, 2, (some .boolean))
abbrev MX12_readAnd : mM := (RX12, yX12_readAnd, cX12_readAnd, 2, (some .boolean))
abbrev MX12_readSaid : mM := (RX12, yX12_readSaid, cX12_readSaid, 4, (some .boolean))
abbrev MX12_readNot : mM := (RX12, yX12_readNot, cX12_readNot, 1, (some .boolean))
abbrev MX12_readBracket : mM := (RX12, yX12_readBracket, cX12_readBracket, 1, (some .boolean))
abbrev MX12_readOf : mM := (RX12, yX12_readOf, cX12_readOf, 2, (some .boolean))
abbrev MX12_readCompare : mM := (RX12, yX12_readCompare, cX12_readCompare, 3, (some .boolean))
abbrev MX12_sentence : mM := (RX12, yX12_sentence, cX12_sentence, 2, (some .int))
abbrev MX12_holds : mM := (RX12, yX12_holds, cX12_holds, 8, (some .boolean))
abbrev MX12_said : mM := (RX12, yX12_said, cX12_said, 4, (some .int))
abbrev MX12_image : mM := (RX12, yX12_image, cX12_image, 3, (some .boolean))
abbrev MX12_restore : mM := (RX12, yX12_restore, cX12_restore, 3, (some .boolean))
abbrev MX12_count : mM := (RX12, yX12_count, cX12_count, 2, (some .int))
abbrev MJ6_bitCount_0f7a4 : mM := (RJ6, yJ6_bitCount_0f7a4, cJ6_bitCount_0f7a4, 1, (some .int))
abbrev MJ9_floorMod_7cf53 : mM := (RJ9, yJ9_floorMod_7cf53, cJ9_floorMod_7cf53, 3, (some .int))
abbrev MJ9_max_7cf53 : mM := (RJ9, yJ9_max_7cf53, cJ9_max_7cf53, 2, (some .int))
abbrev MJ9_min_7cf53 : mM := (RJ9, yJ9_min_7cf53, cJ9_min_7cf53, 2, (some .int))
abbrev MJ0_length_8abf5 : mM := (RJ0, yJ0_length_8abf5, cJ0_length_8abf5, 1, (some .int))
abbrev MJ0_charAt_5068e : mM := (RJ0, yJ0_charAt_5068e, cJ0_charAt_5068e, 2, (some .char))
abbrev MJ0_coder_7d493 : mM := (RJ0, yJ0_coder_7d493, cJ0_coder_7d493, 1, (some .byte))
abbrev MJ0_isLatin1_aae02 : mM := (RJ0, yJ0_isLatin1_aae02, cJ0_isLatin1_aae02, 1, (some .boolean))
abbrev MJ0_checkIndex_df160 : mM := (RJ0, yJ0_checkIndex_df160, cJ0_checkIndex_df160, 2, none)
abbrev MJ1_charAt_3b067 : mM := (RJ1, yJ1_charAt_3b067, cJ1_charAt_3b067, 2, (some .char))
abbrev MJ2_getChar_3b067 : mM := (RJ2, yJ2_getChar_3b067, cJ2_getChar_3b067, 2, (some .char))
abbrev MJ2_length_9d52b : mM := (RJ2, yJ2_length_9d52b, cJ2_length_9d52b, 1, (some .int))
abbrev MJ2_charAt_3b067 : mM := (RJ2, yJ2_charAt_3b067, cJ2_charAt_3b067, 2, (some .char))
abbrev MJ2_checkIndex_2214a : mM := (RJ2, yJ2_checkIndex_2214a, cJ2_checkIndex_2214a, 2, none)
abbrev MJ3_checkIndex_8e157 : mM := (RJ3, yJ3_checkIndex_8e157, cJ3_checkIndex_8e157, 3, (some .int))
end
section
/-! ===== the machine of pictures (mx_): cells by number, their ints and longs as functions; one row an instruction, goal first ===== -/
/-- base address, classes and slots, array classes (0 int, 1 long, 2 boolean, 3 Network, 4 Picture), addresses of strings -/
abbrev mG : Type := Nat × va_G × (Nat → ClassId) × (Nat → Nat)
def mx_ad (G : mG) (i : Nat) : Nat := if i < 100000 then G.1 + i else G.2.2.2 i
def mx_tr (G : mG) : Value → Value
  | .ref a => .ref (mx_ad G a)
  | v => v
/-- how many cells, their kind and length, their references -/
abbrev mE : Type := Nat × (Nat → Nat × Nat) × (Nat → Nat → Option Nat)
abbrev mI : Type := Nat → Nat → Int32
abbrev mJ : Type := Nat → Nat → Int64
abbrev mS : Type := mE × mI × mJ
def mx_rv (G : mG) (r : Option Nat) : Value := match r with
  | none => .null
  | some a => .ref (mx_ad G a)
def mx_fv (G : mG) (z : mS) (ty : FieldType) (i k : Nat) : Value := match ty with
  | .long => .long (z.2.2 i k)
  | .object _ => mx_rv G (z.1.2.2 i k)
  | .array _ => mx_rv G (z.1.2.2 i k)
  | _ => .int (z.2.1 i k)
def mx_ty (c : Nat) : Nat → FieldType := match c with
  | 0 => tyX0 | 1 => tyX1 | 2 => tyX2 | 3 => tyX3 | 4 => tyX4 | 5 => tyX5 | 6 => tyX6 | 7 => tyX7 | 8 => tyX8 | 9 => tyX9 | 10 => tyX10 | 11 => tyX11
  | _ => tyX12
def mx_obj (G : mG) (z : mS) (c i : Nat) (H : Heap) : Prop := ∃ r : vw_C, vwCl[c]? = some r ∧ t_OB (G.1 + i) (G.2.1.1 c) r.2.2 (G.2.1.2 c) H (fun k => mx_fv G z (mx_ty c k) i k)
/-- a cell by its kind: 0 to 12 objects, 100 on arrays, 999 anything -/
def mx_cell (G : mG) (z : mS) (i : Nat) (H : Heap) : Prop :=
  if (z.1.2.1 i).1 = 100 then H[G.1 + i]? = some (arrV (G.2.2.1 0) (z.1.2.1 i).2 (fun j => .int (z.2.1 i j)))
  else if (z.1.2.1 i).1 = 101 then H[G.1 + i]? = some (arrV (G.2.2.1 1) (z.1.2.1 i).2 (fun j => .long (z.2.2 i j)))
  else if (z.1.2.1 i).1 = 102 then H[G.1 + i]? = some (arrV (G.2.2.1 2) (z.1.2.1 i).2 (fun j => .int (z.2.1 i j)))
  else if (z.1.2.1 i).1 = 103 then H[G.1 + i]? = some (arrV (G.2.2.1 3) (z.1.2.1 i).2 (fun j => mx_rv G (z.1.2.2 i j)))
  else if (z.1.2.1 i).1 = 104 then H[G.1 + i]? = some (arrV (G.2.2.1 4) (z.1.2.1 i).2 (fun j => mx_rv G (z.1.2.2 i j)))
  else if (z.1.2.1 i).1 = 999 then True
  else mx_obj G z (z.1.2.1 i).1 i H
def mx_H (G : mG) (z : mS) (H : Heap) : Prop := H.size = G.1 + z.1.1 ∧ z.1.1 ≤ 100000 ∧ ∀ i, i < z.1.1 → mx_cell G z i H
def mx_tys (G : mG) : List (ClassId × FieldType) := [(G.2.2.1 0, .int), (G.2.2.1 1, .long), (G.2.2.1 2, .boolean), (G.2.2.1 3, .object RX4), (G.2.2.1 4, .object RX6)]
def mx_K (G : mG) (U : State) : Prop := va_K G.2.1 vwCl (mx_tys G) U
theorem mx_K.moved {G : mG} {u U : State} (hvm : u.vm.Alike U.vm) (h : mx_K G u) : mx_K G U := va_K.moved hvm h
/-- the locals that are known; .float: not known -/
def mx_al (G : mG) : Nat → List Value → List (Nat × Value)
  | _, [] => []
  | i, v :: L => match v with
    | .float _ => mx_al G (i + 1) L
    | v => (i, mx_tr G v) :: mx_al G (i + 1) L
theorem mx_al_cons (G : mG) (i : Nat) (v : Value) (L : List Value) : (∃ f, v = .float f ∧ mx_al G i (v :: L) = mx_al G (i + 1) L) ∨ mx_al G i (v :: L) = (i, mx_tr G v) :: mx_al G (i + 1) L := by
  cases v with
  | float f => exact Or.inl ⟨f, rfl, rfl⟩
  | _ => exact Or.inr rfl
theorem mx_al_in {G : mG} {L : List Value} : ∀ {n i : Nat} {v : Value}, L[i]? = some v → (∀ f, v ≠ .float f) → (n + i, mx_tr G v) ∈ mx_al G n L := by
  induction L with
  | nil => intro n i v h; simp at h
  | cons a L ih =>
    intro n i v h hf
    cases i with
    | zero =>
      simp at h
      subst h
      rcases mx_al_cons G n a L with ⟨f, e, -⟩ | e
      · exact absurd e (hf f)
      · rw [e]; exact List.mem_cons_self
    | succ i =>
      have h1 : L[i]? = some v := by simpa using h
      have h2 := ih (n := n + 1) h1 hf
      have e2 : n + 1 + i = n + (i + 1) := by omega
      rw [e2] at h2
      rcases mx_al_cons G n a L with ⟨f, e, e3⟩ | e
      · rw [e3]; exact h2
      · rw [e]; exact List.mem_cons_of_mem _ h2
theorem mx_al_out {G : mG} {L : List Value} : ∀ {n : Nat} {q : Nat × Value}, q ∈ mx_al G n L → ∃ (i : Nat) (v : Value), q = (n + i, mx_tr G v) ∧ L[i]? = some v ∧ ∀ f, v ≠ .float f := by
  induction L with
  | nil => intro n q h; simp [mx_al] at h
  | cons a L ih =>
    intro n q h
    have key : q ∈ mx_al G (n + 1) L → ∃ (i : Nat) (v : Value), q = (n + i, mx_tr G v) ∧ (a :: L)[i]? = some v ∧ ∀ f, v ≠ .float f := by
      intro h
      obtain ⟨i, v, e, h1, h2⟩ := ih h
      exact ⟨i + 1, v, by rw [e, show n + 1 + i = n + (i + 1) by omega], by simpa using h1, h2⟩
    cases a with
    | float f => exact key h
    | _ =>
      rcases List.mem_cons.mp h with rfl | h
      · exact ⟨0, _, rfl, rfl, fun f q => by cases q⟩
      · exact key h
theorem mx_tr_cat (G : mG) (v : Value) : (mx_tr G v).category = v.category := by cases v <;> rfl
theorem mx_at {G : mG} {ls : Array Slot} {n i : Nat} {L : List Value} {v : Value} (h : lv_has ls n (mx_al G 0 L)) (hk : L[i]? = some v) (hf : ∀ f, v ≠ .float f) : ls[i]? = some (.val (mx_tr G v)) := by
  have h1 := h.2.2 _ (mx_al_in (n := 0) hk hf)
  simpa using h1
/-- a store of one slot: what takes two slots just below is lost -/
def mx_s1 (L : List Value) (i : Nat) (v : Value) : List Value := match i with
  | 0 => L.set 0 v
  | j + 1 => if (L[j]?.getD .null).category = 2 then (L.set j (.float 0)).set (j + 1) v else L.set (j + 1) v
/-- a store of two slots -/
def mx_s2 (L : List Value) (i : Nat) (v : Value) : List Value := (mx_s1 L i v).set (i + 1) (.float 0)
theorem mx_set_in {L : List Value} {i j : Nat} {v w : Value} (h : (L.set i v)[j]? = some w) : (j = i ∧ w = v) ∨ (j ≠ i ∧ L[j]? = some w) := by
  rw [List.getElem?_set] at h
  by_cases hij : i = j
  · rw [if_pos hij] at h
    split at h
    · cases h; exact Or.inl ⟨hij.symm, rfl⟩
    · cases h
  · rw [if_neg hij] at h
    exact Or.inr ⟨fun q => hij q.symm, h⟩
theorem mx_s1_get {L : List Value} {i j : Nat} {v w : Value} (h : (mx_s1 L i v)[j]? = some w) (hw : ∀ f, w ≠ .float f) : (j = i ∧ w = v) ∨ (j ≠ i ∧ L[j]? = some w ∧ ¬ (j + 1 = i ∧ w.category = 2)) := by
  unfold mx_s1 at h
  cases i with
  | zero =>
    rcases mx_set_in h with q | q
    · exact Or.inl q
    · exact Or.inr ⟨q.1, q.2, fun z => by omega⟩
  | succ k =>
    dsimp only at h
    split at h
    · rcases mx_set_in h with q | q
      · exact Or.inl q
      · rcases mx_set_in q.2 with r | r
        · exact absurd r.2 (hw 0)
        · exact Or.inr ⟨q.1, r.2, fun z => r.1 (by omega)⟩
    · rename_i hc
      rcases mx_set_in h with q | q
      · exact Or.inl q
      · refine Or.inr ⟨q.1, q.2, fun z => hc ?_⟩
        have : j = k := by omega
        subst this
        rw [q.2]
        exact z.2
theorem mx_s1_in {G : mG} {L : List Value} {i : Nat} {v : Value} {q : Nat × Value} (h : q ∈ mx_al G 0 (mx_s1 L i v)) :
    q ∈ (i, mx_tr G v) :: (mx_al G 0 L).filter (fun q => !(q.1 == i) && !(q.1 + 1 == i && q.2.category == 2)) := by
  obtain ⟨j, w, e, hj, hw⟩ := mx_al_out h
  rw [Nat.zero_add] at e
  subst e
  rcases mx_s1_get hj hw with ⟨rfl, rfl⟩ | ⟨hji, hL, hn⟩
  · exact List.mem_cons_self
  · refine List.mem_cons_of_mem _ (List.mem_filter.mpr ⟨by have := mx_al_in (G := G) (n := 0) hL hw; simpa using this, ?_⟩)
    simp only [Bool.and_eq_true, Bool.not_eq_true', beq_eq_false_iff_ne, ne_eq, Bool.and_eq_false_iff]
    refine ⟨hji, ?_⟩
    by_cases h1 : j + 1 = i
    · right; rw [mx_tr_cat]; exact fun q => hn ⟨h1, q⟩
    · left; exact h1
theorem mx_s2_in {G : mG} {L : List Value} {i : Nat} {v : Value} {q : Nat × Value} (h : q ∈ mx_al G 0 (mx_s2 L i v)) :
    q ∈ (i, mx_tr G v) :: (mx_al G 0 L).filter (fun q => !(q.1 == i) && (!(q.1 == i + 1) && !(q.1 + 1 == i && q.2.category == 2))) := by
  obtain ⟨j, w, e, hj, hw⟩ := mx_al_out h
  rw [Nat.zero_add] at e
  subst e
  rcases mx_set_in hj with ⟨-, rfl⟩ | ⟨hj1, hj⟩
  · exact absurd rfl (hw 0)
  rcases mx_s1_get hj hw with ⟨rfl, rfl⟩ | ⟨hji, hL, hn⟩
  · exact List.mem_cons_self
  · refine List.mem_cons_of_mem _ (List.mem_filter.mpr ⟨by have := mx_al_in (G := G) (n := 0) hL hw; simpa using this, ?_⟩)
    simp only [Bool.and_eq_true, Bool.not_eq_true', beq_eq_false_iff_ne, ne_eq, Bool.and_eq_false_iff]
    refine ⟨hji, hj1, ?_⟩
    by_cases h1 : j + 1 = i
    · right; rw [mx_tr_cat]; exact fun q => hn ⟨h1, q⟩
    · left; exact h1
theorem mx_has_mono {ls : Array Slot} {n : Nat} {l l' : List (Nat × Value)} (h : lv_has ls n l) (hs : ∀ q ∈ l', q ∈ l) : lv_has ls n l' := ⟨h.1, h.2.1, fun q hq => h.2.2 q (hs q hq)⟩
/-- fewer known locals -/
def mx_le : List Value → List Value → Prop
  | [], _ => True
  | .float _ :: L', L => mx_le L' L.tail
  | v :: L', L => L.head? = some v ∧ mx_le L' L.tail
theorem mx_le_al {G : mG} : ∀ {L' L : List Value} {n : Nat}, mx_le L' L → ∀ q ∈ mx_al G n L', q ∈ mx_al G n L := by
  intro L'
  induction L' with
  | nil => intro L n _ q hq; simp [mx_al] at hq
  | cons v L' ih =>
    intro L n h q hq
    have tl : ∀ (K : List Value), q ∈ mx_al G (n + 1) K.tail → q ∈ mx_al G n K := by
      intro K hK
      cases K with
      | nil => simpa [mx_al] using hK
      | cons a K =>
        rcases mx_al_cons G n a K with ⟨f, -, e⟩ | e
        · rw [e]; exact hK
        · rw [e]; exact List.mem_cons_of_mem _ hK
    cases v with
    | float f => exact tl L (ih h q hq)
    | _ =>
      rcases List.mem_cons.mp hq with rfl | hq
      · cases L with
        | nil => simp [mx_le] at h
        | cons a L =>
          have ha := h.1
          simp at ha
          subst ha
          exact List.mem_cons_self
      · exact tl L (ih h.2 q hq)
/-! the words: all that hold at every state of a launch -/
def mx_TB : List Cond := lw_tbl.filter goodWord
theorem mx_TBg : GoodIn mx_TB mx_TB := fun w hw => ⟨hw, good_of_word (List.mem_filter.mp hw).2⟩
def mx_ws (M : mM) : List Cond := .code M.2.1 M.2.2.1 M.2.2.2.1 M.2.2.2.2 :: mx_TB
theorem mx_in {w : Cond} {i : Nat} (h : tables_1[i]? = some w) (hg : goodWord w = true) : w ∈ mx_TB := List.mem_filter.mpr ⟨List.mem_append_right _ (List.mem_of_getElem? h), hg⟩
theorem mx_inS {w : Cond} {i : Nat} (h : (k2_sels lw_privs)[i]? = some w) (hg : goodWord w = true) : w ∈ mx_TB := List.mem_filter.mpr ⟨List.mem_append_left _ (List.mem_of_getElem? h), hg⟩
def mx_C (G : mG) (M : mM) (p : Program) (s : State) (m : MethodId) (args : Array Value) (meth : Method) (c : Code) : Prop :=
  p.tables.exec = Jvm.exec ∧ c.code = M.2.2.1 ∧ c.maxLocals = M.2.2.2.1 ∧ meth.sig.returnType = M.2.2.2.2 ∧ meth.locks = false ∧ s.vm.findClass M.1 = some m.cls ∧ meth.name = M.2.1.name ∧ (∀ w ∈ mx_TB, w.before args s = true) ∧ mx_K G s
def mx_fr (G : mG) : Nat → Prop := fun q => G.1 ≤ q
def mx_Q (G : mG) (Post : Option Value → mS → Prop) : Array Value → State → Outcome → State → Prop := fun _ st o t =>
  (∃ (v : Option Value) (z : mS), o = .returned (v.map (mx_tr G)) ∧ Post v z ∧ mx_H G z t.heap) ∧ va_F (mx_fr G) st t
def mx_Pc (G : mG) (av : List Value) (z : mS) : Array Value → State → Prop := fun a U => a = (av.map (mx_tr G)).toArray ∧ mx_H G z U.heap ∧ mx_K G U
def mx_rm (d kc ks : Nat) : Room := { frames := d, cells := kc, slots := ks, locals := 60 * d }
/-- A CALL: the method, at depth d, making at most kc cells of ks slots, from arguments av and picture z, ends with Post -/
def mx_Call (G : mG) (l : Launch) (M : mM) (d kc ks : Nat) (av : List Value) (z : mS) (Post : Option Value → mS → Prop) : Prop :=
  Met l M.2.1 (mx_ws M) (mx_rm d kc ks) (mx_Pc G av z) (mx_Q G Post) kc ks (mx_fr G)
/-- what holds of the machine wherever a frame is -/
def mx_X (G : mG) (M : mM) (d kc ks : Nat) (L : List Value) (z : mS) (p : Program) (R : Room) (s : State) (m : MethodId) (args : Array Value) (meth : Method) (c : Code) (H : Heap) (locs : List Loc) (cells slots : Nat) (ls : Array Slot) : Prop :=
  mx_C G M p s m args meth c ∧ (d ≤ R.frames ∧ 60 * d ≤ R.locals ∧ cells + kc ≤ R.cells ∧ slots + ks ≤ R.slots) ∧ va_S (mx_fr G) s.heap H locs ∧ G.1 ≤ s.heap.size ∧ mx_H G z H ∧ lv_has ls M.2.2.2.1 (mx_al G 0 L)
/-- A FRAME: from pc, locals L, stack st and picture z on the method ends with Post -/
def mx_Fr (G : mG) (l : Launch) (M : mM) (d kc ks : Nat) (Post : Option Value → mS → Prop) (pc : Nat) (L st : List Value) (z : mS) : Prop :=
  ∀ (p : Program) (e : Env) (R : Room) (s : State) (m : MethodId) (args : Array Value) (below : List Frame) (meth : Method) (c : Code) (H : Heap) (locs : List Loc) (cells slots : Nat) (ls : Array Slot),
    mx_X G M d kc ks L z p R s m args meth c H locs cells slots ls →
    W p l e R s m args below meth c H locs cells slots (MQ below (mx_Q G Post) args s R.cells R.slots (mx_fr G)) (F0 m pc ls (st.map (mx_tr G)))
end
section
section MX
variable {G : mG} {l : Launch} {M : mM} {d kc ks : Nat} {Post : Option Value → mS → Prop} {pc : Nat} {L st : List Value} {z : mS}
theorem mx_S_F {G : mG} {s t : State} {H : Heap} {locs : List Loc} (h : va_S (mx_fr G) s.heap H locs) (ht : t.heap = H) : va_F (mx_fr G) s t := ⟨by rw [ht]; exact h.1, fun q hq hA => by rw [ht]; exact h.2.1 q hq hA⟩
/-- fewer known locals suffice -/
theorem mx_forget {L' : List Value} (h : mx_le L' L) (kk : mx_Fr G l M d kc ks Post pc L' st z) : mx_Fr G l M d kc ks Post pc L st z := by
  intro p e R s m args below meth c H locs cells slots ls ⟨hC, hR, hS, hb, hH, hl⟩
  exact kk p e R s m args below meth c H locs cells slots ls ⟨hC, hR, hS, hb, hH, mx_has_mono hl (mx_le_al h)⟩
/-- less room suffices -/
theorem mx_less {d' kc' ks' : Nat} (hd : d' ≤ d) (h1 : kc' ≤ kc) (h2 : ks' ≤ ks) (kk : mx_Fr G l M d' kc' ks' Post pc L st z) : mx_Fr G l M d kc ks Post pc L st z := by
  intro p e R s m args below meth c H locs cells slots ls ⟨hC, hR, hS, hb, hH, hl⟩
  exact kk p e R s m args below meth c H locs cells slots ls ⟨hC, ⟨by omega, by omega, by omega, by omega⟩, hS, hb, hH, hl⟩
theorem mx_eqL {L' : List Value} (h : L = L') (kk : mx_Fr G l M d kc ks Post pc L' st z) : mx_Fr G l M d kc ks Post pc L st z := h ▸ kk
theorem mx_eqz {z' : mS} (h : z = z') (kk : mx_Fr G l M d kc ks Post pc L st z') : mx_Fr G l M d kc ks Post pc L st z := h ▸ kk
theorem mx_eqs {st' : List Value} (h : st = st') (kk : mx_Fr G l M d kc ks Post pc L st' z) : mx_Fr G l M d kc ks Post pc L st z := h ▸ kk
/-- the locals at a method's entry -/
def mx_L0 : List Value → List Value
  | [] => []
  | v :: vs => if v.category = 2 then v :: .float 0 :: mx_L0 vs else v :: mx_L0 vs
theorem mx_blind {av : List Value} : FrameBlind (mx_Pc G av z) := fun a U g mk q => ⟨q.1, q.2.1, mx_K.moved (u := U) (U := U.calling g mk a) (Vm.Alike.refl U.vm) q.2.2⟩
theorem mx_al_fl (k : Nat) : ∀ n, mx_al G n (List.replicate k (.float 0)) = [] := by
  induction k with
  | zero => intro n; rfl
  | succ k ih => intro n; exact ih (n + 1)
theorem mx_al_app : ∀ (A B : List Value) (n : Nat), mx_al G n (A ++ B) = mx_al G n A ++ mx_al G (n + A.length) B := by
  intro A
  induction A with
  | nil => intro B n; rfl
  | cons a A ih =>
    intro B n
    have e : n + 1 + A.length = n + (a :: A).length := by simp; omega
    cases a with
    | float f =>
      show mx_al G (n + 1) (A ++ B) = mx_al G (n + 1) A ++ _
      rw [ih, e]
    | _ =>
      show _ :: mx_al G (n + 1) (A ++ B) = _ :: mx_al G (n + 1) A ++ _
      rw [ih, e]; rfl
theorem mx_al_args : ∀ (av : List Value) (n : Nat), ∀ q ∈ mx_al G n (mx_L0 av), q ∈ lv_args n (av.map (mx_tr G)) := by
  intro av
  induction av with
  | nil => intro n q h; simp [mx_L0, mx_al] at h
  | cons v av ih =>
    intro n q h
    by_cases hc : v.category = 2
    · have e : mx_L0 (v :: av) = v :: .float 0 :: mx_L0 av := by simp [mx_L0, hc]
      rw [e] at h
      have e2 : lv_args n ((v :: av).map (mx_tr G)) = (n, mx_tr G v) :: lv_args (n + 2) (av.map (mx_tr G)) := by
        simp [lv_args, mx_tr_cat, hc]
      rw [e2]
      rcases mx_al_cons G n v (.float 0 :: mx_L0 av) with ⟨f, hv, -⟩ | e3
      · subst hv; exact absurd hc (by simp [Value.category])
      · rw [e3] at h
        rcases List.mem_cons.mp h with rfl | h
        · exact List.mem_cons_self
        · exact List.mem_cons_of_mem _ (ih (n + 2) q h)
    · have e : mx_L0 (v :: av) = v :: mx_L0 av := by simp [mx_L0, hc]
      rw [e] at h
      have hc1 : v.category = 1 := (lv_cat v).resolve_right hc
      have e2 : lv_args n ((v :: av).map (mx_tr G)) = (n, mx_tr G v) :: lv_args (n + 1) (av.map (mx_tr G)) := by
        simp [lv_args, mx_tr_cat, hc1]
      rw [e2]
      rcases mx_al_cons G n v (mx_L0 av) with ⟨f, hv, e3⟩ | e3
      · rw [e3] at h
        exact List.mem_cons_of_mem _ (ih (n + 1) q h)
      · rw [e3] at h
        rcases List.mem_cons.mp h with rfl | h
        · exact List.mem_cons_self
        · exact List.mem_cons_of_mem _ (ih (n + 1) q h)
theorem mx_len (av : List Value) : (lg_sl (av.map (mx_tr G))).length = (mx_L0 av).length := by
  induction av with
  | nil => rfl
  | cons v av ih =>
    by_cases hc : v.category = 2
    · simp [lg_sl, mx_L0, hc, mx_tr_cat] at ih ⊢; omega
    · simp [lg_sl, mx_L0, hc, mx_tr_cat] at ih ⊢; omega
theorem mx_entry {av : List Value} (hp : plainName M.2.1.cls = true ∧ M.1 = M.2.1.cls) (hn : (mx_L0 av).length ≤ M.2.2.2.1)
    (hL : mx_L0 av ++ List.replicate (M.2.2.2.1 - (mx_L0 av).length) (.float 0) = L) (kk : mx_Fr G l M d kc ks Post 0 L [] z) : mx_Call G l M d kc ks av z Post := by
  subst hL
  refine Met.ofW (cc := M.2.2.1) (maxL := M.2.2.2.1) (ret := M.2.2.2.2) hp.1 rfl ?_
  intro p e s m args below meth c s₁ B hml hP
  obtain ⟨rfl, hH, hK⟩ := hP
  have hts := atoms_spec (ws := mx_ws M) B.pre
  have hown : s.vm.findClass M.1 = some m.cls := hp.2 ▸ findClass_of_methodNamed B.named
  have hl := lv_entry (av.map (mx_tr G)) (n := M.2.2.2.1) (by rw [mx_len]; exact hn)
  rw [lg_entry_eq]
  exact kk p e _ s m _ below meth c s.heap [] 0 0 _ ⟨⟨B.exec, B.bytes, hml, B.returns, B.notSynchronized, hown, (name_of_methodNamed B.named B.method).1, fun w hw => hts w (List.mem_cons_of_mem _ hw), hK⟩,
    ⟨Nat.le_refl _, Nat.le_refl _, by simp [headSpec, mx_rm], by simp [headSpec, mx_rm]⟩, va_S.rf, by rw [hH.1]; exact Nat.le_add_right _ _, hH, mx_has_mono hl (fun q hq => by rw [mx_al_app, mx_al_fl, List.append_nil] at hq; exact mx_al_args av 0 q hq)⟩
theorem mx_iconst {n : Int} (v : Int32) (hd : decode M.2.2.1 pc = .ok (.iconst n, 1)) (hv : Int32.ofInt n = v) (kk : mx_Fr G l M d kc ks Post (pc + 1) L (.int v :: st) z) : mx_Fr G l M d kc ks Post pc L st z := by
  intro p e R s m args below meth c H locs cells slots ls X
  obtain ⟨⟨hx, hcc, hml, hrt, hlk, hown, hnm, hts, hK⟩, hR, hS, hb, hH, hl⟩ := id X
  exact lv_iconst hx hcc hd hv (kk p e R s m args below meth c H locs cells slots ls X)
theorem mx_bipush {n : Int} (v : Int32) (hd : decode M.2.2.1 pc = .ok (.bipush n, 2)) (hv : (Int8.ofInt n).toInt32 = v) (kk : mx_Fr G l M d kc ks Post (pc + 2) L (.int v :: st) z) : mx_Fr G l M d kc ks Post pc L st z := by
  intro p e R s m args below meth c H locs cells slots ls X
  obtain ⟨⟨hx, hcc, hml, hrt, hlk, hown, hnm, hts, hK⟩, hR, hS, hb, hH, hl⟩ := id X
  exact lv_bipush hx hcc hd hv (kk p e R s m args below meth c H locs cells slots ls X)
theorem mx_sipush {n : Int} (v : Int32) (hd : decode M.2.2.1 pc = .ok (.sipush n, 3)) (hv : (Int16.ofInt n).toInt32 = v) (kk : mx_Fr G l M d kc ks Post (pc + 3) L (.int v :: st) z) : mx_Fr G l M d kc ks Post pc L st z := by
  intro p e R s m args below meth c H locs cells slots ls X
  obtain ⟨⟨hx, hcc, hml, hrt, hlk, hown, hnm, hts, hK⟩, hR, hS, hb, hH, hl⟩ := id X
  exact lv_sipush hx hcc hd hv (kk p e R s m args below meth c H locs cells slots ls X)
theorem mx_lconst {n : Fin 2} (v : Int64) (hd : decode M.2.2.1 pc = .ok (.lconst n, 1)) (hv : Int64.ofNat (n : Nat) = v) (kk : mx_Fr G l M d kc ks Post (pc + 1) L (.long v :: st) z) : mx_Fr G l M d kc ks Post pc L st z := by
  intro p e R s m args below meth c H locs cells slots ls X
  obtain ⟨⟨hx, hcc, hml, hrt, hlk, hown, hnm, hts, hK⟩, hR, hS, hb, hH, hl⟩ := id X
  exact lv_lconst hx hcc hd hv (kk p e R s m args below meth c H locs cells slots ls X)
theorem mx_null  (hd : decode M.2.2.1 pc = .ok (.aconst_null, 1)) (kk : mx_Fr G l M d kc ks Post (pc + 1) L (.null :: st) z) : mx_Fr G l M d kc ks Post pc L st z := by
  intro p e R s m args below meth c H locs cells slots ls X
  obtain ⟨⟨hx, hcc, hml, hrt, hlk, hown, hnm, hts, hK⟩, hR, hS, hb, hH, hl⟩ := id X
  exact lv_null hx hcc hd (kk p e R s m args below meth c H locs cells slots ls X)
theorem mx_ldc {idx : Nat} (v : Int32) (hd : decode M.2.2.1 pc = .ok (.ldc idx, 2)) (hw : Cond.constant M.1 idx v ∈ mx_TB) (kk : mx_Fr G l M d kc ks Post (pc + 2) L (.int v :: st) z) : mx_Fr G l M d kc ks Post pc L st z := by
  intro p e R s m args below meth c H locs cells slots ls X
  obtain ⟨⟨hx, hcc, hml, hrt, hlk, hown, hnm, hts, hK⟩, hR, hS, hb, hH, hl⟩ := id X
  exact lv_ldc hx hcc hown (hts _ hw) hd (kk p e R s m args below meth c H locs cells slots ls X)
theorem mx_ldcw {idx : Nat} (v : Int32) (hd : decode M.2.2.1 pc = .ok (.ldc_w idx, 3)) (hw : Cond.constant M.1 idx v ∈ mx_TB) (kk : mx_Fr G l M d kc ks Post (pc + 3) L (.int v :: st) z) : mx_Fr G l M d kc ks Post pc L st z := by
  intro p e R s m args below meth c H locs cells slots ls X
  obtain ⟨⟨hx, hcc, hml, hrt, hlk, hown, hnm, hts, hK⟩, hR, hS, hb, hH, hl⟩ := id X
  exact lv_ldcw hx hcc hown (hts _ hw) hd (kk p e R s m args below meth c H locs cells slots ls X)
theorem mx_ldc2 {idx : Nat} (v : Int64) (hd : decode M.2.2.1 pc = .ok (.ldc2_w idx, 3)) (hw : Cond.constantLong M.1 idx v ∈ mx_TB) (kk : mx_Fr G l M d kc ks Post (pc + 3) L (.long v :: st) z) : mx_Fr G l M d kc ks Post pc L st z := by
  intro p e R s m args below meth c H locs cells slots ls X
  obtain ⟨⟨hx, hcc, hml, hrt, hlk, hown, hnm, hts, hK⟩, hR, hS, hb, hH, hl⟩ := id X
  exact lv_ldc2 hx hcc hown (hts _ hw) hd (kk p e R s m args below meth c H locs cells slots ls X)
theorem mx_iload_n {k : Fin 4} {i : Nat} {x : Int32} (hd : decode M.2.2.1 pc = .ok (.iload_n k, 1)) (hi : (k : Nat) = i) (hv : L[i]? = some (.int x)) (kk : mx_Fr G l M d kc ks Post (pc + 1) L (.int x :: st) z) : mx_Fr G l M d kc ks Post pc L st z := by
  intro p e R s m args below meth c H locs cells slots ls X
  obtain ⟨⟨hx, hcc, hml, hrt, hlk, hown, hnm, hts, hK⟩, hR, hS, hb, hH, hl⟩ := id X
  exact lv_iload_n hx hcc hd hi (mx_at hl hv (fun f q => by cases q)) (kk p e R s m args below meth c H locs cells slots ls X)
theorem mx_iload {i : Nat} {x : Int32} (hd : decode M.2.2.1 pc = .ok (.iload i, 2)) (hv : L[i]? = some (.int x)) (kk : mx_Fr G l M d kc ks Post (pc + 2) L (.int x :: st) z) : mx_Fr G l M d kc ks Post pc L st z := by
  intro p e R s m args below meth c H locs cells slots ls X
  obtain ⟨⟨hx, hcc, hml, hrt, hlk, hown, hnm, hts, hK⟩, hR, hS, hb, hH, hl⟩ := id X
  exact lv_iload hx hcc hd (mx_at hl hv (fun f q => by cases q)) (kk p e R s m args below meth c H locs cells slots ls X)
theorem mx_lload_n {k : Fin 4} {i : Nat} {x : Int64} (hd : decode M.2.2.1 pc = .ok (.lload_n k, 1)) (hi : (k : Nat) = i) (hv : L[i]? = some (.long x)) (kk : mx_Fr G l M d kc ks Post (pc + 1) L (.long x :: st) z) : mx_Fr G l M d kc ks Post pc L st z := by
  intro p e R s m args below meth c H locs cells slots ls X
  obtain ⟨⟨hx, hcc, hml, hrt, hlk, hown, hnm, hts, hK⟩, hR, hS, hb, hH, hl⟩ := id X
  exact lv_lload_n hx hcc hd hi (mx_at hl hv (fun f q => by cases q)) (kk p e R s m args below meth c H locs cells slots ls X)
theorem mx_lload {i : Nat} {x : Int64} (hd : decode M.2.2.1 pc = .ok (.lload i, 2)) (hv : L[i]? = some (.long x)) (kk : mx_Fr G l M d kc ks Post (pc + 2) L (.long x :: st) z) : mx_Fr G l M d kc ks Post pc L st z := by
  intro p e R s m args below meth c H locs cells slots ls X
  obtain ⟨⟨hx, hcc, hml, hrt, hlk, hown, hnm, hts, hK⟩, hR, hS, hb, hH, hl⟩ := id X
  exact lv_lload hx hcc hd (mx_at hl hv (fun f q => by cases q)) (kk p e R s m args below meth c H locs cells slots ls X)
theorem mx_aload_n {k : Fin 4} {i : Nat} {x : Nat} (hd : decode M.2.2.1 pc = .ok (.aload_n k, 1)) (hi : (k : Nat) = i) (hv : L[i]? = some (.ref x)) (kk : mx_Fr G l M d kc ks Post (pc + 1) L (.ref x :: st) z) : mx_Fr G l M d kc ks Post pc L st z := by
  intro p e R s m args below meth c H locs cells slots ls X
  obtain ⟨⟨hx, hcc, hml, hrt, hlk, hown, hnm, hts, hK⟩, hR, hS, hb, hH, hl⟩ := id X
  exact lv_aload_n hx hcc hd hi (mx_at hl hv (fun f q => by cases q)) (kk p e R s m args below meth c H locs cells slots ls X)
theorem mx_aload {i : Nat} {x : Nat} (hd : decode M.2.2.1 pc = .ok (.aload i, 2)) (hv : L[i]? = some (.ref x)) (kk : mx_Fr G l M d kc ks Post (pc + 2) L (.ref x :: st) z) : mx_Fr G l M d kc ks Post pc L st z := by
  intro p e R s m args below meth c H locs cells slots ls X
  obtain ⟨⟨hx, hcc, hml, hrt, hlk, hown, hnm, hts, hK⟩, hR, hS, hb, hH, hl⟩ := id X
  exact lv_aload hx hcc hd (mx_at hl hv (fun f q => by cases q)) (kk p e R s m args below meth c H locs cells slots ls X)
theorem mx_aload_nN {k : Fin 4} {i : Nat} (hd : decode M.2.2.1 pc = .ok (.aload_n k, 1)) (hi : (k : Nat) = i) (hv : L[i]? = some .null) (kk : mx_Fr G l M d kc ks Post (pc + 1) L (.null :: st) z) : mx_Fr G l M d kc ks Post pc L st z := by
  intro p e R s m args below meth c H locs cells slots ls X
  obtain ⟨⟨hx, hcc, hml, hrt, hlk, hown, hnm, hts, hK⟩, hR, hS, hb, hH, hl⟩ := id X
  exact lv_aload_nN hx hcc hd hi (mx_at hl hv (fun f q => by cases q)) (kk p e R s m args below meth c H locs cells slots ls X)
theorem mx_aloadN {i : Nat} (hd : decode M.2.2.1 pc = .ok (.aload i, 2)) (hv : L[i]? = some .null) (kk : mx_Fr G l M d kc ks Post (pc + 2) L (.null :: st) z) : mx_Fr G l M d kc ks Post pc L st z := by
  intro p e R s m args below meth c H locs cells slots ls X
  obtain ⟨⟨hx, hcc, hml, hrt, hlk, hown, hnm, hts, hK⟩, hR, hS, hb, hH, hl⟩ := id X
  exact lv_aloadN hx hcc hd (mx_at hl hv (fun f q => by cases q)) (kk p e R s m args below meth c H locs cells slots ls X)
theorem mx_istore_n {k : Fin 4} {i : Nat} {x : Int32} {L2 : List Value} (hd : decode M.2.2.1 pc = .ok (.istore_n k, 1)) (hi : (k : Nat) = i) (hn : i < M.2.2.2.1) (hL : mx_s1 L i (.int x) = L2) (kk : mx_Fr G l M d kc ks Post (pc + 1) L2 st z) : mx_Fr G l M d kc ks Post pc L (.int x :: st) z := by
  intro p e R s m args below meth c H locs cells slots ls X
  obtain ⟨⟨hx, hcc, hml, hrt, hlk, hown, hnm, hts, hK⟩, hR, hS, hb, hH, hl⟩ := id X
  exact lv_istore_n hx hcc hd hi hl hn rfl (fun ls2 hl2 => kk p e R s m args below meth c H locs cells slots ls2 ⟨X.1, hR, hS, hb, hH, hL ▸ mx_has_mono hl2 (fun q hq => mx_s1_in (v := .int x) hq)⟩)
theorem mx_istore {i : Nat} {x : Int32} {L2 : List Value} (hd : decode M.2.2.1 pc = .ok (.istore i, 2)) (hn : i < M.2.2.2.1) (hL : mx_s1 L i (.int x) = L2) (kk : mx_Fr G l M d kc ks Post (pc + 2) L2 st z) : mx_Fr G l M d kc ks Post pc L (.int x :: st) z := by
  intro p e R s m args below meth c H locs cells slots ls X
  obtain ⟨⟨hx, hcc, hml, hrt, hlk, hown, hnm, hts, hK⟩, hR, hS, hb, hH, hl⟩ := id X
  exact lv_istore hx hcc hd hl hn rfl (fun ls2 hl2 => kk p e R s m args below meth c H locs cells slots ls2 ⟨X.1, hR, hS, hb, hH, hL ▸ mx_has_mono hl2 (fun q hq => mx_s1_in (v := .int x) hq)⟩)
theorem mx_lstore_n {k : Fin 4} {i : Nat} {x : Int64} {L2 : List Value} (hd : decode M.2.2.1 pc = .ok (.lstore_n k, 1)) (hi : (k : Nat) = i) (hn : i + 1 < M.2.2.2.1) (hL : mx_s2 L i (.long x) = L2) (kk : mx_Fr G l M d kc ks Post (pc + 1) L2 st z) : mx_Fr G l M d kc ks Post pc L (.long x :: st) z := by
  intro p e R s m args below meth c H locs cells slots ls X
  obtain ⟨⟨hx, hcc, hml, hrt, hlk, hown, hnm, hts, hK⟩, hR, hS, hb, hH, hl⟩ := id X
  exact lv_lstore_n hx hcc hd hi hl hn rfl (fun ls2 hl2 => kk p e R s m args below meth c H locs cells slots ls2 ⟨X.1, hR, hS, hb, hH, hL ▸ mx_has_mono hl2 (fun q hq => mx_s2_in (v := .long x) hq)⟩)
theorem mx_lstore {i : Nat} {x : Int64} {L2 : List Value} (hd : decode M.2.2.1 pc = .ok (.lstore i, 2)) (hn : i + 1 < M.2.2.2.1) (hL : mx_s2 L i (.long x) = L2) (kk : mx_Fr G l M d kc ks Post (pc + 2) L2 st z) : mx_Fr G l M d kc ks Post pc L (.long x :: st) z := by
  intro p e R s m args below meth c H locs cells slots ls X
  obtain ⟨⟨hx, hcc, hml, hrt, hlk, hown, hnm, hts, hK⟩, hR, hS, hb, hH, hl⟩ := id X
  exact lv_lstore hx hcc hd hl hn rfl (fun ls2 hl2 => kk p e R s m args below meth c H locs cells slots ls2 ⟨X.1, hR, hS, hb, hH, hL ▸ mx_has_mono hl2 (fun q hq => mx_s2_in (v := .long x) hq)⟩)
theorem mx_astore_n {k : Fin 4} {i : Nat} {x : Nat} {L2 : List Value} (hd : decode M.2.2.1 pc = .ok (.astore_n k, 1)) (hi : (k : Nat) = i) (hn : i < M.2.2.2.1) (hL : mx_s1 L i (.ref x) = L2) (kk : mx_Fr G l M d kc ks Post (pc + 1) L2 st z) : mx_Fr G l M d kc ks Post pc L (.ref x :: st) z := by
  intro p e R s m args below meth c H locs cells slots ls X
  obtain ⟨⟨hx, hcc, hml, hrt, hlk, hown, hnm, hts, hK⟩, hR, hS, hb, hH, hl⟩ := id X
  exact lv_astore_n hx hcc hd hi hl hn rfl (fun ls2 hl2 => kk p e R s m args below meth c H locs cells slots ls2 ⟨X.1, hR, hS, hb, hH, hL ▸ mx_has_mono hl2 (fun q hq => mx_s1_in (v := .ref x) hq)⟩)
theorem mx_astore {i : Nat} {x : Nat} {L2 : List Value} (hd : decode M.2.2.1 pc = .ok (.astore i, 2)) (hn : i < M.2.2.2.1) (hL : mx_s1 L i (.ref x) = L2) (kk : mx_Fr G l M d kc ks Post (pc + 2) L2 st z) : mx_Fr G l M d kc ks Post pc L (.ref x :: st) z := by
  intro p e R s m args below meth c H locs cells slots ls X
  obtain ⟨⟨hx, hcc, hml, hrt, hlk, hown, hnm, hts, hK⟩, hR, hS, hb, hH, hl⟩ := id X
  exact lv_astore hx hcc hd hl hn rfl (fun ls2 hl2 => kk p e R s m args below meth c H locs cells slots ls2 ⟨X.1, hR, hS, hb, hH, hL ▸ mx_has_mono hl2 (fun q hq => mx_s1_in (v := .ref x) hq)⟩)
theorem mx_astore_nN {k : Fin 4} {i : Nat} {L2 : List Value} (hd : decode M.2.2.1 pc = .ok (.astore_n k, 1)) (hi : (k : Nat) = i) (hn : i < M.2.2.2.1) (hL : mx_s1 L i .null = L2) (kk : mx_Fr G l M d kc ks Post (pc + 1) L2 st z) : mx_Fr G l M d kc ks Post pc L (.null :: st) z := by
  intro p e R s m args below meth c H locs cells slots ls X
  obtain ⟨⟨hx, hcc, hml, hrt, hlk, hown, hnm, hts, hK⟩, hR, hS, hb, hH, hl⟩ := id X
  exact lv_astore_nN hx hcc hd hi hl hn rfl (fun ls2 hl2 => kk p e R s m args below meth c H locs cells slots ls2 ⟨X.1, hR, hS, hb, hH, hL ▸ mx_has_mono hl2 (fun q hq => mx_s1_in (v := .null) hq)⟩)
theorem mx_astoreN {i : Nat} {L2 : List Value} (hd : decode M.2.2.1 pc = .ok (.astore i, 2)) (hn : i < M.2.2.2.1) (hL : mx_s1 L i .null = L2) (kk : mx_Fr G l M d kc ks Post (pc + 2) L2 st z) : mx_Fr G l M d kc ks Post pc L (.null :: st) z := by
  intro p e R s m args below meth c H locs cells slots ls X
  obtain ⟨⟨hx, hcc, hml, hrt, hlk, hown, hnm, hts, hK⟩, hR, hS, hb, hH, hl⟩ := id X
  exact lv_astoreN hx hcc hd hl hn rfl (fun ls2 hl2 => kk p e R s m args below meth c H locs cells slots ls2 ⟨X.1, hR, hS, hb, hH, hL ▸ mx_has_mono hl2 (fun q hq => mx_s1_in (v := .null) hq)⟩)
theorem mx_iinc {i : Nat} {n : Int} {x : Int32} (v : Int32) {L2 : List Value} (hd : decode M.2.2.1 pc = .ok (.iinc i n, 3)) (hv : L[i]? = some (.int x)) (hv2 : x + Int32.ofInt n = v) (hn : i < M.2.2.2.1) (hL : mx_s1 L i (.int v) = L2) (kk : mx_Fr G l M d kc ks Post (pc + 3) L2 st z) : mx_Fr G l M d kc ks Post pc L st z := by
  intro p e R s m args below meth c H locs cells slots ls X
  obtain ⟨⟨hx, hcc, hml, hrt, hlk, hown, hnm, hts, hK⟩, hR, hS, hb, hH, hl⟩ := id X
  have hm := mx_al_in (G := G) (n := 0) hv (fun f q => by cases q)
  rw [Nat.zero_add] at hm
  obtain ⟨k, hk⟩ := List.getElem?_of_mem hm
  exact lv_iinc hx hcc hd hl hk hv2 hn rfl (fun ls2 hl2 => kk p e R s m args below meth c H locs cells slots ls2 ⟨X.1, hR, hS, hb, hH, hL ▸ mx_has_mono hl2 (fun q hq => mx_s1_in (v := .int v) hq)⟩)
theorem mx_iadd {x y : Int32} (hd : decode M.2.2.1 pc = .ok (.iadd, 1)) (kk : mx_Fr G l M d kc ks Post (pc + 1) L (.int (x + y) :: st) z) : mx_Fr G l M d kc ks Post pc L (.int y :: .int x :: st) z := by
  intro p e R s m args below meth c H locs cells slots ls X
  obtain ⟨⟨hx, hcc, hml, hrt, hlk, hown, hnm, hts, hK⟩, hR, hS, hb, hH, hl⟩ := id X
  exact lv_iadd hx hcc hd (kk p e R s m args below meth c H locs cells slots ls X)
theorem mx_isub {x y : Int32} (hd : decode M.2.2.1 pc = .ok (.isub, 1)) (kk : mx_Fr G l M d kc ks Post (pc + 1) L (.int (x - y) :: st) z) : mx_Fr G l M d kc ks Post pc L (.int y :: .int x :: st) z := by
  intro p e R s m args below meth c H locs cells slots ls X
  obtain ⟨⟨hx, hcc, hml, hrt, hlk, hown, hnm, hts, hK⟩, hR, hS, hb, hH, hl⟩ := id X
  exact lv_isub hx hcc hd (kk p e R s m args below meth c H locs cells slots ls X)
theorem mx_imul {x y : Int32} (hd : decode M.2.2.1 pc = .ok (.imul, 1)) (kk : mx_Fr G l M d kc ks Post (pc + 1) L (.int (x * y) :: st) z) : mx_Fr G l M d kc ks Post pc L (.int y :: .int x :: st) z := by
  intro p e R s m args below meth c H locs cells slots ls X
  obtain ⟨⟨hx, hcc, hml, hrt, hlk, hown, hnm, hts, hK⟩, hR, hS, hb, hH, hl⟩ := id X
  exact lv_imul hx hcc hd (kk p e R s m args below meth c H locs cells slots ls X)
theorem mx_iand {x y : Int32} (hd : decode M.2.2.1 pc = .ok (.iand, 1)) (kk : mx_Fr G l M d kc ks Post (pc + 1) L (.int (x &&& y) :: st) z) : mx_Fr G l M d kc ks Post pc L (.int y :: .int x :: st) z := by
  intro p e R s m args below meth c H locs cells slots ls X
  obtain ⟨⟨hx, hcc, hml, hrt, hlk, hown, hnm, hts, hK⟩, hR, hS, hb, hH, hl⟩ := id X
  exact lv_iand hx hcc hd (kk p e R s m args below meth c H locs cells slots ls X)
theorem mx_ior {x y : Int32} (hd : decode M.2.2.1 pc = .ok (.ior, 1)) (kk : mx_Fr G l M d kc ks Post (pc + 1) L (.int (x ||| y) :: st) z) : mx_Fr G l M d kc ks Post pc L (.int y :: .int x :: st) z := by
  intro p e R s m args below meth c H locs cells slots ls X
  obtain ⟨⟨hx, hcc, hml, hrt, hlk, hown, hnm, hts, hK⟩, hR, hS, hb, hH, hl⟩ := id X
  exact lv_ior hx hcc hd (kk p e R s m args below meth c H locs cells slots ls X)
theorem mx_ixor {x y : Int32} (hd : decode M.2.2.1 pc = .ok (.ixor, 1)) (kk : mx_Fr G l M d kc ks Post (pc + 1) L (.int (x ^^^ y) :: st) z) : mx_Fr G l M d kc ks Post pc L (.int y :: .int x :: st) z := by
  intro p e R s m args below meth c H locs cells slots ls X
  obtain ⟨⟨hx, hcc, hml, hrt, hlk, hown, hnm, hts, hK⟩, hR, hS, hb, hH, hl⟩ := id X
  exact lv_ixor hx hcc hd (kk p e R s m args below meth c H locs cells slots ls X)
theorem mx_ishl {x y : Int32} (hd : decode M.2.2.1 pc = .ok (.ishl, 1)) (kk : mx_Fr G l M d kc ks Post (pc + 1) L (.int (x <<< (y &&& 31)) :: st) z) : mx_Fr G l M d kc ks Post pc L (.int y :: .int x :: st) z := by
  intro p e R s m args below meth c H locs cells slots ls X
  obtain ⟨⟨hx, hcc, hml, hrt, hlk, hown, hnm, hts, hK⟩, hR, hS, hb, hH, hl⟩ := id X
  exact lv_ishl hx hcc hd (kk p e R s m args below meth c H locs cells slots ls X)
theorem mx_ishr {x y : Int32} (hd : decode M.2.2.1 pc = .ok (.ishr, 1)) (kk : mx_Fr G l M d kc ks Post (pc + 1) L (.int (x >>> (y &&& 31)) :: st) z) : mx_Fr G l M d kc ks Post pc L (.int y :: .int x :: st) z := by
  intro p e R s m args below meth c H locs cells slots ls X
  obtain ⟨⟨hx, hcc, hml, hrt, hlk, hown, hnm, hts, hK⟩, hR, hS, hb, hH, hl⟩ := id X
  exact lv_ishr hx hcc hd (kk p e R s m args below meth c H locs cells slots ls X)
theorem mx_idiv {x y : Int32} (hd : decode M.2.2.1 pc = .ok (.idiv, 1)) (hne : ¬ y = 0) (kk : mx_Fr G l M d kc ks Post (pc + 1) L (.int (x / y) :: st) z) : mx_Fr G l M d kc ks Post pc L (.int y :: .int x :: st) z := by
  intro p e R s m args below meth c H locs cells slots ls X
  obtain ⟨⟨hx, hcc, hml, hrt, hlk, hown, hnm, hts, hK⟩, hR, hS, hb, hH, hl⟩ := id X
  exact lv_idiv hx hcc hd hne (kk p e R s m args below meth c H locs cells slots ls X)
theorem mx_irem {x y : Int32} (hd : decode M.2.2.1 pc = .ok (.irem, 1)) (hne : ¬ y = 0) (kk : mx_Fr G l M d kc ks Post (pc + 1) L (.int (x - x / y * y) :: st) z) : mx_Fr G l M d kc ks Post pc L (.int y :: .int x :: st) z := by
  intro p e R s m args below meth c H locs cells slots ls X
  obtain ⟨⟨hx, hcc, hml, hrt, hlk, hown, hnm, hts, hK⟩, hR, hS, hb, hH, hl⟩ := id X
  exact lv_irem hx hcc hd hne (kk p e R s m args below meth c H locs cells slots ls X)
theorem mx_ineg {x : Int32} (hd : decode M.2.2.1 pc = .ok (.ineg, 1)) (kk : mx_Fr G l M d kc ks Post (pc + 1) L (.int (-x) :: st) z) : mx_Fr G l M d kc ks Post pc L (.int x :: st) z := by
  intro p e R s m args below meth c H locs cells slots ls X
  obtain ⟨⟨hx, hcc, hml, hrt, hlk, hown, hnm, hts, hK⟩, hR, hS, hb, hH, hl⟩ := id X
  exact lv_ineg hx hcc hd (kk p e R s m args below meth c H locs cells slots ls X)
theorem mx_iushr {x y : Int32} (hd : decode M.2.2.1 pc = .ok (.iushr, 1)) (kk : mx_Fr G l M d kc ks Post (pc + 1) L (.int ((x.toUInt32 >>> (y.toUInt32 &&& Int32.toUInt32 31)).toInt32) :: st) z) : mx_Fr G l M d kc ks Post pc L (.int y :: .int x :: st) z := by
  intro p e R s m args below meth c H locs cells slots ls X
  obtain ⟨⟨hx, hcc, hml, hrt, hlk, hown, hnm, hts, hK⟩, hR, hS, hb, hH, hl⟩ := id X
  exact lv_iushr hx hcc hd rfl (kk p e R s m args below meth c H locs cells slots ls X)
theorem mx_ladd {x y : Int64} (hd : decode M.2.2.1 pc = .ok (.ladd, 1)) (kk : mx_Fr G l M d kc ks Post (pc + 1) L (.long (x + y) :: st) z) : mx_Fr G l M d kc ks Post pc L (.long y :: .long x :: st) z := by
  intro p e R s m args below meth c H locs cells slots ls X
  obtain ⟨⟨hx, hcc, hml, hrt, hlk, hown, hnm, hts, hK⟩, hR, hS, hb, hH, hl⟩ := id X
  exact lv_ladd hx hcc hd (kk p e R s m args below meth c H locs cells slots ls X)
theorem mx_lsub {x y : Int64} (hd : decode M.2.2.1 pc = .ok (.lsub, 1)) (kk : mx_Fr G l M d kc ks Post (pc + 1) L (.long (x - y) :: st) z) : mx_Fr G l M d kc ks Post pc L (.long y :: .long x :: st) z := by
  intro p e R s m args below meth c H locs cells slots ls X
  obtain ⟨⟨hx, hcc, hml, hrt, hlk, hown, hnm, hts, hK⟩, hR, hS, hb, hH, hl⟩ := id X
  exact lv_lsub hx hcc hd (kk p e R s m args below meth c H locs cells slots ls X)
theorem mx_lmul {x y : Int64} (hd : decode M.2.2.1 pc = .ok (.lmul, 1)) (kk : mx_Fr G l M d kc ks Post (pc + 1) L (.long (x * y) :: st) z) : mx_Fr G l M d kc ks Post pc L (.long y :: .long x :: st) z := by
  intro p e R s m args below meth c H locs cells slots ls X
  obtain ⟨⟨hx, hcc, hml, hrt, hlk, hown, hnm, hts, hK⟩, hR, hS, hb, hH, hl⟩ := id X
  exact lv_lmul hx hcc hd (kk p e R s m args below meth c H locs cells slots ls X)
theorem mx_land {x y : Int64} (hd : decode M.2.2.1 pc = .ok (.land, 1)) (kk : mx_Fr G l M d kc ks Post (pc + 1) L (.long (x &&& y) :: st) z) : mx_Fr G l M d kc ks Post pc L (.long y :: .long x :: st) z := by
  intro p e R s m args below meth c H locs cells slots ls X
  obtain ⟨⟨hx, hcc, hml, hrt, hlk, hown, hnm, hts, hK⟩, hR, hS, hb, hH, hl⟩ := id X
  exact lv_land hx hcc hd (kk p e R s m args below meth c H locs cells slots ls X)
theorem mx_lor {x y : Int64} (hd : decode M.2.2.1 pc = .ok (.lor, 1)) (kk : mx_Fr G l M d kc ks Post (pc + 1) L (.long (x ||| y) :: st) z) : mx_Fr G l M d kc ks Post pc L (.long y :: .long x :: st) z := by
  intro p e R s m args below meth c H locs cells slots ls X
  obtain ⟨⟨hx, hcc, hml, hrt, hlk, hown, hnm, hts, hK⟩, hR, hS, hb, hH, hl⟩ := id X
  exact lv_lor hx hcc hd (kk p e R s m args below meth c H locs cells slots ls X)
theorem mx_ldiv {x y : Int64} (hd : decode M.2.2.1 pc = .ok (.ldiv, 1)) (hne : ¬ y = 0) (kk : mx_Fr G l M d kc ks Post (pc + 1) L (.long (x / y) :: st) z) : mx_Fr G l M d kc ks Post pc L (.long y :: .long x :: st) z := by
  intro p e R s m args below meth c H locs cells slots ls X
  obtain ⟨⟨hx, hcc, hml, hrt, hlk, hown, hnm, hts, hK⟩, hR, hS, hb, hH, hl⟩ := id X
  exact lv_ldiv hx hcc hd hne (kk p e R s m args below meth c H locs cells slots ls X)
theorem mx_lrem {x y : Int64} (hd : decode M.2.2.1 pc = .ok (.lrem, 1)) (hne : ¬ y = 0) (kk : mx_Fr G l M d kc ks Post (pc + 1) L (.long (x - x / y * y) :: st) z) : mx_Fr G l M d kc ks Post pc L (.long y :: .long x :: st) z := by
  intro p e R s m args below meth c H locs cells slots ls X
  obtain ⟨⟨hx, hcc, hml, hrt, hlk, hown, hnm, hts, hK⟩, hR, hS, hb, hH, hl⟩ := id X
  exact lv_lrem hx hcc hd hne (kk p e R s m args below meth c H locs cells slots ls X)
theorem mx_lshr {x : Int64} {y : Int32} (hd : decode M.2.2.1 pc = .ok (.lshr, 1)) (kk : mx_Fr G l M d kc ks Post (pc + 1) L (.long (x >>> (y.toInt64 &&& 63)) :: st) z) : mx_Fr G l M d kc ks Post pc L (.int y :: .long x :: st) z := by
  intro p e R s m args below meth c H locs cells slots ls X
  obtain ⟨⟨hx, hcc, hml, hrt, hlk, hown, hnm, hts, hK⟩, hR, hS, hb, hH, hl⟩ := id X
  exact lv_lshr hx hcc hd rfl (kk p e R s m args below meth c H locs cells slots ls X)
theorem mx_i2l {x : Int32} (hd : decode M.2.2.1 pc = .ok (.i2l, 1)) (kk : mx_Fr G l M d kc ks Post (pc + 1) L (.long x.toInt64 :: st) z) : mx_Fr G l M d kc ks Post pc L (.int x :: st) z := by
  intro p e R s m args below meth c H locs cells slots ls X
  obtain ⟨⟨hx, hcc, hml, hrt, hlk, hown, hnm, hts, hK⟩, hR, hS, hb, hH, hl⟩ := id X
  exact lv_i2l hx hcc hd rfl (kk p e R s m args below meth c H locs cells slots ls X)
theorem mx_l2i {x : Int64} (hd : decode M.2.2.1 pc = .ok (.l2i, 1)) (kk : mx_Fr G l M d kc ks Post (pc + 1) L (.int x.toInt32 :: st) z) : mx_Fr G l M d kc ks Post pc L (.long x :: st) z := by
  intro p e R s m args below meth c H locs cells slots ls X
  obtain ⟨⟨hx, hcc, hml, hrt, hlk, hown, hnm, hts, hK⟩, hR, hS, hb, hH, hl⟩ := id X
  exact lv_l2i hx hcc hd rfl (kk p e R s m args below meth c H locs cells slots ls X)
theorem mx_lcmp {x y : Int64} (hd : decode M.2.2.1 pc = .ok (.lcmp, 1)) (kk : mx_Fr G l M d kc ks Post (pc + 1) L (.int (lg_cmp x y) :: st) z) : mx_Fr G l M d kc ks Post pc L (.long y :: .long x :: st) z := by
  intro p e R s m args below meth c H locs cells slots ls X
  obtain ⟨⟨hx, hcc, hml, hrt, hlk, hown, hnm, hts, hK⟩, hR, hS, hb, hH, hl⟩ := id X
  exact W.lcmp hx hcc hd (kk p e R s m args below meth c H locs cells slots ls X)
theorem mx_dup {v : Value} (hd : decode M.2.2.1 pc = .ok (.dup, 1)) (hv : v.category = 1) (kk : mx_Fr G l M d kc ks Post (pc + 1) L (v :: v :: st) z) : mx_Fr G l M d kc ks Post pc L (v :: st) z := by
  intro p e R s m args below meth c H locs cells slots ls X
  obtain ⟨⟨hx, hcc, hml, hrt, hlk, hown, hnm, hts, hK⟩, hR, hS, hb, hH, hl⟩ := id X
  exact lv_dup hx hcc hd (by rw [mx_tr_cat]; exact hv) (kk p e R s m args below meth c H locs cells slots ls X)
theorem mx_pop {v : Value} (hd : decode M.2.2.1 pc = .ok (.pop, 1)) (hv : v.category = 1) (kk : mx_Fr G l M d kc ks Post (pc + 1) L st z) : mx_Fr G l M d kc ks Post pc L (v :: st) z := by
  intro p e R s m args below meth c H locs cells slots ls X
  obtain ⟨⟨hx, hcc, hml, hrt, hlk, hown, hnm, hts, hK⟩, hR, hS, hb, hH, hl⟩ := id X
  exact lv_pop hx hcc hd (by rw [mx_tr_cat]; exact hv) (kk p e R s m args below meth c H locs cells slots ls X)
theorem mx_dup2 {v u : Value} (hd : decode M.2.2.1 pc = .ok (.dup2, 1)) (hv : v.category = 1) (hu : u.category = 1) (kk : mx_Fr G l M d kc ks Post (pc + 1) L (v :: u :: v :: u :: st) z) : mx_Fr G l M d kc ks Post pc L (v :: u :: st) z := by
  intro p e R s m args below meth c H locs cells slots ls X
  obtain ⟨⟨hx, hcc, hml, hrt, hlk, hown, hnm, hts, hK⟩, hR, hS, hb, hH, hl⟩ := id X
  exact lv_dup2_11 hx hcc hd (by rw [mx_tr_cat]; exact hv) (by rw [mx_tr_cat]; exact hu) (kk p e R s m args below meth c H locs cells slots ls X)
theorem mx_if_eq {x : Int32} {off : Int} {tgt : Nat} (hd : decode M.2.2.1 pc = .ok (.ifCond .eq off, 3)) (ht : (pc : Int) + off = (tgt : Int)) (kt : x = 0 → mx_Fr G l M d kc ks Post tgt L st z) (kf : ¬ x = 0 → mx_Fr G l M d kc ks Post (pc + 3) L st z) : mx_Fr G l M d kc ks Post pc L (.int x :: st) z := by
  intro p e R s m args below meth c H locs cells slots ls X
  obtain ⟨⟨hx, hcc, hml, hrt, hlk, hown, hnm, hts, hK⟩, hR, hS, hb, hH, hl⟩ := id X
  exact lv_if_eq hx hcc hd ht (fun h => kt h p e R s m args below meth c H locs cells slots ls X) (fun h => kf h p e R s m args below meth c H locs cells slots ls X)
theorem mx_if_ne {x : Int32} {off : Int} {tgt : Nat} (hd : decode M.2.2.1 pc = .ok (.ifCond .ne off, 3)) (ht : (pc : Int) + off = (tgt : Int)) (kt : ¬ x = 0 → mx_Fr G l M d kc ks Post tgt L st z) (kf : x = 0 → mx_Fr G l M d kc ks Post (pc + 3) L st z) : mx_Fr G l M d kc ks Post pc L (.int x :: st) z := by
  intro p e R s m args below meth c H locs cells slots ls X
  obtain ⟨⟨hx, hcc, hml, hrt, hlk, hown, hnm, hts, hK⟩, hR, hS, hb, hH, hl⟩ := id X
  exact lv_if_ne hx hcc hd ht (fun h => kt h p e R s m args below meth c H locs cells slots ls X) (fun h => kf h p e R s m args below meth c H locs cells slots ls X)
theorem mx_if_lt {x : Int32} {off : Int} {tgt : Nat} (hd : decode M.2.2.1 pc = .ok (.ifCond .lt off, 3)) (ht : (pc : Int) + off = (tgt : Int)) (kt : x < 0 → mx_Fr G l M d kc ks Post tgt L st z) (kf : ¬ x < 0 → mx_Fr G l M d kc ks Post (pc + 3) L st z) : mx_Fr G l M d kc ks Post pc L (.int x :: st) z := by
  intro p e R s m args below meth c H locs cells slots ls X
  obtain ⟨⟨hx, hcc, hml, hrt, hlk, hown, hnm, hts, hK⟩, hR, hS, hb, hH, hl⟩ := id X
  exact lv_if_lt hx hcc hd ht (fun h => kt h p e R s m args below meth c H locs cells slots ls X) (fun h => kf h p e R s m args below meth c H locs cells slots ls X)
theorem mx_if_ge {x : Int32} {off : Int} {tgt : Nat} (hd : decode M.2.2.1 pc = .ok (.ifCond .ge off, 3)) (ht : (pc : Int) + off = (tgt : Int)) (kt : 0 ≤ x → mx_Fr G l M d kc ks Post tgt L st z) (kf : ¬ 0 ≤ x → mx_Fr G l M d kc ks Post (pc + 3) L st z) : mx_Fr G l M d kc ks Post pc L (.int x :: st) z := by
  intro p e R s m args below meth c H locs cells slots ls X
  obtain ⟨⟨hx, hcc, hml, hrt, hlk, hown, hnm, hts, hK⟩, hR, hS, hb, hH, hl⟩ := id X
  exact lv_if_ge hx hcc hd ht (fun h => kt h p e R s m args below meth c H locs cells slots ls X) (fun h => kf h p e R s m args below meth c H locs cells slots ls X)
theorem mx_if_gt {x : Int32} {off : Int} {tgt : Nat} (hd : decode M.2.2.1 pc = .ok (.ifCond .gt off, 3)) (ht : (pc : Int) + off = (tgt : Int)) (kt : 0 < x → mx_Fr G l M d kc ks Post tgt L st z) (kf : ¬ 0 < x → mx_Fr G l M d kc ks Post (pc + 3) L st z) : mx_Fr G l M d kc ks Post pc L (.int x :: st) z := by
  intro p e R s m args below meth c H locs cells slots ls X
  obtain ⟨⟨hx, hcc, hml, hrt, hlk, hown, hnm, hts, hK⟩, hR, hS, hb, hH, hl⟩ := id X
  exact lv_if_gt hx hcc hd ht (fun h => kt h p e R s m args below meth c H locs cells slots ls X) (fun h => kf h p e R s m args below meth c H locs cells slots ls X)
theorem mx_if_le {x : Int32} {off : Int} {tgt : Nat} (hd : decode M.2.2.1 pc = .ok (.ifCond .le off, 3)) (ht : (pc : Int) + off = (tgt : Int)) (kt : x ≤ 0 → mx_Fr G l M d kc ks Post tgt L st z) (kf : ¬ x ≤ 0 → mx_Fr G l M d kc ks Post (pc + 3) L st z) : mx_Fr G l M d kc ks Post pc L (.int x :: st) z := by
  intro p e R s m args below meth c H locs cells slots ls X
  obtain ⟨⟨hx, hcc, hml, hrt, hlk, hown, hnm, hts, hK⟩, hR, hS, hb, hH, hl⟩ := id X
  exact lv_if_le hx hcc hd ht (fun h => kt h p e R s m args below meth c H locs cells slots ls X) (fun h => kf h p e R s m args below meth c H locs cells slots ls X)
theorem mx_icmp_eq {x y : Int32} {off : Int} {tgt : Nat} (hd : decode M.2.2.1 pc = .ok (.if_icmp .eq off, 3)) (ht : (pc : Int) + off = (tgt : Int)) (kt : x = y → mx_Fr G l M d kc ks Post tgt L st z) (kf : ¬ x = y → mx_Fr G l M d kc ks Post (pc + 3) L st z) : mx_Fr G l M d kc ks Post pc L (.int y :: .int x :: st) z := by
  intro p e R s m args below meth c H locs cells slots ls X
  obtain ⟨⟨hx, hcc, hml, hrt, hlk, hown, hnm, hts, hK⟩, hR, hS, hb, hH, hl⟩ := id X
  exact lv_icmp_eq hx hcc hd ht (fun h => kt h p e R s m args below meth c H locs cells slots ls X) (fun h => kf h p e R s m args below meth c H locs cells slots ls X)
theorem mx_icmp_ne {x y : Int32} {off : Int} {tgt : Nat} (hd : decode M.2.2.1 pc = .ok (.if_icmp .ne off, 3)) (ht : (pc : Int) + off = (tgt : Int)) (kt : ¬ x = y → mx_Fr G l M d kc ks Post tgt L st z) (kf : x = y → mx_Fr G l M d kc ks Post (pc + 3) L st z) : mx_Fr G l M d kc ks Post pc L (.int y :: .int x :: st) z := by
  intro p e R s m args below meth c H locs cells slots ls X
  obtain ⟨⟨hx, hcc, hml, hrt, hlk, hown, hnm, hts, hK⟩, hR, hS, hb, hH, hl⟩ := id X
  exact lv_icmp_ne hx hcc hd ht (fun h => kt h p e R s m args below meth c H locs cells slots ls X) (fun h => kf h p e R s m args below meth c H locs cells slots ls X)
theorem mx_icmp_lt {x y : Int32} {off : Int} {tgt : Nat} (hd : decode M.2.2.1 pc = .ok (.if_icmp .lt off, 3)) (ht : (pc : Int) + off = (tgt : Int)) (kt : x < y → mx_Fr G l M d kc ks Post tgt L st z) (kf : ¬ x < y → mx_Fr G l M d kc ks Post (pc + 3) L st z) : mx_Fr G l M d kc ks Post pc L (.int y :: .int x :: st) z := by
  intro p e R s m args below meth c H locs cells slots ls X
  obtain ⟨⟨hx, hcc, hml, hrt, hlk, hown, hnm, hts, hK⟩, hR, hS, hb, hH, hl⟩ := id X
  exact lv_icmp_lt hx hcc hd ht (fun h => kt h p e R s m args below meth c H locs cells slots ls X) (fun h => kf h p e R s m args below meth c H locs cells slots ls X)
theorem mx_icmp_ge {x y : Int32} {off : Int} {tgt : Nat} (hd : decode M.2.2.1 pc = .ok (.if_icmp .ge off, 3)) (ht : (pc : Int) + off = (tgt : Int)) (kt : y ≤ x → mx_Fr G l M d kc ks Post tgt L st z) (kf : ¬ y ≤ x → mx_Fr G l M d kc ks Post (pc + 3) L st z) : mx_Fr G l M d kc ks Post pc L (.int y :: .int x :: st) z := by
  intro p e R s m args below meth c H locs cells slots ls X
  obtain ⟨⟨hx, hcc, hml, hrt, hlk, hown, hnm, hts, hK⟩, hR, hS, hb, hH, hl⟩ := id X
  exact lv_icmp_ge hx hcc hd ht (fun h => kt h p e R s m args below meth c H locs cells slots ls X) (fun h => kf h p e R s m args below meth c H locs cells slots ls X)
theorem mx_icmp_gt {x y : Int32} {off : Int} {tgt : Nat} (hd : decode M.2.2.1 pc = .ok (.if_icmp .gt off, 3)) (ht : (pc : Int) + off = (tgt : Int)) (kt : y < x → mx_Fr G l M d kc ks Post tgt L st z) (kf : ¬ y < x → mx_Fr G l M d kc ks Post (pc + 3) L st z) : mx_Fr G l M d kc ks Post pc L (.int y :: .int x :: st) z := by
  intro p e R s m args below meth c H locs cells slots ls X
  obtain ⟨⟨hx, hcc, hml, hrt, hlk, hown, hnm, hts, hK⟩, hR, hS, hb, hH, hl⟩ := id X
  exact lv_icmp_gt hx hcc hd ht (fun h => kt h p e R s m args below meth c H locs cells slots ls X) (fun h => kf h p e R s m args below meth c H locs cells slots ls X)
theorem mx_icmp_le {x y : Int32} {off : Int} {tgt : Nat} (hd : decode M.2.2.1 pc = .ok (.if_icmp .le off, 3)) (ht : (pc : Int) + off = (tgt : Int)) (kt : x ≤ y → mx_Fr G l M d kc ks Post tgt L st z) (kf : ¬ x ≤ y → mx_Fr G l M d kc ks Post (pc + 3) L st z) : mx_Fr G l M d kc ks Post pc L (.int y :: .int x :: st) z := by
  intro p e R s m args below meth c H locs cells slots ls X
  obtain ⟨⟨hx, hcc, hml, hrt, hlk, hown, hnm, hts, hK⟩, hR, hS, hb, hH, hl⟩ := id X
  exact lv_icmp_le hx hcc hd ht (fun h => kt h p e R s m args below meth c H locs cells slots ls X) (fun h => kf h p e R s m args below meth c H locs cells slots ls X)
theorem mx_goto {off : Int} {tgt : Nat} (hd : decode M.2.2.1 pc = .ok (.goto off, 3)) (ht : (pc : Int) + off = (tgt : Int)) (kk : mx_Fr G l M d kc ks Post tgt L st z) : mx_Fr G l M d kc ks Post pc L st z := by
  intro p e R s m args below meth c H locs cells slots ls X
  obtain ⟨⟨hx, hcc, hml, hrt, hlk, hown, hnm, hts, hK⟩, hR, hS, hb, hH, hl⟩ := id X
  exact lv_goto hx hcc hd ht (kk p e R s m args below meth c H locs cells slots ls X)
theorem mx_ifnull {x : Nat} {off : Int} (hd : decode M.2.2.1 pc = .ok (.ifnull off, 3)) (kk : mx_Fr G l M d kc ks Post (pc + 3) L st z) : mx_Fr G l M d kc ks Post pc L (.ref x :: st) z := by
  intro p e R s m args below meth c H locs cells slots ls X
  obtain ⟨⟨hx, hcc, hml, hrt, hlk, hown, hnm, hts, hK⟩, hR, hS, hb, hH, hl⟩ := id X
  exact lv_ifnull hx hcc hd (kk p e R s m args below meth c H locs cells slots ls X)
theorem mx_ifnullN {off : Int} {tgt : Nat} (hd : decode M.2.2.1 pc = .ok (.ifnull off, 3)) (ht : (pc : Int) + off = (tgt : Int)) (kk : mx_Fr G l M d kc ks Post tgt L st z) : mx_Fr G l M d kc ks Post pc L (.null :: st) z := by
  intro p e R s m args below meth c H locs cells slots ls X
  obtain ⟨⟨hx, hcc, hml, hrt, hlk, hown, hnm, hts, hK⟩, hR, hS, hb, hH, hl⟩ := id X
  exact lv_ifnullN hx hcc hd ht (kk p e R s m args below meth c H locs cells slots ls X)
theorem mx_ifnonnull {x : Nat} {off : Int} {tgt : Nat} (hd : decode M.2.2.1 pc = .ok (.ifnonnull off, 3)) (ht : (pc : Int) + off = (tgt : Int)) (kk : mx_Fr G l M d kc ks Post tgt L st z) : mx_Fr G l M d kc ks Post pc L (.ref x :: st) z := by
  intro p e R s m args below meth c H locs cells slots ls X
  obtain ⟨⟨hx, hcc, hml, hrt, hlk, hown, hnm, hts, hK⟩, hR, hS, hb, hH, hl⟩ := id X
  exact lv_ifnonnull hx hcc hd ht (kk p e R s m args below meth c H locs cells slots ls X)
theorem mx_ifnonnullN {off : Int} (hd : decode M.2.2.1 pc = .ok (.ifnonnull off, 3)) (kk : mx_Fr G l M d kc ks Post (pc + 3) L st z) : mx_Fr G l M d kc ks Post pc L (.null :: st) z := by
  intro p e R s m args below meth c H locs cells slots ls X
  obtain ⟨⟨hx, hcc, hml, hrt, hlk, hown, hnm, hts, hK⟩, hR, hS, hb, hH, hl⟩ := id X
  exact lv_ifnonnullN hx hcc hd (kk p e R s m args below meth c H locs cells slots ls X)
theorem mx_tableOut {dflt lo hi : Int} {offs : Array Int} {len : Nat} {x : Int32} {tgt : Nat} (hd : decode M.2.2.1 pc = .ok (.tableswitch dflt lo hi offs, len)) (h : x.toInt < lo ∨ hi < x.toInt) (ht : (pc : Int) + dflt = (tgt : Int)) (kk : mx_Fr G l M d kc ks Post tgt L st z) : mx_Fr G l M d kc ks Post pc L (.int x :: st) z := by
  intro p e R s m args below meth c H locs cells slots ls X
  obtain ⟨⟨hx, hcc, hml, hrt, hlk, hown, hnm, hts, hK⟩, hR, hS, hb, hH, hl⟩ := id X
  exact lv_tableOut hx hcc hd h ht (kk p e R s m args below meth c H locs cells slots ls X)
theorem mx_tableIn {dflt lo hi off : Int} {offs : Array Int} {len : Nat} {x : Int32} {tgt : Nat} (hd : decode M.2.2.1 pc = .ok (.tableswitch dflt lo hi offs, len)) (h1 : ¬ x.toInt < lo) (h2 : ¬ hi < x.toInt) (ho : offs[(x.toInt - lo).toNat]? = some off) (ht : (pc : Int) + off = (tgt : Int)) (kk : mx_Fr G l M d kc ks Post tgt L st z) : mx_Fr G l M d kc ks Post pc L (.int x :: st) z := by
  intro p e R s m args below meth c H locs cells slots ls X
  obtain ⟨⟨hx, hcc, hml, hrt, hlk, hown, hnm, hts, hK⟩, hR, hS, hb, hH, hl⟩ := id X
  exact lv_tableIn hx hcc hd h1 h2 ho ht (kk p e R s m args below meth c H locs cells slots ls X)
theorem mx_lookup {dflt off : Int} {ps : Array (Int × Int)} {len : Nat} {x : Int32} {tgt : Nat} (hd : decode M.2.2.1 pc = .ok (.lookupswitch dflt ps, len)) (hp : (ps.toList.zip (ps.toList.drop 1)).all (fun (a, next) => a.1 < next.1) = true) (ho : Op.lookupswitch.offset ps.toList dflt x.toInt = off) (ht : (pc : Int) + off = (tgt : Int)) (kk : mx_Fr G l M d kc ks Post tgt L st z) : mx_Fr G l M d kc ks Post pc L (.int x :: st) z := by
  intro p e R s m args below meth c H locs cells slots ls X
  obtain ⟨⟨hx, hcc, hml, hrt, hlk, hown, hnm, hts, hK⟩, hR, hS, hb, hH, hl⟩ := id X
  exact lv_lookup hx hcc hd hp ho ht (kk p e R s m args below meth c H locs cells slots ls X)
theorem mx_ireturn {v : Int32} (hd : decode M.2.2.1 pc = .ok (.ireturn, 1)) (hr : M.2.2.2.2 = some .int) (hp : Post (some (.int v)) z) : mx_Fr G l M d kc ks Post pc L [.int v] z := by
  intro p e R s m args below meth c H locs cells slots ls X
  obtain ⟨⟨hx, hcc, hml, hrt, hlk, hown, hnm, hts, hK⟩, hR, hS, hb, hH, hl⟩ := id X
  refine W.widen (k := R.cells) (n := R.slots) (by omega) (by omega) ?_
  exact W.iret hx hcc (hrt.trans hr) (fun t ht _ => ⟨⟨some (.int v), z, rfl, hp, by rw [ht]; exact hH⟩, mx_S_F hS ht⟩) hS.2.2 hd hlk
theorem mx_zreturn {v : Int32} {ty : FieldType} (hd : decode M.2.2.1 pc = .ok (.ireturn, 1)) (hr : M.2.2.2.2 = some ty) (hn : narrow ty (.int v) = .int v) (hp : Post (some (.int v)) z) : mx_Fr G l M d kc ks Post pc L [.int v] z := by
  intro p e R s m args below meth c H locs cells slots ls X
  obtain ⟨⟨hx, hcc, hml, hrt, hlk, hown, hnm, hts, hK⟩, hR, hS, hb, hH, hl⟩ := id X
  refine W.widen (k := R.cells) (n := R.slots) (by omega) (by omega) ?_
  exact W.zret hx hcc (hrt.trans hr) hn (fun t ht _ => ⟨⟨some (.int v), z, rfl, hp, by rw [ht]; exact hH⟩, mx_S_F hS ht⟩) hS.2.2 hd hlk
theorem mx_lreturn {v : Int64} (hd : decode M.2.2.1 pc = .ok (.lreturn, 1)) (hr : M.2.2.2.2 = some .long) (hp : Post (some (.long v)) z) : mx_Fr G l M d kc ks Post pc L [.long v] z := by
  intro p e R s m args below meth c H locs cells slots ls X
  obtain ⟨⟨hx, hcc, hml, hrt, hlk, hown, hnm, hts, hK⟩, hR, hS, hb, hH, hl⟩ := id X
  refine W.widen (k := R.cells) (n := R.slots) (by omega) (by omega) ?_
  exact W.lret hx hcc (hrt.trans hr) (fun t ht _ => ⟨⟨some (.long v), z, rfl, hp, by rw [ht]; exact hH⟩, mx_S_F hS ht⟩) hS.2.2 hd hlk
theorem mx_return  (hd : decode M.2.2.1 pc = .ok (.return_, 1)) (hr : M.2.2.2.2 = none) (hp : Post none z) : mx_Fr G l M d kc ks Post pc L [] z := by
  intro p e R s m args below meth c H locs cells slots ls X
  obtain ⟨⟨hx, hcc, hml, hrt, hlk, hown, hnm, hts, hK⟩, hR, hS, hb, hH, hl⟩ := id X
  refine W.widen (k := R.cells) (n := R.slots) (by omega) (by omega) ?_
  exact W.vret hx hcc (hrt.trans hr) (fun t ht _ => ⟨⟨none, z, rfl, hp, by rw [ht]; exact hH⟩, mx_S_F hS ht⟩) hS.2.2 hd hlk
theorem mx_areturn {a : Nat} {n : String} (hd : decode M.2.2.1 pc = .ok (.areturn, 1)) (hr : M.2.2.2.2 = some (.object n)) (hp : Post (some (.ref a)) z) : mx_Fr G l M d kc ks Post pc L [.ref a] z := by
  intro p e R s m args below meth c H locs cells slots ls X
  obtain ⟨⟨hx, hcc, hml, hrt, hlk, hown, hnm, hts, hK⟩, hR, hS, hb, hH, hl⟩ := id X
  refine W.widen (k := R.cells) (n := R.slots) (by omega) (by omega) ?_
  exact W.aret hx hcc (hrt.trans hr) (Or.inl ⟨n, rfl⟩) (Or.inr ⟨_, rfl⟩) (fun t ht _ => ⟨⟨some (.ref a), z, rfl, hp, by rw [ht]; exact hH⟩, mx_S_F hS ht⟩) hS.2.2 hd hlk
theorem mx_areturnN {n : String} (hd : decode M.2.2.1 pc = .ok (.areturn, 1)) (hr : M.2.2.2.2 = some (.object n)) (hp : Post (some .null) z) : mx_Fr G l M d kc ks Post pc L [.null] z := by
  intro p e R s m args below meth c H locs cells slots ls X
  obtain ⟨⟨hx, hcc, hml, hrt, hlk, hown, hnm, hts, hK⟩, hR, hS, hb, hH, hl⟩ := id X
  refine W.widen (k := R.cells) (n := R.slots) (by omega) (by omega) ?_
  exact W.aret hx hcc (hrt.trans hr) (Or.inl ⟨n, rfl⟩) (Or.inl rfl) (fun t ht _ => ⟨⟨some .null, z, rfl, hp, by rw [ht]; exact hH⟩, mx_S_F hS ht⟩) hS.2.2 hd hlk
end MX
end
section
section MH
variable {G : mG} {l : Launch} {M : mM} {d kc ks : Nat} {Post : Option Value → mS → Prop} {pc : Nat} {L st : List Value} {e : mE} {mi : mI} {mj : mJ}
/-- cell i is of kind c and length n -/
def mx_is (e : mE) (i c n : Nat) : Prop := i < e.1 ∧ e.2.1 i = (c, n)
def mx_up (m : mI) (a k : Nat) (x : Int32) : mI := fun b j => if b = a ∧ j = k then x else m b j
def mx_ul (m : mJ) (a k : Nat) (x : Int64) : mJ := fun b j => if b = a ∧ j = k then x else m b j
theorem mx_up_self (m : mI) (a k : Nat) (x : Int32) : mx_up m a k x a k = x := by simp [mx_up]
theorem mx_up_ne (m : mI) {a k b j : Nat} (x : Int32) (h : b = a → j ≠ k) : mx_up m a k x b j = m b j := by
  unfold mx_up
  rw [if_neg (fun q => h q.1 q.2)]
theorem mx_adl {i : Nat} (h : i < 100000) : mx_ad G i = G.1 + i := if_pos h
theorem mx_isl {i c n : Nat} {H : Heap} (h : mx_is e i c n) (hH : mx_H G (e, mi, mj) H) : mx_ad G i = G.1 + i := mx_adl (Nat.lt_of_lt_of_le h.1 hH.2.1)
/-- field k of class c by the pool entry idx of the class own -/
def mx_fld (own : String) (idx c k : Nat) : Prop := ∃ (C : String) (T : u_T) (N : Nat), vwCl[c]? = some (C, T, N) ∧ k < N ∧ Cond.fieldLink own idx C (T k).2.1 (T k).2.2.1 ∈ mx_TB ∧ (T k).1 = C ∧ (∀ w ∈ u_ws C T N, w ∈ mx_TB) ∧ (∀ k, k < N → parseFieldDescriptor (T k).2.2.1 = some (mx_ty c k)) ∧ (∀ a, a < N → ∀ b, b < N → a ≠ b → (T a).2.1 ≠ (T b).2.1)
theorem mx_fld_c {own : String} {idx c k : Nat} (h : mx_fld own idx c k) : c < 13 := by
  obtain ⟨C, T, N, h1, -⟩ := h
  exact (List.getElem?_eq_some_iff.mp h1).1
theorem mx_cellO {c i n : Nat} {H : Heap} (h : mx_is e i c n) (hc : c < 13) (hH : mx_H G (e, mi, mj) H) : mx_obj G (e, mi, mj) c i H := by
  have h1 := hH.2.2 i h.1
  unfold mx_cell at h1
  have e0 : ((e, mi, mj) : mS).1.2.1 i = (c, n) := h.2
  rw [e0] at h1
  simp only [show ¬ c = 100 by omega, show ¬ c = 101 by omega, show ¬ c = 102 by omega, show ¬ c = 103 by omega, show ¬ c = 104 by omega, show ¬ c = 999 by omega, if_false] at h1
  exact h1
theorem mx_cellI {i n : Nat} {H : Heap} (h : mx_is e i 100 n) (hH : mx_H G (e, mi, mj) H) : H[G.1 + i]? = some (arrV (G.2.2.1 0) n (fun j => .int (mi i j))) := by
  have h1 := hH.2.2 i h.1
  unfold mx_cell at h1
  have e0 : ((e, mi, mj) : mS).1.2.1 i = (100, n) := h.2
  rw [e0] at h1
  simpa using h1
theorem mx_cellJ {i n : Nat} {H : Heap} (h : mx_is e i 101 n) (hH : mx_H G (e, mi, mj) H) : H[G.1 + i]? = some (arrV (G.2.2.1 1) n (fun j => .long (mj i j))) := by
  have h1 := hH.2.2 i h.1
  unfold mx_cell at h1
  have e0 : ((e, mi, mj) : mS).1.2.1 i = (101, n) := h.2
  rw [e0] at h1
  simpa using h1
theorem mx_cellZ {i n : Nat} {H : Heap} (h : mx_is e i 102 n) (hH : mx_H G (e, mi, mj) H) : H[G.1 + i]? = some (arrV (G.2.2.1 2) n (fun j => .int (mi i j))) := by
  have h1 := hH.2.2 i h.1
  unfold mx_cell at h1
  have e0 : ((e, mi, mj) : mS).1.2.1 i = (102, n) := h.2
  rw [e0] at h1
  simpa using h1
theorem mx_cellN {i n : Nat} {H : Heap} (h : mx_is e i 103 n) (hH : mx_H G (e, mi, mj) H) : H[G.1 + i]? = some (arrV (G.2.2.1 3) n (fun j => mx_rv G (e.2.2 i j))) := by
  have h1 := hH.2.2 i h.1
  unfold mx_cell at h1
  have e0 : ((e, mi, mj) : mS).1.2.1 i = (103, n) := h.2
  rw [e0] at h1
  simpa using h1
theorem mx_cellP {i n : Nat} {H : Heap} (h : mx_is e i 104 n) (hH : mx_H G (e, mi, mj) H) : H[G.1 + i]? = some (arrV (G.2.2.1 4) n (fun j => mx_rv G (e.2.2 i j))) := by
  have h1 := hH.2.2 i h.1
  unfold mx_cell at h1
  have e0 : ((e, mi, mj) : mS).1.2.1 i = (104, n) := h.2
  rw [e0] at h1
  simpa using h1
/-- a heap that differs in one cell -/
theorem mx_H_one {i : Nat} {z z' : mS} {H H1 : Heap} (hH : mx_H G z H) (hz : H1.size = H.size) (ho : ∀ q, q ≠ G.1 + i → H1[q]? = H[q]?) (hn : z'.1 = z.1) (hsame : ∀ j, j ≠ i → (∀ k, z'.2.1 j k = z.2.1 j k) ∧ (∀ k, z'.2.2 j k = z.2.2 j k)) (hi : i < z.1.1 → mx_cell G z' i H1) : mx_H G z' H1 := by
  obtain ⟨e', mi', mj'⟩ := z'
  obtain ⟨e, mi, mj⟩ := z
  dsimp only at hn hsame hi
  subst hn
  refine ⟨hz.trans hH.1, hH.2.1, fun j hj => ?_⟩
  by_cases hji : j = i
  · subst hji; exact hi hj
  · have hc := hH.2.2 j hj
    have hq : H1[G.1 + j]? = H[G.1 + j]? := ho _ (by omega)
    have f1 : (fun k => mi' j k) = fun k => mi j k := funext (hsame j hji).1
    have f2 : (fun k => mj' j k) = fun k => mj j k := funext (hsame j hji).2
    unfold mx_cell at hc ⊢
    dsimp only at hc ⊢
    rw [hq]
    have f3 : (fun k => Value.int (mi' j k)) = fun k => Value.int (mi j k) := funext fun k => by rw [(hsame j hji).1 k]
    have f4 : (fun k => Value.long (mj' j k)) = fun k => Value.long (mj j k) := funext fun k => by rw [(hsame j hji).2 k]
    rw [f3, f4]
    have f5 : mx_obj G (e', mi', mj') (e'.2.1 j).1 j H1 ↔ mx_obj G (e', mi, mj) (e'.2.1 j).1 j H := by
      have f6 : ∀ c, (fun k => mx_fv G (e', mi', mj') (mx_ty c k) j k) = fun k => mx_fv G (e', mi, mj) (mx_ty c k) j k := by
        intro c
        funext k
        unfold mx_fv
        dsimp only
        rw [(hsame j hji).1 k, (hsame j hji).2 k]
      unfold mx_obj
      rw [f6]
      exact ⟨fun ⟨r, h1, h2⟩ => ⟨r, h1, h2.kept hq.symm⟩, fun ⟨r, h1, h2⟩ => ⟨r, h1, h2.kept hq⟩⟩
    rw [f5]
    exact hc
theorem mx_get {own : String} {idx c k i n : Nat} {v : Value} (hd : decode M.2.2.1 pc = .ok (.getfield idx, 3)) (hf : mx_fld own idx c k) (hM : M.1 = own) (ho : mx_is e i c n) (hv : mx_tr G v = mx_fv G (e, mi, mj) (mx_ty c k) i k)
    (kk : mx_Fr G l M d kc ks Post (pc + 3) L (v :: st) (e, mi, mj)) : mx_Fr G l M d kc ks Post pc L (.ref i :: st) (e, mi, mj) := by
  intro p en R s m args below meth c' H locs cells slots ls X
  obtain ⟨⟨hx, hcc, hml, hrt, hlk, hown, hnm, hts, hK⟩, hR, hS, hb, hH, hl⟩ := id X
  have hc13 := mx_fld_c hf
  obtain ⟨C, T, N, hcl, hk, hlink, hT1, hlay, hty, hnn⟩ := hf
  obtain ⟨r, h1, cell, q1, q2, q3, q4⟩ := mx_cellO ho hc13 hH
  have hr : r = (C, T, N) := Option.some.inj (h1.symm.trans hcl)
  subst hr
  obtain ⟨hSl, hfc, kC, hkC, hkind⟩ := hK.1 c _ hcl
  obtain ⟨cf, kf, fi, f, hi, hsl⟩ := hSl k hk
  have e1 : (mx_tr G (.ref i)) = .ref (G.1 + i) := by show Value.ref (mx_ad G i) = _; rw [mx_isl ho hH]
  show W p l en R s m args below meth c' H locs cells slots _ (F0 m pc ls (mx_tr G (.ref i) :: st.map (mx_tr G)))
  rw [e1]
  rw [hT1] at hi
  refine W.getf (v := mx_tr G v) hx hcc (hM ▸ hown) (hts _ hlink) hi (u_facts hfc hkC (u_lays (T := T) (N := N) hts hlay hk) (hT1 ▸ hi)).1 q1 (by rw [q3]; exact fun h => by cases h) ?_ rfl rfl hd (kk p en R s m args below meth c' H locs cells slots ls X)
  rw [hsl, q4 k hk, hv]
theorem mx_getI {own : String} {idx c k i n : Nat} (hd : decode M.2.2.1 pc = .ok (.getfield idx, 3)) (hf : mx_fld own idx c k) (hM : M.1 = own) (ht : mx_ty c k = .int ∨ mx_ty c k = .boolean) (ho : mx_is e i c n)
    (kk : mx_Fr G l M d kc ks Post (pc + 3) L (.int (mi i k) :: st) (e, mi, mj)) : mx_Fr G l M d kc ks Post pc L (.ref i :: st) (e, mi, mj) :=
  mx_get hd hf hM ho (by rcases ht with h | h <;> (rw [h]; rfl)) kk
theorem mx_getJ {own : String} {idx c k i n : Nat} (hd : decode M.2.2.1 pc = .ok (.getfield idx, 3)) (hf : mx_fld own idx c k) (hM : M.1 = own) (ht : mx_ty c k = .long) (ho : mx_is e i c n)
    (kk : mx_Fr G l M d kc ks Post (pc + 3) L (.long (mj i k) :: st) (e, mi, mj)) : mx_Fr G l M d kc ks Post pc L (.ref i :: st) (e, mi, mj) :=
  mx_get hd hf hM ho (by rw [ht]; rfl) kk
def mx_isR (ty : FieldType) : Bool := match ty with
  | .object _ => true
  | .array _ => true
  | _ => false
theorem mx_fvR {ty : FieldType} {z : mS} {i k : Nat} (h : mx_isR ty = true) : mx_fv G z ty i k = mx_rv G (z.1.2.2 i k) := by
  cases ty <;> first | rfl | cases h
theorem mx_getR {own : String} {idx c k i n a : Nat} (hd : decode M.2.2.1 pc = .ok (.getfield idx, 3)) (hf : mx_fld own idx c k) (hM : M.1 = own) (ht : mx_isR (mx_ty c k) = true) (ho : mx_is e i c n) (hr : e.2.2 i k = some a)
    (kk : mx_Fr G l M d kc ks Post (pc + 3) L (.ref a :: st) (e, mi, mj)) : mx_Fr G l M d kc ks Post pc L (.ref i :: st) (e, mi, mj) :=
  mx_get hd hf hM ho (by rw [mx_fvR ht]; show _ = mx_rv G (e.2.2 i k); rw [hr]; rfl) kk
theorem mx_iaload {i : Int32} {a n : Nat} (hd : decode M.2.2.1 pc = .ok (.iaload, 1)) (ho : mx_is e a 100 n) (hin : vp_in i n)
    (kk : mx_Fr G l M d kc ks Post (pc + 1) L (.int (mi a i.toNatClampNeg) :: st) (e, mi, mj)) : mx_Fr G l M d kc ks Post pc L (.int i :: .ref a :: st) (e, mi, mj) := by
  intro p en R s m args below meth c' H locs cells slots ls X
  obtain ⟨⟨hx, hcc, hml, hrt, hlk, hown, hnm, hts, hK⟩, hR, hS, hb, hH, hl⟩ := id X
  show W p l en R s m args below meth c' H locs cells slots _ (F0 m pc ls (.int i :: .ref (mx_ad G a) :: st.map (mx_tr G)))
  rw [mx_isl ho hH]
  have hlt : i.toNatClampNeg < n := Nat.not_le.mp fun q => hin (Or.inr q)
  exact W.iald (v := .int (mi a i.toNatClampNeg)) hx hcc (mx_cellI ho hH) ((hK.2 0 _ rfl).1 n _) (fun q => by cases q) (by rw [arrV_size]; exact hin) (by rw [arrV_read _ _ hlt]) rfl rfl hd (kk p en R s m args below meth c' H locs cells slots ls X)
theorem mx_laload {i : Int32} {a n : Nat} (hd : decode M.2.2.1 pc = .ok (.laload, 1)) (ho : mx_is e a 101 n) (hin : vp_in i n)
    (kk : mx_Fr G l M d kc ks Post (pc + 1) L (.long (mj a i.toNatClampNeg) :: st) (e, mi, mj)) : mx_Fr G l M d kc ks Post pc L (.int i :: .ref a :: st) (e, mi, mj) := by
  intro p en R s m args below meth c' H locs cells slots ls X
  obtain ⟨⟨hx, hcc, hml, hrt, hlk, hown, hnm, hts, hK⟩, hR, hS, hb, hH, hl⟩ := id X
  show W p l en R s m args below meth c' H locs cells slots _ (F0 m pc ls (.int i :: .ref (mx_ad G a) :: st.map (mx_tr G)))
  rw [mx_isl ho hH]
  have hlt : i.toNatClampNeg < n := Nat.not_le.mp fun q => hin (Or.inr q)
  exact W.lald (v := .long (mj a i.toNatClampNeg)) hx hcc (mx_cellJ ho hH) ((hK.2 1 _ rfl).1 n _) (fun q => by cases q) (by rw [arrV_size]; exact hin) (by rw [arrV_read _ _ hlt]) rfl rfl hd (kk p en R s m args below meth c' H locs cells slots ls X)
theorem mx_baload {i : Int32} {a n : Nat} (hd : decode M.2.2.1 pc = .ok (.baload, 1)) (ho : mx_is e a 102 n) (hin : vp_in i n)
    (kk : mx_Fr G l M d kc ks Post (pc + 1) L (.int (mi a i.toNatClampNeg) :: st) (e, mi, mj)) : mx_Fr G l M d kc ks Post pc L (.int i :: .ref a :: st) (e, mi, mj) := by
  intro p en R s m args below meth c' H locs cells slots ls X
  obtain ⟨⟨hx, hcc, hml, hrt, hlk, hown, hnm, hts, hK⟩, hR, hS, hb, hH, hl⟩ := id X
  show W p l en R s m args below meth c' H locs cells slots _ (F0 m pc ls (.int i :: .ref (mx_ad G a) :: st.map (mx_tr G)))
  rw [mx_isl ho hH]
  have hlt : i.toNatClampNeg < n := Nat.not_le.mp fun q => hin (Or.inr q)
  exact W.zald (v := .int (mi a i.toNatClampNeg)) hx hcc (mx_cellZ ho hH) ((hK.2 2 _ rfl).1 n _) (fun q => by cases q) (by rw [arrV_size]; exact hin) (by rw [arrV_read _ _ hlt]) rfl rfl hd (kk p en R s m args below meth c' H locs cells slots ls X)
theorem mx_aaload {i : Int32} {a n k b : Nat} (hd : decode M.2.2.1 pc = .ok (.aaload, 1)) (ho : mx_is e a k n) (hk : k = 103 ∨ k = 104) (hin : vp_in i n) (hr : e.2.2 a i.toNatClampNeg = some b)
    (kk : mx_Fr G l M d kc ks Post (pc + 1) L (.ref b :: st) (e, mi, mj)) : mx_Fr G l M d kc ks Post pc L (.int i :: .ref a :: st) (e, mi, mj) := by
  intro p en R s m args below meth c' H locs cells slots ls X
  obtain ⟨⟨hx, hcc, hml, hrt, hlk, hown, hnm, hts, hK⟩, hR, hS, hb, hH, hl⟩ := id X
  show W p l en R s m args below meth c' H locs cells slots _ (F0 m pc ls (.int i :: .ref (mx_ad G a) :: st.map (mx_tr G)))
  rw [mx_isl ho hH]
  have hlt : i.toNatClampNeg < n := Nat.not_le.mp fun q => hin (Or.inr q)
  have hv : mx_rv G (e.2.2 a i.toNatClampNeg) = mx_tr G (.ref b) := by rw [hr]; rfl
  rcases hk with rfl | rfl
  · exact W.aald (v := mx_tr G (.ref b)) hx hcc (mx_cellN ho hH) ((hK.2 3 _ rfl).1 n _) rfl (fun q => by cases q) (by rw [arrV_size]; exact hin) (by rw [arrV_read _ _ hlt, hv]) rfl rfl hd (kk p en R s m args below meth c' H locs cells slots ls X)
  · exact W.aald (v := mx_tr G (.ref b)) hx hcc (mx_cellP ho hH) ((hK.2 4 _ rfl).1 n _) rfl (fun q => by cases q) (by rw [arrV_size]; exact hin) (by rw [arrV_read _ _ hlt, hv]) rfl rfl hd (kk p en R s m args below meth c' H locs cells slots ls X)
theorem mx_alen {a n k : Nat} (v : Int32) (hd : decode M.2.2.1 pc = .ok (.arraylength, 1)) (ho : mx_is e a k n) (hk : k = 100 ∨ k = 101) (hv : n.toInt32 = v)
    (kk : mx_Fr G l M d kc ks Post (pc + 1) L (.int v :: st) (e, mi, mj)) : mx_Fr G l M d kc ks Post pc L (.ref a :: st) (e, mi, mj) := by
  intro p en R s m args below meth c' H locs cells slots ls X
  obtain ⟨⟨hx, hcc, hml, hrt, hlk, hown, hnm, hts, hK⟩, hR, hS, hb, hH, hl⟩ := id X
  show W p l en R s m args below meth c' H locs cells slots _ (F0 m pc ls (.ref (mx_ad G a) :: st.map (mx_tr G)))
  rw [mx_isl ho hH]
  rcases hk with rfl | rfl
  · exact W.alen (n := v) hx hcc (mx_cellI ho hH) ((hK.2 0 _ rfl).1 n _) (by rw [arrV_size]; exact hv) rfl rfl hd (kk p en R s m args below meth c' H locs cells slots ls X)
  · exact W.alen (n := v) hx hcc (mx_cellJ ho hH) ((hK.2 1 _ rfl).1 n _) (by rw [arrV_size]; exact hv) rfl rfl hd (kk p en R s m args below meth c' H locs cells slots ls X)
theorem mx_S_put {s : State} {H H1 : Heap} {locs : List Loc} {i k : Nat} (hS : va_S (mx_fr G) s.heap H locs) (hz : H1.size = H.size) (ho : ∀ q, q ≠ G.1 + i → H1[q]? = H[q]?) : va_S (mx_fr G) s.heap H1 (locs ++ [⟨G.1 + i, k⟩]) :=
  hS.put hz ho (Nat.le_add_right _ _)
theorem mx_iastore {i x : Int32} {a n : Nat} (hd : decode M.2.2.1 pc = .ok (.iastore, 1)) (ho : mx_is e a 100 n) (hin : vp_in i n)
    (kk : mx_Fr G l M d kc ks Post (pc + 1) L st (e, mx_up mi a i.toNatClampNeg x, mj)) : mx_Fr G l M d kc ks Post pc L (.int x :: .int i :: .ref a :: st) (e, mi, mj) := by
  intro p en R s m args below meth c' H locs cells slots ls X
  obtain ⟨⟨hx, hcc, hml, hrt, hlk, hown, hnm, hts, hK⟩, hR, hS, hb, hH, hl⟩ := id X
  show W p l en R s m args below meth c' H locs cells slots _ (F0 m pc ls (.int x :: .int i :: .ref (mx_ad G a) :: st.map (mx_tr G)))
  rw [mx_isl ho hH]
  refine W.iast hx hcc (mx_cellI ho hH) ((hK.2 0 _ rfl).1 n _) (fun q => by cases q) (by rw [arrV_size]; exact hin) rfl rfl hd fun H1 e1 hz oq => ?_
  refine kk p en R s m args below meth c' H1 _ cells slots ls ⟨X.1, hR, mx_S_put hS hz oq, hb, ?_, hl⟩
  refine mx_H_one (i := a) hH hz oq rfl (fun j hj => ⟨fun k => mx_up_ne _ _ (fun q => absurd q hj), fun k => rfl⟩) (fun _ => ?_)
  unfold mx_cell
  dsimp only
  rw [ho.2]
  simp only [if_true]
  rw [e1, arrV_store]
  congr 2
  funext j
  unfold updV mx_up
  by_cases hj : j = i.toNatClampNeg
  · simp [hj]
  · simp [hj]
theorem mx_bastore {i x : Int32} {a n : Nat} (hd : decode M.2.2.1 pc = .ok (.bastore, 1)) (ho : mx_is e a 102 n) (hin : vp_in i n) (hx0 : x = 0 ∨ x = 1)
    (kk : mx_Fr G l M d kc ks Post (pc + 1) L st (e, mx_up mi a i.toNatClampNeg x, mj)) : mx_Fr G l M d kc ks Post pc L (.int x :: .int i :: .ref a :: st) (e, mi, mj) := by
  intro p en R s m args below meth c' H locs cells slots ls X
  obtain ⟨⟨hx, hcc, hml, hrt, hlk, hown, hnm, hts, hK⟩, hR, hS, hb, hH, hl⟩ := id X
  show W p l en R s m args below meth c' H locs cells slots _ (F0 m pc ls (.int x :: .int i :: .ref (mx_ad G a) :: st.map (mx_tr G)))
  rw [mx_isl ho hH]
  refine W.zast hx hcc (mx_cellZ ho hH) ((hK.2 2 _ rfl).1 n _) (fun q => by cases q) (by rw [arrV_size]; exact hin) rfl rfl hd fun H1 e1 hz oq => ?_
  refine kk p en R s m args below meth c' H1 _ cells slots ls ⟨X.1, hR, mx_S_put hS hz oq, hb, ?_, hl⟩
  refine mx_H_one (i := a) hH hz oq rfl (fun j hj => ⟨fun k => mx_up_ne _ _ (fun q => absurd q hj), fun k => rfl⟩) (fun _ => ?_)
  unfold mx_cell
  dsimp only
  rw [ho.2]
  simp only [show ¬ (102 = 100) by decide, show ¬ (102 = 101) by decide, if_true, if_false]
  rw [e1, arrV_store]
  congr 2
  funext j
  unfold updV mx_up
  by_cases hj : j = i.toNatClampNeg
  · rcases hx0 with rfl | rfl <;> simp [hj] <;> decide
  · simp [hj]
theorem mx_lastore {i : Int32} {x : Int64} {a n : Nat} (hd : decode M.2.2.1 pc = .ok (.lastore, 1)) (ho : mx_is e a 101 n) (hin : vp_in i n)
    (kk : mx_Fr G l M d kc ks Post (pc + 1) L st (e, mi, mx_ul mj a i.toNatClampNeg x)) : mx_Fr G l M d kc ks Post pc L (.long x :: .int i :: .ref a :: st) (e, mi, mj) := by
  intro p en R s m args below meth c' H locs cells slots ls X
  obtain ⟨⟨hx, hcc, hml, hrt, hlk, hown, hnm, hts, hK⟩, hR, hS, hb, hH, hl⟩ := id X
  show W p l en R s m args below meth c' H locs cells slots _ (F0 m pc ls (.long x :: .int i :: .ref (mx_ad G a) :: st.map (mx_tr G)))
  rw [mx_isl ho hH]
  refine W.last hx hcc (mx_cellJ ho hH) ((hK.2 1 _ rfl).1 n _) (fun q => by cases q) (by rw [arrV_size]; exact hin) rfl rfl hd fun H1 e1 hz oq => ?_
  refine kk p en R s m args below meth c' H1 _ cells slots ls ⟨X.1, hR, mx_S_put hS hz oq, hb, ?_, hl⟩
  refine mx_H_one (i := a) hH hz oq rfl (fun j hj => ⟨fun k => rfl, fun k => by show mx_ul mj a _ x j k = _; unfold mx_ul; rw [if_neg (fun q => hj q.1)]⟩) (fun _ => ?_)
  unfold mx_cell
  dsimp only
  rw [ho.2]
  simp only [show ¬ (101 = 100) by decide, if_true, if_false]
  rw [e1, arrV_store]
  congr 2
  funext j
  unfold updV mx_ul
  by_cases hj : j = i.toNatClampNeg
  · simp [hj]
  · simp [hj]
end MH
end
section
section MC
variable {G : mG} {l : Launch} {M : mM} {d kc ks : Nat} {Post : Option Value → mS → Prop} {pc : Nat} {L st : List Value} {e : mE} {mi : mI} {mj : mJ}
/-- a field that is not final -/
def mx_nf (c k : Nat) : Prop := ∃ r : vw_C, vwCl[c]? = some r ∧ (r.2.1 k).2.2.2 = false
theorem mx_put {own : String} {idx c k i n : Nat} {v : Value} {mi' : mI} {mj' : mJ} (hd : decode M.2.2.1 pc = .ok (.putfield idx, 3)) (hf : mx_fld own idx c k) (hM : M.1 = own) (hnf : mx_nf c k) (ho : mx_is e i c n)
    (hn : narrow (mx_ty c k) (mx_tr G v) = mx_tr G v) (hfit : fits (mx_ty c k) (mx_tr G v) = true)
    (hsame : ∀ j, j ≠ i → (∀ k, mi' j k = mi j k) ∧ (∀ k, mj' j k = mj j k)) (hV : ∀ j, updV (fun q => mx_fv G (e, mi, mj) (mx_ty c q) i q) k (mx_tr G v) j = mx_fv G (e, mi', mj') (mx_ty c j) i j)
    (kk : mx_Fr G l M d kc ks Post (pc + 3) L st (e, mi', mj')) : mx_Fr G l M d kc ks Post pc L (v :: .ref i :: st) (e, mi, mj) := by
  intro p en R s m args below meth c' H locs cells slots ls X
  obtain ⟨⟨hx, hcc, hml, hrt, hlk, hown, hnm, hts, hK⟩, hR, hS, hb, hH, hl⟩ := id X
  have hc13 := mx_fld_c hf
  obtain ⟨C, T, N, hcl, hk, hlink, hT1, hlay, hty, hnn⟩ := hf
  obtain ⟨r0, hr0, hfin⟩ := hnf
  have : r0 = (C, T, N) := Option.some.inj (hr0.symm.trans hcl)
  subst this
  obtain ⟨r, h1, cell, q1, q2, q3, q4⟩ := mx_cellO ho hc13 hH
  have hr : r = (C, T, N) := Option.some.inj (h1.symm.trans hcl)
  subst hr
  have hap := va_apart (own := own) hts hlay (mx_ty c) hty hnn hK hcl
  obtain ⟨hSl, hfc, kC, hkC, hkind⟩ := hK.1 c _ hcl
  obtain ⟨cf, kf, fi, f, hi, hsl⟩ := hSl k hk
  have hlay1 := hts _ (hlay _ (u_in_lay (C := C) hk))
  unfold u_lay at hlay1
  rw [if_neg (by rw [hfin]; decide)] at hlay1
  have hst := (u_facts hfc hkC (u_lays (T := T) (N := N) hts hlay hk) hi).1
  have h6 := u_store hfc hkC hkind hlay1 hi (hty k hk) hn hfit
  have e1 : (mx_tr G (.ref i)) = .ref (G.1 + i) := by show Value.ref (mx_ad G i) = _; rw [mx_isl ho hH]
  show W p l en R s m args below meth c' H locs cells slots _ (F0 m pc ls (mx_tr G v :: mx_tr G (.ref i) :: st.map (mx_tr G)))
  rw [e1]
  refine W.putK hx hcc (f := f) ⟨hM ▸ hown, hts _ hlink, ⟨_, _, _, hT1 ▸ hi⟩, hst⟩ (by rw [q2]; exact h6) q1 q3 (by rw [hsl]; exact k2_hasslot (q4 k hk)) rfl rfl hd fun H1 w1 w2 w3 => ?_
  rw [hsl] at w1
  refine kk p en R s m args below meth c' H1 _ cells slots ls ⟨X.1, hR, mx_S_put hS w2 w3, hb, ?_, hl⟩
  refine mx_H_one (i := i) hH w2 w3 rfl hsame (fun _ => ?_)
  unfold mx_cell
  dsimp only
  rw [ho.2]
  simp only [show ¬ c = 100 by omega, show ¬ c = 101 by omega, show ¬ c = 102 by omega, show ¬ c = 103 by omega, show ¬ c = 104 by omega, show ¬ c = 999 by omega, if_false]
  exact ⟨(C, T, N), hcl, t_OB.to (V := updV (fun q => mx_fv G (e, mi, mj) (mx_ty c q) i q) k (mx_tr G v)) ⟨_, w1, q2, q3, t_set q4 hap hk _⟩ (fun j _ => hV j)⟩
theorem mx_putI {own : String} {idx c k i n : Nat} {x : Int32} (hd : decode M.2.2.1 pc = .ok (.putfield idx, 3)) (hf : mx_fld own idx c k) (hM : M.1 = own) (hnf : mx_nf c k) (ht : mx_ty c k = .int) (ho : mx_is e i c n)
    (kk : mx_Fr G l M d kc ks Post (pc + 3) L st (e, mx_up mi i k x, mj)) : mx_Fr G l M d kc ks Post pc L (.int x :: .ref i :: st) (e, mi, mj) := by
  refine mx_put hd hf hM hnf ho (by rw [ht]; rfl) (by rw [ht]; rfl) (fun j hj => ⟨fun q => mx_up_ne _ _ (fun w => absurd w hj), fun q => rfl⟩) (fun j => ?_) kk
  unfold updV
  by_cases hj : j = k
  · subst hj
    rw [if_pos rfl, ht]
    show _ = Value.int (mx_up mi i j x i j)
    rw [mx_up_self]; rfl
  · rw [if_neg hj]
    unfold mx_fv
    dsimp only
    rw [mx_up_ne _ _ (fun _ => hj)]
theorem mx_putZ {own : String} {idx c k i n : Nat} {x : Int32} (hd : decode M.2.2.1 pc = .ok (.putfield idx, 3)) (hf : mx_fld own idx c k) (hM : M.1 = own) (hnf : mx_nf c k) (ht : mx_ty c k = .boolean) (hx : x = 0 ∨ x = 1) (ho : mx_is e i c n)
    (kk : mx_Fr G l M d kc ks Post (pc + 3) L st (e, mx_up mi i k x, mj)) : mx_Fr G l M d kc ks Post pc L (.int x :: .ref i :: st) (e, mi, mj) := by
  refine mx_put hd hf hM hnf ho (by rw [ht]; rcases hx with rfl | rfl <;> rfl) (by rw [ht]; rcases hx with rfl | rfl <;> rfl) (fun j hj => ⟨fun q => mx_up_ne _ _ (fun w => absurd w hj), fun q => rfl⟩) (fun j => ?_) kk
  unfold updV
  by_cases hj : j = k
  · subst hj
    rw [if_pos rfl, ht]
    show _ = Value.int (mx_up mi i j x i j)
    rw [mx_up_self]; rfl
  · rw [if_neg hj]
    unfold mx_fv
    dsimp only
    rw [mx_up_ne _ _ (fun _ => hj)]
theorem mx_putJ {own : String} {idx c k i n : Nat} {x : Int64} (hd : decode M.2.2.1 pc = .ok (.putfield idx, 3)) (hf : mx_fld own idx c k) (hM : M.1 = own) (hnf : mx_nf c k) (ht : mx_ty c k = .long) (ho : mx_is e i c n)
    (kk : mx_Fr G l M d kc ks Post (pc + 3) L st (e, mi, mx_ul mj i k x)) : mx_Fr G l M d kc ks Post pc L (.long x :: .ref i :: st) (e, mi, mj) := by
  refine mx_put hd hf hM hnf ho (by rw [ht]; rfl) (by rw [ht]; rfl) (fun j hj => ⟨fun q => rfl, fun q => by show mx_ul mj i k x j q = _; unfold mx_ul; rw [if_neg (fun w => hj w.1)]⟩) (fun j => ?_) kk
  unfold updV
  by_cases hj : j = k
  · subst hj
    rw [if_pos rfl, ht]
    show _ = Value.long (mx_ul mj i j x i j)
    simp [mx_ul, mx_tr]
  · rw [if_neg hj]
    unfold mx_fv
    dsimp only
    simp [mx_ul, hj]
/-- the words of a callee -/
def mx_inv (own : String) (idx : Nat) (M : mM) (n : Nat) : Prop := Cond.methodLink own idx M.2.1 ∈ mx_TB ∧ Cond.code M.2.1 M.2.2.1 M.2.2.2.1 M.2.2.2.2 ∈ mx_TB ∧ Cond.initialized M.2.1.cls ∈ mx_TB ∧ (M.2.1.cls ≠ "java/lang/invoke/MethodHandle" ∧ M.2.1.cls ≠ "java/lang/invoke/VarHandle") ∧ (parseMethodDescriptor M.2.1.desc).map (fun d => d.parameters.length) = some n ∧ M.2.2.2.1 ≤ 40
theorem mx_wsg {M : mM} (h : Cond.code M.2.1 M.2.2.1 M.2.2.2.1 M.2.2.2.2 ∈ mx_TB) : GoodIn mx_TB (mx_ws M) := fun w hw => by
  rcases List.mem_cons.mp hw with rfl | hw
  · exact mx_TBg _ h
  · exact mx_TBg _ hw
theorem mx_callB {own : String} {idx n d d' k' s' : Nat} {M' : mM} {R : Room} {s : State} {args : Array Value} (hi : mx_inv own idx M' n) (hts : ∀ w ∈ mx_TB, w.before args s = true) (hd : d' < d) (h1 : d ≤ R.frames) (h2 : 60 * d ≤ R.locals) :
    CallB R s args own idx M'.2.1 M'.2.2.1 M'.2.2.2.1 M'.2.2.2.2 (mx_ws M') (mx_rm d' k' s') k' s' n := by
  obtain ⟨hl, hc, hin, hy, hp, hm⟩ := hi
  refine callB_of n hts (mx_wsg hc) rfl rfl rfl (hts _ hin) (hts _ hl) ⟨hy.1, hy.2, hp⟩ ⟨?_, ?_⟩
  · show d' + 1 ≤ _; omega
  · show 8 + (M'.2.2.2.1 + 11) + 60 * d' ≤ _; omega
/-- behind a call -/
theorem mx_cont {p : Program} {en : Env} {R : Room} {s : State} {m : MethodId} {args : Array Value} {below : List Frame} {meth : Method} {c : Code} {H : Heap} {locs : List Loc} {cells slots : Nat} {ls : Array Slot} {z : mS} {kc' ks' : Nat} {st0 : List Value} {a : Array Value} {Post' : Option Value → mS → Prop}
    (X : mx_X G M d kc ks L z p R s m args meth c H locs cells slots ls) (h1 : kc' ≤ kc) (h2 : ks' ≤ ks)
    (hr : CallRun p l en R s m args below meth c H locs cells slots kc' ks' (F0 m pc ls st0) (st.map (mx_tr G)) (mx_Q G Post' a) (mx_fr G))
    (kk : ∀ v z', Post' v z' → mx_Fr G l M d (kc - kc') (ks - ks') Post (pc + 3) L (v.toList ++ st) z') :
    W p l en R s m args below meth c H locs cells slots (MQ below (mx_Q G Post) args s R.cells R.slots (mx_fr G)) (F0 m pc ls st0) := by
  obtain ⟨hC, hR, hS, hb, hH, hl⟩ := X
  intro T hT XT
  obtain ⟨v, st₀, t, T', Lc, h0, X', hL, e1, ⟨⟨v', z', hv, hp, hH'⟩, hF⟩, step⟩ := hr T hT XT
  have hv' : v = v'.map (mx_tr G) := Outcome.returned.inj hv
  subst hv'
  have hS' : va_S (mx_fr G) s.heap t.heap (locs ++ Lc) := by
    refine ⟨Nat.le_trans hS.1 (by rw [← h0]; exact hF.1), fun q h3 h4 => ?_, fun q hq => ?_⟩
    · rw [hF.2 q (by rw [h0]; exact Nat.lt_of_lt_of_le h3 hS.1) h4, h0]
      exact hS.2.1 q h3 h4
    · rcases List.mem_append.mp hq with h | h
      · exact hS.2.2 q h
      · exact hL q h
  obtain ⟨t2, a1, b1⟩ := kk v' z' hp p en R s m args below meth c t.heap (locs ++ Lc) (cells + kc') (slots + ks') ls ⟨hC, ⟨hR.1, hR.2.1, by omega, by omega⟩, hS', hb, hH', hl⟩ T' e1 X'
  refine ⟨t2, step t2 ?_, b1⟩
  have e2 : (v'.toList ++ st).map (mx_tr G) = (v'.map (mx_tr G)).toList ++ st.map (mx_tr G) := by cases v' <;> rfl
  rw [e2] at a1
  exact a1
theorem mx_cats (st : List Value) : ((st.map (mx_tr G)).map fun v => v.category) = st.map fun v => v.category := by
  rw [List.map_map]
  congr 1
  funext v
  exact mx_tr_cat G v
theorem mx_stk {av : List Value} : (av.reverse ++ st).map (mx_tr G) = (av.map (mx_tr G)).reverse ++ st.map (mx_tr G) := by simp
theorem mx_callV {own : String} {idx n d' kc' ks' c0 n0 i : Nat} {M' : mM} {av st0 : List Value} {Post' : Option Value → mS → Prop} (hd : decode M.2.2.1 pc = .ok (.invokevirtual idx, 3)) (hi : mx_inv own idx M' n) (hM : M.1 = own)
    (hV : Cond.instanceMethod M'.2.1 ∈ mx_TB ∧ Cond.selects M'.2.1.cls M'.2.1 M'.2.1 ∈ mx_TB) (hcl : ∃ r : vw_C, vwCl[c0]? = some r ∧ r.1 = M'.2.1.cls) (ho : mx_is e i c0 n0)
    (hc : mx_Call G l M' d' kc' ks' (.ref i :: av) (e, mi, mj) Post') (hd' : d' < d) (h1 : kc' ≤ kc) (h2 : ks' ≤ ks) (hst : st0 = av.reverse ++ (.ref i :: st)) (hn : av.length = n) (hW : (st.map fun v => v.category).sum ≤ 8)
    (kk : ∀ v z', Post' v z' → mx_Fr G l M d (kc - kc') (ks - ks') Post (pc + 3) L (v.toList ++ st) z') : mx_Fr G l M d kc ks Post pc L st0 (e, mi, mj) := by
  intro p en R s m args below meth c' H locs cells slots ls X
  obtain ⟨⟨hx, hcc, hml, hrt, hlk, hown, hnm, hts, hK⟩, hR, hS, hb, hH, hl⟩ := id X
  obtain ⟨r, hr, hrc⟩ := hcl
  have hc13 : c0 < 13 := (List.getElem?_eq_some_iff.mp hr).1
  have hrecv : ∃ cell : Cell, H[G.1 + i]? = some cell ∧ cell.vm.isStatics = false ∧ s.vm.findClass M'.2.1.cls = some cell.cls := by
    obtain ⟨r', h1', cell, q1, q2, q3, q4⟩ := mx_cellO ho hc13 hH
    exact ⟨cell, q1, by rw [q3]; rfl, by rw [q2, ← hrc]; exact (hK.1 c0 _ hr).2.1⟩
  have e1 : (mx_tr G (.ref i)) = .ref (G.1 + i) := by show Value.ref (mx_ad G i) = _; rw [mx_isl ho hH]
  subst hst
  refine mx_cont X h1 h2 (W.runV (C := M'.2.1.cls) (b := G.1 + i) (As := av.map (mx_tr G)) (rest := st.map (mx_tr G)) (g := F0 m pc ls _) ⟨hx, hcc, hml, hM ▸ hown, hts⟩ hc ⟨mx_callB hi hts hd' hR.1 hR.2.1, hts _ hV.1, hts _ hV.2⟩ ⟨mx_blind, hrecv, fun U hU hW' => ⟨?_, by rw [hU]; exact hH, mx_K.moved hW'.alike hK⟩⟩ rfl (by simpa using hn) hl.1 ?_ (lv_room (by rw [mx_cats]; exact hW)) hd ⟨by omega, by omega⟩) kk
  · show _ = ((mx_tr G (.ref i)) :: av.map (mx_tr G)).toArray
    rw [e1]
  · show (av.reverse ++ (.ref i :: st)).map (mx_tr G) = _
    rw [mx_stk]
    show _ ++ (mx_tr G (.ref i) :: st.map (mx_tr G)) = _
    rw [e1]
theorem mx_callS {own : String} {idx n d' kc' ks' : Nat} {M' : mM} {av st0 : List Value} {z : mS} {Post' : Option Value → mS → Prop} (hd : decode M.2.2.1 pc = .ok (.invokestatic idx, 3)) (hi : mx_inv own idx M' n) (hM : M.1 = own)
    (hV : Cond.static M'.2.1 ∈ mx_TB) (hc : mx_Call G l M' d' kc' ks' av z Post') (hd' : d' < d) (h1 : kc' ≤ kc) (h2 : ks' ≤ ks) (hst : st0 = av.reverse ++ st) (hn : av.length = n) (hW : (st.map fun v => v.category).sum ≤ 8)
    (kk : ∀ v z', Post' v z' → mx_Fr G l M d (kc - kc') (ks - ks') Post (pc + 3) L (v.toList ++ st) z') : mx_Fr G l M d kc ks Post pc L st0 z := by
  intro p en R s m args below meth c' H locs cells slots ls X
  obtain ⟨⟨hx, hcc, hml, hrt, hlk, hown, hnm, hts, hK⟩, hR, hS, hb, hH, hl⟩ := id X
  subst hst
  exact mx_cont X h1 h2 (W.runS (As := av.map (mx_tr G)) (rest := st.map (mx_tr G)) (g := F0 m pc ls _) ⟨hx, hcc, hml, hM ▸ hown, hts⟩ hc ⟨mx_callB hi hts hd' hR.1 hR.2.1, hts _ hV⟩ ⟨mx_blind, fun U hU hW' => ⟨rfl, by rw [hU]; exact hH, mx_K.moved hW'.alike hK⟩⟩ rfl (by simpa using hn) hl.1 mx_stk (lv_room (by rw [mx_cats]; exact hW)) hd ⟨by omega, by omega⟩) kk
/-- less depth, less room, a weaker end -/
theorem mx_Call.post {d' : Nat} {av : List Value} {z : mS} {P' : Option Value → mS → Prop} (h : mx_Call G l M d kc ks av z Post) (hp : ∀ v z', Post v z' → P' v z') : mx_Call G l M d kc ks av z P' := by
  intro p e ha hcr hk s m args below hf hap hP hK
  obtain ⟨t, o, h1, h2, h3, ⟨⟨v, z', hv, hq, hH⟩, hF⟩, h5⟩ := h p e ha hcr hk s m args below hf hap hP hK
  exact ⟨t, o, h1, h2, h3, ⟨⟨v, z', hv, hp v z' hq, hH⟩, hF⟩, h5⟩
end MC
end
section
section MP
variable {G : mG} {l : Launch} {M : mM} {d kc ks : Nat} {Post : Option Value → mS → Prop} {pc : Nat} {L st : List Value} {e : mE} {mi : mI} {mj : mJ}
def mx_cp (m : mI) (a0 a n : Nat) : mI := fun b j => if b = a ∧ j < n then m a0 j else m b j
def mx_cl (m : mJ) (a0 a n : Nat) : mJ := fun b j => if b = a ∧ j < n then m a0 j else m b j
theorem mx_nn (z : Int32) (hz : ¬ z < 0) : z.toInt = (z.toNatClampNeg : Int) := by
  have hz0 : (0 : Int) ≤ z.toInt := by
    have := Int32.not_lt.mp hz
    simpa using Int32.le_iff_toInt_le.mp this
  show z.toInt = ((z.toInt.toNat : Nat) : Int)
  omega
theorem mx_nfw : nativeFrameWords "java/lang/System" "arraycopy" 5 ≤ 40 := by decide +kernel
/-- one row of a whole copy, for contents of any sort -/
theorem mx_copyW {α : Type} (V : α → Value) {ty : FieldType} {p : Program} {en : Env} {R : Room} {s : State} {m : MethodId} {args : Array Value} {below : List Frame} {meth : Method} {c : Code} {H : Heap} {locs : List Loc} {cells slots : Nat} {Q : State → Prop} {cc : ByteArray} {ls : Array Slot} {rest : List Value} {own : String} {idx : Nat}
    (hexec : p.tables.exec = Jvm.exec) (hb : c.code = cc) (hml : c.maxLocals = ls.size) (hown : s.vm.findClass own = some m.cls) (hlink : (Cond.methodLink own idx arraycopyName).before args s = true) (hnat : (Cond.native arraycopyName).before args s = true) (hstat : (Cond.static arraycopyName).before args s = true) (hini : (Cond.initialized "java/lang/System").before args s = true)
    {cA : ClassId} {a0 a n : Nat} {f g : Nat → α} (hA : ArrOfT s cA ty) (hc0 : H[a0]? = some (arrV cA n (fun j => V (f j)))) (hc1 : H[a]? = some (arrV cA n (fun j => V (g j)))) (hprim : refKind ty = false) (hfit : ∀ x, fits ty (V x) = true) (hnr : ∀ x a, V x ≠ .ref a)
    {nn : Int32} (h3 : ¬ nn < 0) (h4 : nn.toNatClampNeg = n) (hframes : 1 ≤ R.frames) (hlocals : (rest.map fun v => v.category).sum + (nativeFrameWords "java/lang/System" "arraycopy" 5 + 11) ≤ R.locals) (hdg : decode cc pc = .ok (.invokestatic idx, 3))
    (kk : ∀ (H1 : Heap) (Lc : List Loc), H1[a]? = some (arrV cA n (fun j => V (f j))) → H1.size = H.size → (∀ q, q ≠ a → H1[q]? = H[q]?) → (∀ q ∈ Lc, q.base = a) → W p l en R s m args below meth c H1 (locs ++ Lc) cells slots Q (F0 m (pc + 3) ls rest)) :
    W p l en R s m args below meth c H locs cells slots Q (F0 m pc ls (.int nn :: .int 0 :: .ref a :: .int 0 :: .ref a0 :: rest)) := by
  intro T hT X
  obtain ⟨-, k0, hk0, cm0, hkk0⟩ := hA n (fun j => V (f j))
  obtain ⟨-, k1, hk1, cm1, hkk1⟩ := hA n (fun j => V (g j))
  obtain ⟨vm', X', step⟩ := X.arraycopy hexec hown hlink hnat hstat hini (src := a0) (dst := a) (cs := arrV cA n (fun j => V (f j))) (cd := arrV cA n (fun j => V (g j))) (srcPos := 0) (destPos := 0) (n := nn) (by rw [hT]; exact hc0) (by rw [hT]; exact hc1)
    (fun _ h => by cases h) (fun _ h => by cases h) (fun h => by cases h) (fun h => by cases h) hk0 hk1 hkk0 hkk1 (by simp [hprim]) (by decide) (by decide) h3
    (by rw [mx_nn nn h3, h4, arrV_size]; show ¬ (0 : Int) + _ > _; omega)
    (by rw [mx_nn nn h3, h4, arrV_size]; show ¬ (0 : Int) + _ > _; omega)
    (fun vm₁ _ i hi => by
      have e : (arrV cA n (fun j => V (f j))).slots.getD ((0 : Int32).toNatClampNeg + i) .null = V (f ((0 : Int32).toNatClampNeg + i)) := by
        have : (0 : Int32).toNatClampNeg = 0 := by decide
        rw [this, Array.getD_eq_getD_getElem?, arrV_read _ _ (by omega)]
        rfl
      refine ⟨?_, ?_⟩
      · rw [e]
        exact hfit _
      · rw [e]
        cases hv : V (f ((0 : Int32).toNatClampNeg + i)) with
        | ref b => exact absurd hv (hnr _ _)
        | _ => trivial)
    (g := F0 m pc ls (.int nn :: .int 0 :: .ref a :: .int 0 :: .ref a0 :: rest)) rfl (by rw [hml]) (rest := rest) rfl (by rw [hb]; exact hdg) hframes (by show 2 * 0 + _ + _ ≤ _; omega)
  have e1 : copied (arrV cA n (fun j => V (f j))) (arrV cA n (fun j => V (g j))) 0 0 nn = arrV cA n (fun j => V (f j)) := by
    have h0 : (0 : Int32).toNatClampNeg = 0 := by decide
    have h6 := va_copied V cA cA f g (n0 := n) (n1 := n) (sp := (0 : Int32).toNatClampNeg) (dp := (0 : Int32).toNatClampNeg) (n := nn.toNatClampNeg) (by rw [h0, h4]; omega)
    refine h6.trans ?_
    unfold arrV
    congr 2
    funext j
    have hj := j.isLt
    simp only [va_cpy, h0, h4]
    rw [if_pos ⟨by omega, by omega⟩]
    simp
  rw [e1] at X' step
  have hl : a < H.size := (Array.getElem?_eq_some_iff.mp hc1).1
  have hheap : ((T.setVm vm').setCell a (arrV cA n (fun j => V (f j)))).heap = H.setIfInBounds a (arrV cA n (fun j => V (f j))) := by rw [← hT]; rfl
  obtain ⟨t, a1, b1⟩ := kk (H.setIfInBounds a (arrV cA n (fun j => V (f j)))) _ (by simp [Array.getElem?_setIfInBounds, hl]) (by simp) (fun q hq => by simp [Array.getElem?_setIfInBounds, Ne.symm hq]) (fun q hq => by
    obtain ⟨w, -, hw⟩ := List.mem_map.mp hq
    rw [← hw]) _ hheap X'
  exact ⟨t, step t a1, b1⟩
def mx_acw (own : String) (idx : Nat) : Prop := Cond.methodLink own idx arraycopyName ∈ mx_TB ∧ Cond.native arraycopyName ∈ mx_TB ∧ Cond.static arraycopyName ∈ mx_TB ∧ Cond.initialized "java/lang/System" ∈ mx_TB
theorem mx_copyI {own : String} {idx a0 a n : Nat} {nn : Int32} (hd : decode M.2.2.1 pc = .ok (.invokestatic idx, 3)) (hw : mx_acw own idx) (hM : M.1 = own) (ho0 : mx_is e a0 100 n) (ho : mx_is e a 100 n) (hn : nn = nI n) (hn2 : n < 2 ^ 31) (hd1 : 1 ≤ d) (hW : (st.map fun v => v.category).sum ≤ 8)
    (kk : mx_Fr G l M d kc ks Post (pc + 3) L st (e, mx_cp mi a0 a n, mj)) : mx_Fr G l M d kc ks Post pc L (.int nn :: .int 0 :: .ref a :: .int 0 :: .ref a0 :: st) (e, mi, mj) := by
  intro p en R s m args below meth c' H locs cells slots ls X
  obtain ⟨⟨hx, hcc, hml, hrt, hlk, hown, hnm, hts, hK⟩, hR, hS, hb, hH, hl⟩ := id X
  show W p l en R s m args below meth c' H locs cells slots _ (F0 m pc ls (.int nn :: .int 0 :: .ref (mx_ad G a) :: .int 0 :: .ref (mx_ad G a0) :: st.map (mx_tr G)))
  rw [mx_isl ho hH, mx_isl ho0 hH]
  subst hn
  refine mx_copyW (ty := .int) (fun x : Int32 => Value.int x) hx hcc (by rw [hml]; exact hl.1.symm) (hM ▸ hown) (hts _ hw.1) (hts _ hw.2.1) (hts _ hw.2.2.1) (hts _ hw.2.2.2) (hK.2 0 _ rfl).1 (mx_cellI ho0 hH) (mx_cellI ho hH) rfl (fun _ => rfl) (fun _ _ q => by cases q) (nI_pos hn2) (nI_clamp hn2) (by omega) (by rw [mx_cats]; have := mx_nfw; omega) hd (fun H1 Lc e1 hz oq hLc => ?_)
  refine kk p en R s m args below meth c' H1 _ cells slots ls ⟨X.1, hR, ⟨by rw [hz]; exact hS.1, fun q h1 h2 => by rw [oq q (fun w => h2 (by rw [w]; exact Nat.le_add_right _ _))]; exact hS.2.1 q h1 h2, fun q hq => ?_⟩, hb, ?_, hl⟩
  · rcases List.mem_append.mp hq with h | h
    · exact hS.2.2 q h
    · rw [hLc q h]; exact Nat.le_add_right _ _
  refine mx_H_one (i := a) hH hz oq rfl (fun j hj => ⟨fun k => by show mx_cp mi a0 a n j k = _; unfold mx_cp; rw [if_neg (fun q => hj q.1)], fun k => rfl⟩) (fun _ => ?_)
  unfold mx_cell
  dsimp only
  rw [ho.2]
  simp only [if_true]
  rw [e1]
  unfold arrV
  congr 3
  funext j
  have := j.isLt
  simp [mx_cp]
theorem mx_copyJ {own : String} {idx a0 a n : Nat} {nn : Int32} (hd : decode M.2.2.1 pc = .ok (.invokestatic idx, 3)) (hw : mx_acw own idx) (hM : M.1 = own) (ho0 : mx_is e a0 101 n) (ho : mx_is e a 101 n) (hn : nn = nI n) (hn2 : n < 2 ^ 31) (hd1 : 1 ≤ d) (hW : (st.map fun v => v.category).sum ≤ 8)
    (kk : mx_Fr G l M d kc ks Post (pc + 3) L st (e, mi, mx_cl mj a0 a n)) : mx_Fr G l M d kc ks Post pc L (.int nn :: .int 0 :: .ref a :: .int 0 :: .ref a0 :: st) (e, mi, mj) := by
  intro p en R s m args below meth c' H locs cells slots ls X
  obtain ⟨⟨hx, hcc, hml, hrt, hlk, hown, hnm, hts, hK⟩, hR, hS, hb, hH, hl⟩ := id X
  show W p l en R s m args below meth c' H locs cells slots _ (F0 m pc ls (.int nn :: .int 0 :: .ref (mx_ad G a) :: .int 0 :: .ref (mx_ad G a0) :: st.map (mx_tr G)))
  rw [mx_isl ho hH, mx_isl ho0 hH]
  subst hn
  refine mx_copyW (ty := .long) (fun x : Int64 => Value.long x) hx hcc (by rw [hml]; exact hl.1.symm) (hM ▸ hown) (hts _ hw.1) (hts _ hw.2.1) (hts _ hw.2.2.1) (hts _ hw.2.2.2) (hK.2 1 _ rfl).1 (mx_cellJ ho0 hH) (mx_cellJ ho hH) rfl (fun _ => rfl) (fun _ _ q => by cases q) (nI_pos hn2) (nI_clamp hn2) (by omega) (by rw [mx_cats]; have := mx_nfw; omega) hd (fun H1 Lc e1 hz oq hLc => ?_)
  refine kk p en R s m args below meth c' H1 _ cells slots ls ⟨X.1, hR, ⟨by rw [hz]; exact hS.1, fun q h1 h2 => by rw [oq q (fun w => h2 (by rw [w]; exact Nat.le_add_right _ _))]; exact hS.2.1 q h1 h2, fun q hq => ?_⟩, hb, ?_, hl⟩
  · rcases List.mem_append.mp hq with h | h
    · exact hS.2.2 q h
    · rw [hLc q h]; exact Nat.le_add_right _ _
  refine mx_H_one (i := a) hH hz oq rfl (fun j hj => ⟨fun k => rfl, fun k => by show mx_cl mj a0 a n j k = _; unfold mx_cl; rw [if_neg (fun q => hj q.1)]⟩) (fun _ => ?_)
  unfold mx_cell
  dsimp only
  rw [ho.2]
  simp only [show ¬ (101 = 100) by decide, if_true, if_false]
  rw [e1]
  unfold arrV
  congr 3
  funext j
  have := j.isLt
  simp [mx_cl]
end MP
end
section
def RLaw : String := "HeavyPairsLaw"
theorem mx_inL {C : String} {T : u_T} {N : Nat} (ps : List Nat) (h : u_ws C T N = ps.filterMap (fun i => tables_1[i]?)) (hg : (u_ws C T N).all goodWord = true) : ∀ w ∈ u_ws C T N, w ∈ mx_TB := by
  intro w hw
  refine List.mem_filter.mpr ⟨List.mem_append_right _ ?_, List.all_eq_true.mp hg w hw⟩
  rw [h] at hw
  obtain ⟨i, -, hi⟩ := List.mem_filterMap.mp hw
  exact List.mem_of_getElem? hi
theorem inX0 : ∀ w ∈ u_ws RX0 TX0 10, w ∈ mx_TB := mx_inL [322, 324, 326, 328, 330, 332, 334, 336, 338, 340] (by decide +kernel) (by decide +kernel)
theorem inX1 : ∀ w ∈ u_ws RX1 TX1 1, w ∈ mx_TB := mx_inL [380] (by decide +kernel) (by decide +kernel)
theorem inX2 : ∀ w ∈ u_ws RX2 TX2 16, w ∈ mx_TB := mx_inL [254, 256, 258, 260, 262, 264, 266, 268, 270, 272, 274, 276, 278, 280, 282, 284] (by decide +kernel) (by decide +kernel)
theorem inX3 : ∀ w ∈ u_ws RX3 TX3 3, w ∈ mx_TB := mx_inL [299, 301, 303] (by decide +kernel) (by decide +kernel)
theorem inX4 : ∀ w ∈ u_ws RX4 TX4 15, w ∈ mx_TB := mx_inL [150, 152, 154, 156, 158, 160, 162, 164, 166, 168, 170, 172, 174, 176, 178] (by decide +kernel) (by decide +kernel)
theorem inX5 : ∀ w ∈ u_ws RX5 TX5 3, w ∈ mx_TB := mx_inL [192, 194, 196] (by decide +kernel) (by decide +kernel)
theorem inX6 : ∀ w ∈ u_ws RX6 TX6 3, w ∈ mx_TB := mx_inL [395, 397, 399] (by decide +kernel) (by decide +kernel)
theorem inX7 : ∀ w ∈ u_ws RX7 TX7 2, w ∈ mx_TB := mx_inL [216, 218] (by decide +kernel) (by decide +kernel)
theorem inX8 : ∀ w ∈ u_ws RX8 TX8 7, w ∈ mx_TB := mx_inL [356, 358, 360, 362, 364, 366, 368] (by decide +kernel) (by decide +kernel)
theorem inX9 : ∀ w ∈ u_ws RX9 TX9 2, w ∈ mx_TB := mx_inL [223, 225] (by decide +kernel) (by decide +kernel)
theorem inX10 : ∀ w ∈ u_ws RX10 TX10 12, w ∈ mx_TB := mx_inL [101, 103, 105, 107, 109, 111, 113, 115, 117, 119, 121, 123] (by decide +kernel) (by decide +kernel)
theorem inX11 : ∀ w ∈ u_ws RX11 TX11 19, w ∈ mx_TB := mx_inL [421, 423, 425, 427, 429, 431, 433, 435, 437, 439, 441, 443, 445, 447, 449, 451, 453, 455, 457] (by decide +kernel) (by decide +kernel)
theorem inX12 : ∀ w ∈ u_ws RX12 TX12 62, w ∈ mx_TB := mx_inL [1608, 1610, 1612, 1614, 1616, 1618, 1620, 1622, 1624, 1626, 1628, 1630, 1632, 1634, 1636, 1638, 1640, 1642, 1644, 1646, 1648, 1650, 1652, 1654, 1656, 1658, 1660, 1662, 1664, 1666, 1668, 1670, 1672, 1674, 1676, 1678, 1680, 1682, 1684, 1686, 1688, 1690, 1692, 1694, 1696, 1698, 1700, 1702, 1704, 1706, 1708, 1710, 1712, 1714, 1716, 1718, 1720, 1722, 1724, 1726, 1728, 1730] (by decide +kernel) (by decide +kernel)
theorem fX10_9 : mx_fld RX10 9 10 0 := ⟨RX10, TX10, 12, rfl, by decide, mx_in (i := 89) (by decide +kernel) (by decide +kernel), rfl, inX10, tyX10_ok, nmX10⟩
theorem fX10_15 : mx_fld RX10 15 10 1 := ⟨RX10, TX10, 12, rfl, by decide, mx_in (i := 90) (by decide +kernel) (by decide +kernel), rfl, inX10, tyX10_ok, nmX10⟩
theorem fX10_33 : mx_fld RX10 33 10 2 := ⟨RX10, TX10, 12, rfl, by decide, mx_in (i := 91) (by decide +kernel) (by decide +kernel), rfl, inX10, tyX10_ok, nmX10⟩
theorem fX10_59 : mx_fld RX10 59 10 3 := ⟨RX10, TX10, 12, rfl, by decide, mx_in (i := 92) (by decide +kernel) (by decide +kernel), rfl, inX10, tyX10_ok, nmX10⟩
theorem fX10_62 : mx_fld RX10 62 10 4 := ⟨RX10, TX10, 12, rfl, by decide, mx_in (i := 93) (by decide +kernel) (by decide +kernel), rfl, inX10, tyX10_ok, nmX10⟩
theorem fX10_49 : mx_fld RX10 49 10 5 := ⟨RX10, TX10, 12, rfl, by decide, mx_in (i := 94) (by decide +kernel) (by decide +kernel), rfl, inX10, tyX10_ok, nmX10⟩
theorem fX10_42 : mx_fld RX10 42 10 6 := ⟨RX10, TX10, 12, rfl, by decide, mx_in (i := 95) (by decide +kernel) (by decide +kernel), rfl, inX10, tyX10_ok, nmX10⟩
theorem fX10_68 : mx_fld RX10 68 10 7 := ⟨RX10, TX10, 12, rfl, by decide, mx_in (i := 96) (by decide +kernel) (by decide +kernel), rfl, inX10, tyX10_ok, nmX10⟩
theorem fX10_78 : mx_fld RX10 78 10 8 := ⟨RX10, TX10, 12, rfl, by decide, mx_in (i := 97) (by decide +kernel) (by decide +kernel), rfl, inX10, tyX10_ok, nmX10⟩
theorem fX10_45 : mx_fld RX10 45 10 9 := ⟨RX10, TX10, 12, rfl, by decide, mx_in (i := 98) (by decide +kernel) (by decide +kernel), rfl, inX10, tyX10_ok, nmX10⟩
theorem fX10_36 : mx_fld RX10 36 10 10 := ⟨RX10, TX10, 12, rfl, by decide, mx_in (i := 99) (by decide +kernel) (by decide +kernel), rfl, inX10, tyX10_ok, nmX10⟩
theorem fX10_39 : mx_fld RX10 39 10 11 := ⟨RX10, TX10, 12, rfl, by decide, mx_in (i := 100) (by decide +kernel) (by decide +kernel), rfl, inX10, tyX10_ok, nmX10⟩
theorem fX4_43 : mx_fld RX4 43 4 0 := ⟨RX4, TX4, 15, rfl, by decide, mx_in (i := 135) (by decide +kernel) (by decide +kernel), rfl, inX4, tyX4_ok, nmX4⟩
theorem fX4_47 : mx_fld RX4 47 4 1 := ⟨RX4, TX4, 15, rfl, by decide, mx_in (i := 136) (by decide +kernel) (by decide +kernel), rfl, inX4, tyX4_ok, nmX4⟩
theorem fX4_50 : mx_fld RX4 50 4 2 := ⟨RX4, TX4, 15, rfl, by decide, mx_in (i := 137) (by decide +kernel) (by decide +kernel), rfl, inX4, tyX4_ok, nmX4⟩
theorem fX4_53 : mx_fld RX4 53 4 3 := ⟨RX4, TX4, 15, rfl, by decide, mx_in (i := 138) (by decide +kernel) (by decide +kernel), rfl, inX4, tyX4_ok, nmX4⟩
theorem fX4_56 : mx_fld RX4 56 4 4 := ⟨RX4, TX4, 15, rfl, by decide, mx_in (i := 139) (by decide +kernel) (by decide +kernel), rfl, inX4, tyX4_ok, nmX4⟩
theorem fX4_9 : mx_fld RX4 9 4 5 := ⟨RX4, TX4, 15, rfl, by decide, mx_in (i := 140) (by decide +kernel) (by decide +kernel), rfl, inX4, tyX4_ok, nmX4⟩
theorem fX4_15 : mx_fld RX4 15 4 6 := ⟨RX4, TX4, 15, rfl, by decide, mx_in (i := 141) (by decide +kernel) (by decide +kernel), rfl, inX4, tyX4_ok, nmX4⟩
theorem fX4_19 : mx_fld RX4 19 4 7 := ⟨RX4, TX4, 15, rfl, by decide, mx_in (i := 142) (by decide +kernel) (by decide +kernel), rfl, inX4, tyX4_ok, nmX4⟩
theorem fX4_22 : mx_fld RX4 22 4 8 := ⟨RX4, TX4, 15, rfl, by decide, mx_in (i := 143) (by decide +kernel) (by decide +kernel), rfl, inX4, tyX4_ok, nmX4⟩
theorem fX4_25 : mx_fld RX4 25 4 9 := ⟨RX4, TX4, 15, rfl, by decide, mx_in (i := 144) (by decide +kernel) (by decide +kernel), rfl, inX4, tyX4_ok, nmX4⟩
theorem fX4_28 : mx_fld RX4 28 4 10 := ⟨RX4, TX4, 15, rfl, by decide, mx_in (i := 145) (by decide +kernel) (by decide +kernel), rfl, inX4, tyX4_ok, nmX4⟩
theorem fX4_31 : mx_fld RX4 31 4 11 := ⟨RX4, TX4, 15, rfl, by decide, mx_in (i := 146) (by decide +kernel) (by decide +kernel), rfl, inX4, tyX4_ok, nmX4⟩
theorem fX4_34 : mx_fld RX4 34 4 12 := ⟨RX4, TX4, 15, rfl, by decide, mx_in (i := 147) (by decide +kernel) (by decide +kernel), rfl, inX4, tyX4_ok, nmX4⟩
theorem fX4_37 : mx_fld RX4 37 4 13 := ⟨RX4, TX4, 15, rfl, by decide, mx_in (i := 148) (by decide +kernel) (by decide +kernel), rfl, inX4, tyX4_ok, nmX4⟩
theorem fX4_40 : mx_fld RX4 40 4 14 := ⟨RX4, TX4, 15, rfl, by decide, mx_in (i := 149) (by decide +kernel) (by decide +kernel), rfl, inX4, tyX4_ok, nmX4⟩
theorem fX5_12 : mx_fld RX5 12 5 0 := ⟨RX5, TX5, 3, rfl, by decide, mx_in (i := 189) (by decide +kernel) (by decide +kernel), rfl, inX5, tyX5_ok, nmX5⟩
theorem fX5_18 : mx_fld RX5 18 5 1 := ⟨RX5, TX5, 3, rfl, by decide, mx_in (i := 190) (by decide +kernel) (by decide +kernel), rfl, inX5, tyX5_ok, nmX5⟩
theorem fX5_25 : mx_fld RX5 25 5 2 := ⟨RX5, TX5, 3, rfl, by decide, mx_in (i := 191) (by decide +kernel) (by decide +kernel), rfl, inX5, tyX5_ok, nmX5⟩
theorem fX7_15 : mx_fld RX7 15 7 0 := ⟨RX7, TX7, 2, rfl, by decide, mx_in (i := 214) (by decide +kernel) (by decide +kernel), rfl, inX7, tyX7_ok, nmX7⟩
theorem fX7_21 : mx_fld RX7 21 7 1 := ⟨RX7, TX7, 2, rfl, by decide, mx_in (i := 215) (by decide +kernel) (by decide +kernel), rfl, inX7, tyX7_ok, nmX7⟩
theorem fX9_14 : mx_fld RX9 14 9 0 := ⟨RX9, TX9, 2, rfl, by decide, mx_in (i := 221) (by decide +kernel) (by decide +kernel), rfl, inX9, tyX9_ok, nmX9⟩
theorem fX9_67 : mx_fld RX9 67 9 1 := ⟨RX9, TX9, 2, rfl, by decide, mx_in (i := 222) (by decide +kernel) (by decide +kernel), rfl, inX9, tyX9_ok, nmX9⟩
theorem fX2_12 : mx_fld RX2 12 2 0 := ⟨RX2, TX2, 16, rfl, by decide, mx_in (i := 238) (by decide +kernel) (by decide +kernel), rfl, inX2, tyX2_ok, nmX2⟩
theorem fX2_46 : mx_fld RX2 46 2 1 := ⟨RX2, TX2, 16, rfl, by decide, mx_in (i := 239) (by decide +kernel) (by decide +kernel), rfl, inX2, tyX2_ok, nmX2⟩
theorem fX2_58 : mx_fld RX2 58 2 2 := ⟨RX2, TX2, 16, rfl, by decide, mx_in (i := 240) (by decide +kernel) (by decide +kernel), rfl, inX2, tyX2_ok, nmX2⟩
theorem fX2_69 : mx_fld RX2 69 2 3 := ⟨RX2, TX2, 16, rfl, by decide, mx_in (i := 241) (by decide +kernel) (by decide +kernel), rfl, inX2, tyX2_ok, nmX2⟩
theorem fX2_18 : mx_fld RX2 18 2 4 := ⟨RX2, TX2, 16, rfl, by decide, mx_in (i := 242) (by decide +kernel) (by decide +kernel), rfl, inX2, tyX2_ok, nmX2⟩
theorem fX2_61 : mx_fld RX2 61 2 5 := ⟨RX2, TX2, 16, rfl, by decide, mx_in (i := 243) (by decide +kernel) (by decide +kernel), rfl, inX2, tyX2_ok, nmX2⟩
theorem fX2_22 : mx_fld RX2 22 2 6 := ⟨RX2, TX2, 16, rfl, by decide, mx_in (i := 244) (by decide +kernel) (by decide +kernel), rfl, inX2, tyX2_ok, nmX2⟩
theorem fX2_25 : mx_fld RX2 25 2 7 := ⟨RX2, TX2, 16, rfl, by decide, mx_in (i := 245) (by decide +kernel) (by decide +kernel), rfl, inX2, tyX2_ok, nmX2⟩
theorem fX2_28 : mx_fld RX2 28 2 8 := ⟨RX2, TX2, 16, rfl, by decide, mx_in (i := 246) (by decide +kernel) (by decide +kernel), rfl, inX2, tyX2_ok, nmX2⟩
theorem fX2_31 : mx_fld RX2 31 2 9 := ⟨RX2, TX2, 16, rfl, by decide, mx_in (i := 247) (by decide +kernel) (by decide +kernel), rfl, inX2, tyX2_ok, nmX2⟩
theorem fX2_34 : mx_fld RX2 34 2 10 := ⟨RX2, TX2, 16, rfl, by decide, mx_in (i := 248) (by decide +kernel) (by decide +kernel), rfl, inX2, tyX2_ok, nmX2⟩
theorem fX2_146 : mx_fld RX2 146 2 11 := ⟨RX2, TX2, 16, rfl, by decide, mx_in (i := 249) (by decide +kernel) (by decide +kernel), rfl, inX2, tyX2_ok, nmX2⟩
theorem fX2_37 : mx_fld RX2 37 2 12 := ⟨RX2, TX2, 16, rfl, by decide, mx_in (i := 250) (by decide +kernel) (by decide +kernel), rfl, inX2, tyX2_ok, nmX2⟩
theorem fX2_40 : mx_fld RX2 40 2 13 := ⟨RX2, TX2, 16, rfl, by decide, mx_in (i := 251) (by decide +kernel) (by decide +kernel), rfl, inX2, tyX2_ok, nmX2⟩
theorem fX2_43 : mx_fld RX2 43 2 14 := ⟨RX2, TX2, 16, rfl, by decide, mx_in (i := 252) (by decide +kernel) (by decide +kernel), rfl, inX2, tyX2_ok, nmX2⟩
theorem fX2_143 : mx_fld RX2 143 2 15 := ⟨RX2, TX2, 16, rfl, by decide, mx_in (i := 253) (by decide +kernel) (by decide +kernel), rfl, inX2, tyX2_ok, nmX2⟩
theorem fX3_13 : mx_fld RX3 13 3 0 := ⟨RX3, TX3, 3, rfl, by decide, mx_in (i := 296) (by decide +kernel) (by decide +kernel), rfl, inX3, tyX3_ok, nmX3⟩
theorem fX3_22 : mx_fld RX3 22 3 1 := ⟨RX3, TX3, 3, rfl, by decide, mx_in (i := 297) (by decide +kernel) (by decide +kernel), rfl, inX3, tyX3_ok, nmX3⟩
theorem fX3_18 : mx_fld RX3 18 3 2 := ⟨RX3, TX3, 3, rfl, by decide, mx_in (i := 298) (by decide +kernel) (by decide +kernel), rfl, inX3, tyX3_ok, nmX3⟩
theorem fX0_9 : mx_fld RX0 9 0 0 := ⟨RX0, TX0, 10, rfl, by decide, mx_in (i := 312) (by decide +kernel) (by decide +kernel), rfl, inX0, tyX0_ok, nmX0⟩
theorem fX0_15 : mx_fld RX0 15 0 1 := ⟨RX0, TX0, 10, rfl, by decide, mx_in (i := 313) (by decide +kernel) (by decide +kernel), rfl, inX0, tyX0_ok, nmX0⟩
theorem fX0_18 : mx_fld RX0 18 0 2 := ⟨RX0, TX0, 10, rfl, by decide, mx_in (i := 314) (by decide +kernel) (by decide +kernel), rfl, inX0, tyX0_ok, nmX0⟩
theorem fX0_21 : mx_fld RX0 21 0 3 := ⟨RX0, TX0, 10, rfl, by decide, mx_in (i := 315) (by decide +kernel) (by decide +kernel), rfl, inX0, tyX0_ok, nmX0⟩
theorem fX0_41 : mx_fld RX0 41 0 4 := ⟨RX0, TX0, 10, rfl, by decide, mx_in (i := 316) (by decide +kernel) (by decide +kernel), rfl, inX0, tyX0_ok, nmX0⟩
theorem fX0_24 : mx_fld RX0 24 0 5 := ⟨RX0, TX0, 10, rfl, by decide, mx_in (i := 317) (by decide +kernel) (by decide +kernel), rfl, inX0, tyX0_ok, nmX0⟩
theorem fX0_28 : mx_fld RX0 28 0 6 := ⟨RX0, TX0, 10, rfl, by decide, mx_in (i := 318) (by decide +kernel) (by decide +kernel), rfl, inX0, tyX0_ok, nmX0⟩
theorem fX0_32 : mx_fld RX0 32 0 7 := ⟨RX0, TX0, 10, rfl, by decide, mx_in (i := 319) (by decide +kernel) (by decide +kernel), rfl, inX0, tyX0_ok, nmX0⟩
theorem fX0_35 : mx_fld RX0 35 0 8 := ⟨RX0, TX0, 10, rfl, by decide, mx_in (i := 320) (by decide +kernel) (by decide +kernel), rfl, inX0, tyX0_ok, nmX0⟩
theorem fX0_38 : mx_fld RX0 38 0 9 := ⟨RX0, TX0, 10, rfl, by decide, mx_in (i := 321) (by decide +kernel) (by decide +kernel), rfl, inX0, tyX0_ok, nmX0⟩
theorem fX8_9 : mx_fld RX8 9 8 0 := ⟨RX8, TX8, 7, rfl, by decide, mx_in (i := 349) (by decide +kernel) (by decide +kernel), rfl, inX8, tyX8_ok, nmX8⟩
theorem fX8_15 : mx_fld RX8 15 8 1 := ⟨RX8, TX8, 7, rfl, by decide, mx_in (i := 350) (by decide +kernel) (by decide +kernel), rfl, inX8, tyX8_ok, nmX8⟩
theorem fX8_18 : mx_fld RX8 18 8 2 := ⟨RX8, TX8, 7, rfl, by decide, mx_in (i := 351) (by decide +kernel) (by decide +kernel), rfl, inX8, tyX8_ok, nmX8⟩
theorem fX8_21 : mx_fld RX8 21 8 3 := ⟨RX8, TX8, 7, rfl, by decide, mx_in (i := 352) (by decide +kernel) (by decide +kernel), rfl, inX8, tyX8_ok, nmX8⟩
theorem fX8_32 : mx_fld RX8 32 8 4 := ⟨RX8, TX8, 7, rfl, by decide, mx_in (i := 353) (by decide +kernel) (by decide +kernel), rfl, inX8, tyX8_ok, nmX8⟩
theorem fX8_28 : mx_fld RX8 28 8 5 := ⟨RX8, TX8, 7, rfl, by decide, mx_in (i := 354) (by decide +kernel) (by decide +kernel), rfl, inX8, tyX8_ok, nmX8⟩
theorem fX8_24 : mx_fld RX8 24 8 6 := ⟨RX8, TX8, 7, rfl, by decide, mx_in (i := 355) (by decide +kernel) (by decide +kernel), rfl, inX8, tyX8_ok, nmX8⟩
theorem fX1_13 : mx_fld RX1 13 1 0 := ⟨RX1, TX1, 1, rfl, by decide, mx_in (i := 379) (by decide +kernel) (by decide +kernel), rfl, inX1, tyX1_ok, nmX1⟩
theorem fX6_10 : mx_fld RX6 10 6 0 := ⟨RX6, TX6, 3, rfl, by decide, mx_in (i := 392) (by decide +kernel) (by decide +kernel), rfl, inX6, tyX6_ok, nmX6⟩
theorem fX6_19 : mx_fld RX6 19 6 1 := ⟨RX6, TX6, 3, rfl, by decide, mx_in (i := 393) (by decide +kernel) (by decide +kernel), rfl, inX6, tyX6_ok, nmX6⟩
theorem fX6_30 : mx_fld RX6 30 6 2 := ⟨RX6, TX6, 3, rfl, by decide, mx_in (i := 394) (by decide +kernel) (by decide +kernel), rfl, inX6, tyX6_ok, nmX6⟩
theorem fX11_10 : mx_fld RX11 10 11 0 := ⟨RX11, TX11, 19, rfl, by decide, mx_in (i := 402) (by decide +kernel) (by decide +kernel), rfl, inX11, tyX11_ok, nmX11⟩
theorem fX11_19 : mx_fld RX11 19 11 1 := ⟨RX11, TX11, 19, rfl, by decide, mx_in (i := 403) (by decide +kernel) (by decide +kernel), rfl, inX11, tyX11_ok, nmX11⟩
theorem fX11_23 : mx_fld RX11 23 11 2 := ⟨RX11, TX11, 19, rfl, by decide, mx_in (i := 404) (by decide +kernel) (by decide +kernel), rfl, inX11, tyX11_ok, nmX11⟩
theorem fX11_29 : mx_fld RX11 29 11 3 := ⟨RX11, TX11, 19, rfl, by decide, mx_in (i := 405) (by decide +kernel) (by decide +kernel), rfl, inX11, tyX11_ok, nmX11⟩
theorem fX11_36 : mx_fld RX11 36 11 4 := ⟨RX11, TX11, 19, rfl, by decide, mx_in (i := 406) (by decide +kernel) (by decide +kernel), rfl, inX11, tyX11_ok, nmX11⟩
theorem fX11_45 : mx_fld RX11 45 11 5 := ⟨RX11, TX11, 19, rfl, by decide, mx_in (i := 407) (by decide +kernel) (by decide +kernel), rfl, inX11, tyX11_ok, nmX11⟩
theorem fX11_49 : mx_fld RX11 49 11 6 := ⟨RX11, TX11, 19, rfl, by decide, mx_in (i := 408) (by decide +kernel) (by decide +kernel), rfl, inX11, tyX11_ok, nmX11⟩
theorem fX11_55 : mx_fld RX11 55 11 7 := ⟨RX11, TX11, 19, rfl, by decide, mx_in (i := 409) (by decide +kernel) (by decide +kernel), rfl, inX11, tyX11_ok, nmX11⟩
theorem fX11_59 : mx_fld RX11 59 11 8 := ⟨RX11, TX11, 19, rfl, by decide, mx_in (i := 410) (by decide +kernel) (by decide +kernel), rfl, inX11, tyX11_ok, nmX11⟩
theorem fX11_65 : mx_fld RX11 65 11 9 := ⟨RX11, TX11, 19, rfl, by decide, mx_in (i := 411) (by decide +kernel) (by decide +kernel), rfl, inX11, tyX11_ok, nmX11⟩
theorem fX11_72 : mx_fld RX11 72 11 10 := ⟨RX11, TX11, 19, rfl, by decide, mx_in (i := 412) (by decide +kernel) (by decide +kernel), rfl, inX11, tyX11_ok, nmX11⟩
theorem fX11_79 : mx_fld RX11 79 11 11 := ⟨RX11, TX11, 19, rfl, by decide, mx_in (i := 413) (by decide +kernel) (by decide +kernel), rfl, inX11, tyX11_ok, nmX11⟩
theorem fX11_83 : mx_fld RX11 83 11 12 := ⟨RX11, TX11, 19, rfl, by decide, mx_in (i := 414) (by decide +kernel) (by decide +kernel), rfl, inX11, tyX11_ok, nmX11⟩
theorem fX11_88 : mx_fld RX11 88 11 13 := ⟨RX11, TX11, 19, rfl, by decide, mx_in (i := 415) (by decide +kernel) (by decide +kernel), rfl, inX11, tyX11_ok, nmX11⟩
theorem fX11_95 : mx_fld RX11 95 11 14 := ⟨RX11, TX11, 19, rfl, by decide, mx_in (i := 416) (by decide +kernel) (by decide +kernel), rfl, inX11, tyX11_ok, nmX11⟩
theorem fX11_99 : mx_fld RX11 99 11 15 := ⟨RX11, TX11, 19, rfl, by decide, mx_in (i := 417) (by decide +kernel) (by decide +kernel), rfl, inX11, tyX11_ok, nmX11⟩
theorem fX11_102 : mx_fld RX11 102 11 16 := ⟨RX11, TX11, 19, rfl, by decide, mx_in (i := 418) (by decide +kernel) (by decide +kernel), rfl, inX11, tyX11_ok, nmX11⟩
theorem fX11_306 : mx_fld RX11 306 11 17 := ⟨RX11, TX11, 19, rfl, by decide, mx_in (i := 419) (by decide +kernel) (by decide +kernel), rfl, inX11, tyX11_ok, nmX11⟩
theorem fX11_106 : mx_fld RX11 106 11 18 := ⟨RX11, TX11, 19, rfl, by decide, mx_in (i := 420) (by decide +kernel) (by decide +kernel), rfl, inX11, tyX11_ok, nmX11⟩
theorem fX12_1 : mx_fld RX12 1 12 0 := ⟨RX12, TX12, 62, rfl, by decide, mx_in (i := 1546) (by decide +kernel) (by decide +kernel), rfl, inX12, tyX12_ok, nmX12⟩
theorem fX12_7 : mx_fld RX12 7 12 1 := ⟨RX12, TX12, 62, rfl, by decide, mx_in (i := 1547) (by decide +kernel) (by decide +kernel), rfl, inX12, tyX12_ok, nmX12⟩
theorem fX12_11 : mx_fld RX12 11 12 2 := ⟨RX12, TX12, 62, rfl, by decide, mx_in (i := 1548) (by decide +kernel) (by decide +kernel), rfl, inX12, tyX12_ok, nmX12⟩
theorem fX12_18 : mx_fld RX12 18 12 3 := ⟨RX12, TX12, 62, rfl, by decide, mx_in (i := 1549) (by decide +kernel) (by decide +kernel), rfl, inX12, tyX12_ok, nmX12⟩
theorem fX12_27 : mx_fld RX12 27 12 4 := ⟨RX12, TX12, 62, rfl, by decide, mx_in (i := 1550) (by decide +kernel) (by decide +kernel), rfl, inX12, tyX12_ok, nmX12⟩
theorem fX12_21 : mx_fld RX12 21 12 5 := ⟨RX12, TX12, 62, rfl, by decide, mx_in (i := 1551) (by decide +kernel) (by decide +kernel), rfl, inX12, tyX12_ok, nmX12⟩
theorem fX12_24 : mx_fld RX12 24 12 6 := ⟨RX12, TX12, 62, rfl, by decide, mx_in (i := 1552) (by decide +kernel) (by decide +kernel), rfl, inX12, tyX12_ok, nmX12⟩
theorem fX12_30 : mx_fld RX12 30 12 7 := ⟨RX12, TX12, 62, rfl, by decide, mx_in (i := 1553) (by decide +kernel) (by decide +kernel), rfl, inX12, tyX12_ok, nmX12⟩
theorem fX12_47 : mx_fld RX12 47 12 8 := ⟨RX12, TX12, 62, rfl, by decide, mx_in (i := 1554) (by decide +kernel) (by decide +kernel), rfl, inX12, tyX12_ok, nmX12⟩
theorem fX12_40 : mx_fld RX12 40 12 9 := ⟨RX12, TX12, 62, rfl, by decide, mx_in (i := 1555) (by decide +kernel) (by decide +kernel), rfl, inX12, tyX12_ok, nmX12⟩
theorem fX12_66 : mx_fld RX12 66 12 10 := ⟨RX12, TX12, 62, rfl, by decide, mx_in (i := 1556) (by decide +kernel) (by decide +kernel), rfl, inX12, tyX12_ok, nmX12⟩
theorem fX12_69 : mx_fld RX12 69 12 11 := ⟨RX12, TX12, 62, rfl, by decide, mx_in (i := 1557) (by decide +kernel) (by decide +kernel), rfl, inX12, tyX12_ok, nmX12⟩
theorem fX12_43 : mx_fld RX12 43 12 12 := ⟨RX12, TX12, 62, rfl, by decide, mx_in (i := 1558) (by decide +kernel) (by decide +kernel), rfl, inX12, tyX12_ok, nmX12⟩
theorem fX12_79 : mx_fld RX12 79 12 13 := ⟨RX12, TX12, 62, rfl, by decide, mx_in (i := 1559) (by decide +kernel) (by decide +kernel), rfl, inX12, tyX12_ok, nmX12⟩
theorem fX12_98 : mx_fld RX12 98 12 14 := ⟨RX12, TX12, 62, rfl, by decide, mx_in (i := 1560) (by decide +kernel) (by decide +kernel), rfl, inX12, tyX12_ok, nmX12⟩
theorem fX12_101 : mx_fld RX12 101 12 15 := ⟨RX12, TX12, 62, rfl, by decide, mx_in (i := 1561) (by decide +kernel) (by decide +kernel), rfl, inX12, tyX12_ok, nmX12⟩
theorem fX12_104 : mx_fld RX12 104 12 16 := ⟨RX12, TX12, 62, rfl, by decide, mx_in (i := 1562) (by decide +kernel) (by decide +kernel), rfl, inX12, tyX12_ok, nmX12⟩
theorem fX12_107 : mx_fld RX12 107 12 17 := ⟨RX12, TX12, 62, rfl, by decide, mx_in (i := 1563) (by decide +kernel) (by decide +kernel), rfl, inX12, tyX12_ok, nmX12⟩
theorem fX12_110 : mx_fld RX12 110 12 18 := ⟨RX12, TX12, 62, rfl, by decide, mx_in (i := 1564) (by decide +kernel) (by decide +kernel), rfl, inX12, tyX12_ok, nmX12⟩
theorem fX12_113 : mx_fld RX12 113 12 19 := ⟨RX12, TX12, 62, rfl, by decide, mx_in (i := 1565) (by decide +kernel) (by decide +kernel), rfl, inX12, tyX12_ok, nmX12⟩
theorem fX12_116 : mx_fld RX12 116 12 20 := ⟨RX12, TX12, 62, rfl, by decide, mx_in (i := 1566) (by decide +kernel) (by decide +kernel), rfl, inX12, tyX12_ok, nmX12⟩
theorem fX12_120 : mx_fld RX12 120 12 21 := ⟨RX12, TX12, 62, rfl, by decide, mx_in (i := 1567) (by decide +kernel) (by decide +kernel), rfl, inX12, tyX12_ok, nmX12⟩
theorem fX12_123 : mx_fld RX12 123 12 22 := ⟨RX12, TX12, 62, rfl, by decide, mx_in (i := 1568) (by decide +kernel) (by decide +kernel), rfl, inX12, tyX12_ok, nmX12⟩
theorem fX12_126 : mx_fld RX12 126 12 23 := ⟨RX12, TX12, 62, rfl, by decide, mx_in (i := 1569) (by decide +kernel) (by decide +kernel), rfl, inX12, tyX12_ok, nmX12⟩
theorem fX12_130 : mx_fld RX12 130 12 24 := ⟨RX12, TX12, 62, rfl, by decide, mx_in (i := 1570) (by decide +kernel) (by decide +kernel), rfl, inX12, tyX12_ok, nmX12⟩
theorem fX12_244 : mx_fld RX12 244 12 25 := ⟨RX12, TX12, 62, rfl, by decide, mx_in (i := 1571) (by decide +kernel) (by decide +kernel), rfl, inX12, tyX12_ok, nmX12⟩
theorem fX12_133 : mx_fld RX12 133 12 26 := ⟨RX12, TX12, 62, rfl, by decide, mx_in (i := 1572) (by decide +kernel) (by decide +kernel), rfl, inX12, tyX12_ok, nmX12⟩
theorem fX12_136 : mx_fld RX12 136 12 27 := ⟨RX12, TX12, 62, rfl, by decide, mx_in (i := 1573) (by decide +kernel) (by decide +kernel), rfl, inX12, tyX12_ok, nmX12⟩
theorem fX12_139 : mx_fld RX12 139 12 28 := ⟨RX12, TX12, 62, rfl, by decide, mx_in (i := 1574) (by decide +kernel) (by decide +kernel), rfl, inX12, tyX12_ok, nmX12⟩
theorem fX12_315 : mx_fld RX12 315 12 29 := ⟨RX12, TX12, 62, rfl, by decide, mx_in (i := 1575) (by decide +kernel) (by decide +kernel), rfl, inX12, tyX12_ok, nmX12⟩
theorem fX12_309 : mx_fld RX12 309 12 30 := ⟨RX12, TX12, 62, rfl, by decide, mx_in (i := 1576) (by decide +kernel) (by decide +kernel), rfl, inX12, tyX12_ok, nmX12⟩
theorem fX12_356 : mx_fld RX12 356 12 31 := ⟨RX12, TX12, 62, rfl, by decide, mx_in (i := 1577) (by decide +kernel) (by decide +kernel), rfl, inX12, tyX12_ok, nmX12⟩
theorem fX12_142 : mx_fld RX12 142 12 32 := ⟨RX12, TX12, 62, rfl, by decide, mx_in (i := 1578) (by decide +kernel) (by decide +kernel), rfl, inX12, tyX12_ok, nmX12⟩
theorem fX12_362 : mx_fld RX12 362 12 33 := ⟨RX12, TX12, 62, rfl, by decide, mx_in (i := 1579) (by decide +kernel) (by decide +kernel), rfl, inX12, tyX12_ok, nmX12⟩
theorem fX12_145 : mx_fld RX12 145 12 34 := ⟨RX12, TX12, 62, rfl, by decide, mx_in (i := 1580) (by decide +kernel) (by decide +kernel), rfl, inX12, tyX12_ok, nmX12⟩
theorem fX12_148 : mx_fld RX12 148 12 35 := ⟨RX12, TX12, 62, rfl, by decide, mx_in (i := 1581) (by decide +kernel) (by decide +kernel), rfl, inX12, tyX12_ok, nmX12⟩
theorem fX12_151 : mx_fld RX12 151 12 36 := ⟨RX12, TX12, 62, rfl, by decide, mx_in (i := 1582) (by decide +kernel) (by decide +kernel), rfl, inX12, tyX12_ok, nmX12⟩
theorem fX12_154 : mx_fld RX12 154 12 37 := ⟨RX12, TX12, 62, rfl, by decide, mx_in (i := 1583) (by decide +kernel) (by decide +kernel), rfl, inX12, tyX12_ok, nmX12⟩
theorem fX12_157 : mx_fld RX12 157 12 38 := ⟨RX12, TX12, 62, rfl, by decide, mx_in (i := 1584) (by decide +kernel) (by decide +kernel), rfl, inX12, tyX12_ok, nmX12⟩
theorem fX12_160 : mx_fld RX12 160 12 39 := ⟨RX12, TX12, 62, rfl, by decide, mx_in (i := 1585) (by decide +kernel) (by decide +kernel), rfl, inX12, tyX12_ok, nmX12⟩
theorem fX12_163 : mx_fld RX12 163 12 40 := ⟨RX12, TX12, 62, rfl, by decide, mx_in (i := 1586) (by decide +kernel) (by decide +kernel), rfl, inX12, tyX12_ok, nmX12⟩
theorem fX12_369 : mx_fld RX12 369 12 41 := ⟨RX12, TX12, 62, rfl, by decide, mx_in (i := 1587) (by decide +kernel) (by decide +kernel), rfl, inX12, tyX12_ok, nmX12⟩
theorem fX12_372 : mx_fld RX12 372 12 42 := ⟨RX12, TX12, 62, rfl, by decide, mx_in (i := 1588) (by decide +kernel) (by decide +kernel), rfl, inX12, tyX12_ok, nmX12⟩
theorem fX12_375 : mx_fld RX12 375 12 43 := ⟨RX12, TX12, 62, rfl, by decide, mx_in (i := 1589) (by decide +kernel) (by decide +kernel), rfl, inX12, tyX12_ok, nmX12⟩
theorem fX12_381 : mx_fld RX12 381 12 44 := ⟨RX12, TX12, 62, rfl, by decide, mx_in (i := 1590) (by decide +kernel) (by decide +kernel), rfl, inX12, tyX12_ok, nmX12⟩
theorem fX12_401 : mx_fld RX12 401 12 45 := ⟨RX12, TX12, 62, rfl, by decide, mx_in (i := 1591) (by decide +kernel) (by decide +kernel), rfl, inX12, tyX12_ok, nmX12⟩
theorem fX12_365 : mx_fld RX12 365 12 46 := ⟨RX12, TX12, 62, rfl, by decide, mx_in (i := 1592) (by decide +kernel) (by decide +kernel), rfl, inX12, tyX12_ok, nmX12⟩
theorem fX12_392 : mx_fld RX12 392 12 47 := ⟨RX12, TX12, 62, rfl, by decide, mx_in (i := 1593) (by decide +kernel) (by decide +kernel), rfl, inX12, tyX12_ok, nmX12⟩
theorem fX12_166 : mx_fld RX12 166 12 48 := ⟨RX12, TX12, 62, rfl, by decide, mx_in (i := 1594) (by decide +kernel) (by decide +kernel), rfl, inX12, tyX12_ok, nmX12⟩
theorem fX12_404 : mx_fld RX12 404 12 49 := ⟨RX12, TX12, 62, rfl, by decide, mx_in (i := 1595) (by decide +kernel) (by decide +kernel), rfl, inX12, tyX12_ok, nmX12⟩
theorem fX12_169 : mx_fld RX12 169 12 50 := ⟨RX12, TX12, 62, rfl, by decide, mx_in (i := 1596) (by decide +kernel) (by decide +kernel), rfl, inX12, tyX12_ok, nmX12⟩
theorem fX12_418 : mx_fld RX12 418 12 51 := ⟨RX12, TX12, 62, rfl, by decide, mx_in (i := 1597) (by decide +kernel) (by decide +kernel), rfl, inX12, tyX12_ok, nmX12⟩
theorem fX12_434 : mx_fld RX12 434 12 52 := ⟨RX12, TX12, 62, rfl, by decide, mx_in (i := 1598) (by decide +kernel) (by decide +kernel), rfl, inX12, tyX12_ok, nmX12⟩
theorem fX12_172 : mx_fld RX12 172 12 53 := ⟨RX12, TX12, 62, rfl, by decide, mx_in (i := 1599) (by decide +kernel) (by decide +kernel), rfl, inX12, tyX12_ok, nmX12⟩
theorem fX12_175 : mx_fld RX12 175 12 54 := ⟨RX12, TX12, 62, rfl, by decide, mx_in (i := 1600) (by decide +kernel) (by decide +kernel), rfl, inX12, tyX12_ok, nmX12⟩
theorem fX12_458 : mx_fld RX12 458 12 55 := ⟨RX12, TX12, 62, rfl, by decide, mx_in (i := 1601) (by decide +kernel) (by decide +kernel), rfl, inX12, tyX12_ok, nmX12⟩
theorem fX12_476 : mx_fld RX12 476 12 56 := ⟨RX12, TX12, 62, rfl, by decide, mx_in (i := 1602) (by decide +kernel) (by decide +kernel), rfl, inX12, tyX12_ok, nmX12⟩
theorem fX12_178 : mx_fld RX12 178 12 57 := ⟨RX12, TX12, 62, rfl, by decide, mx_in (i := 1603) (by decide +kernel) (by decide +kernel), rfl, inX12, tyX12_ok, nmX12⟩
theorem fX12_479 : mx_fld RX12 479 12 58 := ⟨RX12, TX12, 62, rfl, by decide, mx_in (i := 1604) (by decide +kernel) (by decide +kernel), rfl, inX12, tyX12_ok, nmX12⟩
theorem fX12_494 : mx_fld RX12 494 12 59 := ⟨RX12, TX12, 62, rfl, by decide, mx_in (i := 1605) (by decide +kernel) (by decide +kernel), rfl, inX12, tyX12_ok, nmX12⟩
theorem fX12_497 : mx_fld RX12 497 12 60 := ⟨RX12, TX12, 62, rfl, by decide, mx_in (i := 1606) (by decide +kernel) (by decide +kernel), rfl, inX12, tyX12_ok, nmX12⟩
theorem fX12_485 : mx_fld RX12 485 12 61 := ⟨RX12, TX12, 62, rfl, by decide, mx_in (i := 1607) (by decide +kernel) (by decide +kernel), rfl, inX12, tyX12_ok, nmX12⟩
theorem vJ0_charAt_5068e : Cond.instanceMethod yJ0_charAt_5068e ∈ mx_TB ∧ Cond.selects yJ0_charAt_5068e.cls yJ0_charAt_5068e yJ0_charAt_5068e ∈ mx_TB := ⟨mx_in (i := 51) (by decide +kernel) (by decide +kernel), mx_in (i := 52) (by decide +kernel) (by decide +kernel)⟩
theorem vJ0_coder_7d493 : Cond.instanceMethod yJ0_coder_7d493 ∈ mx_TB ∧ Cond.selects yJ0_coder_7d493.cls yJ0_coder_7d493 yJ0_coder_7d493 ∈ mx_TB := ⟨mx_in (i := 45) (by decide +kernel) (by decide +kernel), mx_in (i := 46) (by decide +kernel) (by decide +kernel)⟩
theorem vJ0_isLatin1_aae02 : Cond.instanceMethod yJ0_isLatin1_aae02 ∈ mx_TB ∧ Cond.selects yJ0_isLatin1_aae02.cls yJ0_isLatin1_aae02 yJ0_isLatin1_aae02 ∈ mx_TB := ⟨mx_in (i := 55) (by decide +kernel) (by decide +kernel), mx_in (i := 56) (by decide +kernel) (by decide +kernel)⟩
theorem vJ0_length_8abf5 : Cond.instanceMethod yJ0_length_8abf5 ∈ mx_TB ∧ Cond.selects yJ0_length_8abf5.cls yJ0_length_8abf5 yJ0_length_8abf5 ∈ mx_TB := ⟨mx_in (i := 41) (by decide +kernel) (by decide +kernel), mx_in (i := 42) (by decide +kernel) (by decide +kernel)⟩
theorem vX0_judge : Cond.instanceMethod yX0_judge ∈ mx_TB ∧ Cond.selects yX0_judge.cls yX0_judge yX0_judge ∈ mx_TB := ⟨mx_in (i := 1277) (by decide +kernel) (by decide +kernel), mx_in (i := 1278) (by decide +kernel) (by decide +kernel)⟩
theorem vX0_live : Cond.instanceMethod yX0_live ∈ mx_TB ∧ Cond.selects yX0_live.cls yX0_live yX0_live ∈ mx_TB := ⟨mx_in (i := 1282) (by decide +kernel) (by decide +kernel), mx_inS (i := 39) (by decide +kernel) (by decide +kernel)⟩
theorem vX0_read : Cond.instanceMethod yX0_read ∈ mx_TB ∧ Cond.selects yX0_read.cls yX0_read yX0_read ∈ mx_TB := ⟨mx_in (i := 1241) (by decide +kernel) (by decide +kernel), mx_in (i := 1242) (by decide +kernel) (by decide +kernel)⟩
theorem vX0_readFirst : Cond.instanceMethod yX0_readFirst ∈ mx_TB ∧ Cond.selects yX0_readFirst.cls yX0_readFirst yX0_readFirst ∈ mx_TB := ⟨mx_in (i := 1261) (by decide +kernel) (by decide +kernel), mx_inS (i := 36) (by decide +kernel) (by decide +kernel)⟩
theorem vX0_readLine : Cond.instanceMethod yX0_readLine ∈ mx_TB ∧ Cond.selects yX0_readLine.cls yX0_readLine yX0_readLine ∈ mx_TB := ⟨mx_in (i := 1248) (by decide +kernel) (by decide +kernel), mx_inS (i := 34) (by decide +kernel) (by decide +kernel)⟩
theorem vX0_readNumber : Cond.instanceMethod yX0_readNumber ∈ mx_TB ∧ Cond.selects yX0_readNumber.cls yX0_readNumber yX0_readNumber ∈ mx_TB := ⟨mx_in (i := 1272) (by decide +kernel) (by decide +kernel), mx_inS (i := 38) (by decide +kernel) (by decide +kernel)⟩
theorem vX0_readThird : Cond.instanceMethod yX0_readThird ∈ mx_TB ∧ Cond.selects yX0_readThird.cls yX0_readThird yX0_readThird ∈ mx_TB := ⟨mx_in (i := 1267) (by decide +kernel) (by decide +kernel), mx_inS (i := 37) (by decide +kernel) (by decide +kernel)⟩
theorem vX0_readTwo : Cond.instanceMethod yX0_readTwo ∈ mx_TB ∧ Cond.selects yX0_readTwo.cls yX0_readTwo yX0_readTwo ∈ mx_TB := ⟨mx_in (i := 1257) (by decide +kernel) (by decide +kernel), mx_inS (i := 35) (by decide +kernel) (by decide +kernel)⟩
theorem vX0_toldOf : Cond.instanceMethod yX0_toldOf ∈ mx_TB ∧ Cond.selects yX0_toldOf.cls yX0_toldOf yX0_toldOf ∈ mx_TB := ⟨mx_in (i := 1298) (by decide +kernel) (by decide +kernel), mx_in (i := 1299) (by decide +kernel) (by decide +kernel)⟩
theorem vX10_advance : Cond.instanceMethod yX10_advance ∈ mx_TB ∧ Cond.selects yX10_advance.cls yX10_advance yX10_advance ∈ mx_TB := ⟨mx_in (i := 500) (by decide +kernel) (by decide +kernel), mx_in (i := 501) (by decide +kernel) (by decide +kernel)⟩
theorem vX10_begin : Cond.instanceMethod yX10_begin ∈ mx_TB ∧ Cond.selects yX10_begin.cls yX10_begin yX10_begin ∈ mx_TB := ⟨mx_in (i := 493) (by decide +kernel) (by decide +kernel), mx_in (i := 494) (by decide +kernel) (by decide +kernel)⟩
theorem vX10_cut : Cond.instanceMethod yX10_cut ∈ mx_TB ∧ Cond.selects yX10_cut.cls yX10_cut yX10_cut ∈ mx_TB := ⟨mx_in (i := 477) (by decide +kernel) (by decide +kernel), mx_in (i := 478) (by decide +kernel) (by decide +kernel)⟩
theorem vX10_endsHere : Cond.instanceMethod yX10_endsHere ∈ mx_TB ∧ Cond.selects yX10_endsHere.cls yX10_endsHere yX10_endsHere ∈ mx_TB := ⟨mx_in (i := 617) (by decide +kernel) (by decide +kernel), mx_in (i := 618) (by decide +kernel) (by decide +kernel)⟩
theorem vX10_fail : Cond.instanceMethod yX10_fail ∈ mx_TB ∧ Cond.selects yX10_fail.cls yX10_fail yX10_fail ∈ mx_TB := ⟨mx_in (i := 529) (by decide +kernel) (by decide +kernel), mx_in (i := 530) (by decide +kernel) (by decide +kernel)⟩
theorem vX10_faultAt : Cond.instanceMethod yX10_faultAt ∈ mx_TB ∧ Cond.selects yX10_faultAt.cls yX10_faultAt yX10_faultAt ∈ mx_TB := ⟨mx_in (i := 621) (by decide +kernel) (by decide +kernel), mx_in (i := 622) (by decide +kernel) (by decide +kernel)⟩
theorem vX10_faultKind : Cond.instanceMethod yX10_faultKind ∈ mx_TB ∧ Cond.selects yX10_faultKind.cls yX10_faultKind yX10_faultKind ∈ mx_TB := ⟨mx_in (i := 656) (by decide +kernel) (by decide +kernel), mx_in (i := 657) (by decide +kernel) (by decide +kernel)⟩
theorem vX10_kind : Cond.instanceMethod yX10_kind ∈ mx_TB ∧ Cond.selects yX10_kind.cls yX10_kind yX10_kind ∈ mx_TB := ⟨mx_in (i := 512) (by decide +kernel) (by decide +kernel), mx_in (i := 513) (by decide +kernel) (by decide +kernel)⟩
theorem vX10_length : Cond.instanceMethod yX10_length ∈ mx_TB ∧ Cond.selects yX10_length.cls yX10_length yX10_length ∈ mx_TB := ⟨mx_in (i := 465) (by decide +kernel) (by decide +kernel), mx_in (i := 466) (by decide +kernel) (by decide +kernel)⟩
theorem vX10_pointHere : Cond.instanceMethod yX10_pointHere ∈ mx_TB ∧ Cond.selects yX10_pointHere.cls yX10_pointHere yX10_pointHere ∈ mx_TB := ⟨mx_in (i := 557) (by decide +kernel) (by decide +kernel), mx_in (i := 558) (by decide +kernel) (by decide +kernel)⟩
theorem vX10_putFour : Cond.instanceMethod yX10_putFour ∈ mx_TB ∧ Cond.selects yX10_putFour.cls yX10_putFour yX10_putFour ∈ mx_TB := ⟨mx_in (i := 469) (by decide +kernel) (by decide +kernel), mx_in (i := 470) (by decide +kernel) (by decide +kernel)⟩
theorem vX10_readChunk : Cond.instanceMethod yX10_readChunk ∈ mx_TB ∧ Cond.selects yX10_readChunk.cls yX10_readChunk yX10_readChunk ∈ mx_TB := ⟨mx_in (i := 509) (by decide +kernel) (by decide +kernel), mx_inS (i := 0) (by decide +kernel) (by decide +kernel)⟩
theorem vX10_signAt : Cond.instanceMethod yX10_signAt ∈ mx_TB ∧ Cond.selects yX10_signAt.cls yX10_signAt yX10_signAt ∈ mx_TB := ⟨mx_in (i := 504) (by decide +kernel) (by decide +kernel), mx_in (i := 505) (by decide +kernel) (by decide +kernel)⟩
theorem vX10_take : Cond.instanceMethod yX10_take ∈ mx_TB ∧ Cond.selects yX10_take.cls yX10_take yX10_take ∈ mx_TB := ⟨mx_in (i := 613) (by decide +kernel) (by decide +kernel), mx_in (i := 614) (by decide +kernel) (by decide +kernel)⟩
theorem vX10_takeNumber : Cond.instanceMethod yX10_takeNumber ∈ mx_TB ∧ Cond.selects yX10_takeNumber.cls yX10_takeNumber yX10_takeNumber ∈ mx_TB := ⟨mx_in (i := 572) (by decide +kernel) (by decide +kernel), mx_in (i := 573) (by decide +kernel) (by decide +kernel)⟩
theorem vX10_takePoint : Cond.instanceMethod yX10_takePoint ∈ mx_TB ∧ Cond.selects yX10_takePoint.cls yX10_takePoint yX10_takePoint ∈ mx_TB := ⟨mx_in (i := 553) (by decide +kernel) (by decide +kernel), mx_in (i := 554) (by decide +kernel) (by decide +kernel)⟩
theorem vX10_word : Cond.instanceMethod yX10_word ∈ mx_TB ∧ Cond.selects yX10_word.cls yX10_word yX10_word ∈ mx_TB := ⟨mx_in (i := 533) (by decide +kernel) (by decide +kernel), mx_in (i := 534) (by decide +kernel) (by decide +kernel)⟩
theorem vX11_areTwo : Cond.instanceMethod yX11_areTwo ∈ mx_TB ∧ Cond.selects yX11_areTwo.cls yX11_areTwo yX11_areTwo ∈ mx_TB := ⟨mx_in (i := 863) (by decide +kernel) (by decide +kernel), mx_inS (i := 20) (by decide +kernel) (by decide +kernel)⟩
theorem vX11_ask : Cond.instanceMethod yX11_ask ∈ mx_TB ∧ Cond.selects yX11_ask.cls yX11_ask yX11_ask ∈ mx_TB := ⟨mx_in (i := 1152) (by decide +kernel) (by decide +kernel), mx_in (i := 1153) (by decide +kernel) (by decide +kernel)⟩
theorem vX11_best : Cond.instanceMethod yX11_best ∈ mx_TB ∧ Cond.selects yX11_best.cls yX11_best yX11_best ∈ mx_TB := ⟨mx_in (i := 1071) (by decide +kernel) (by decide +kernel), mx_in (i := 1072) (by decide +kernel) (by decide +kernel)⟩
theorem vX11_bestOf : Cond.instanceMethod yX11_bestOf ∈ mx_TB ∧ Cond.selects yX11_bestOf.cls yX11_bestOf yX11_bestOf ∈ mx_TB := ⟨mx_in (i := 1089) (by decide +kernel) (by decide +kernel), mx_in (i := 1090) (by decide +kernel) (by decide +kernel)⟩
theorem vX11_book : Cond.instanceMethod yX11_book ∈ mx_TB ∧ Cond.selects yX11_book.cls yX11_book yX11_book ∈ mx_TB := ⟨mx_in (i := 1237) (by decide +kernel) (by decide +kernel), mx_in (i := 1238) (by decide +kernel) (by decide +kernel)⟩
theorem vX11_byteAt : Cond.instanceMethod yX11_byteAt ∈ mx_TB ∧ Cond.selects yX11_byteAt.cls yX11_byteAt yX11_byteAt ∈ mx_TB := ⟨mx_in (i := 1185) (by decide +kernel) (by decide +kernel), mx_in (i := 1186) (by decide +kernel) (by decide +kernel)⟩
theorem vX11_count : Cond.instanceMethod yX11_count ∈ mx_TB ∧ Cond.selects yX11_count.cls yX11_count yX11_count ∈ mx_TB := ⟨mx_in (i := 1411) (by decide +kernel) (by decide +kernel), mx_in (i := 1412) (by decide +kernel) (by decide +kernel)⟩
theorem vX11_crown : Cond.instanceMethod yX11_crown ∈ mx_TB ∧ Cond.selects yX11_crown.cls yX11_crown yX11_crown ∈ mx_TB := ⟨mx_in (i := 909) (by decide +kernel) (by decide +kernel), mx_in (i := 910) (by decide +kernel) (by decide +kernel)⟩
theorem vX11_drawn : Cond.instanceMethod yX11_drawn ∈ mx_TB ∧ Cond.selects yX11_drawn.cls yX11_drawn yX11_drawn ∈ mx_TB := ⟨mx_in (i := 1189) (by decide +kernel) (by decide +kernel), mx_in (i := 1190) (by decide +kernel) (by decide +kernel)⟩
theorem vX11_end : Cond.instanceMethod yX11_end ∈ mx_TB ∧ Cond.selects yX11_end.cls yX11_end yX11_end ∈ mx_TB := ⟨mx_in (i := 473) (by decide +kernel) (by decide +kernel), mx_in (i := 474) (by decide +kernel) (by decide +kernel)⟩
theorem vX11_fault : Cond.instanceMethod yX11_fault ∈ mx_TB ∧ Cond.selects yX11_fault.cls yX11_fault yX11_fault ∈ mx_TB := ⟨mx_in (i := 652) (by decide +kernel) (by decide +kernel), mx_in (i := 653) (by decide +kernel) (by decide +kernel)⟩
theorem vX11_feed : Cond.instanceMethod yX11_feed ∈ mx_TB ∧ Cond.selects yX11_feed.cls yX11_feed yX11_feed ∈ mx_TB := ⟨mx_in (i := 461) (by decide +kernel) (by decide +kernel), mx_in (i := 462) (by decide +kernel) (by decide +kernel)⟩
theorem vX11_flower : Cond.instanceMethod yX11_flower ∈ mx_TB ∧ Cond.selects yX11_flower.cls yX11_flower yX11_flower ∈ mx_TB := ⟨mx_in (i := 995) (by decide +kernel) (by decide +kernel), mx_in (i := 996) (by decide +kernel) (by decide +kernel)⟩
theorem vX11_flowerAt : Cond.instanceMethod yX11_flowerAt ∈ mx_TB ∧ Cond.selects yX11_flowerAt.cls yX11_flowerAt yX11_flowerAt ∈ mx_TB := ⟨mx_in (i := 1004) (by decide +kernel) (by decide +kernel), mx_in (i := 1005) (by decide +kernel) (by decide +kernel)⟩
theorem vX11_gain : Cond.instanceMethod yX11_gain ∈ mx_TB ∧ Cond.selects yX11_gain.cls yX11_gain yX11_gain ∈ mx_TB := ⟨mx_in (i := 1117) (by decide +kernel) (by decide +kernel), mx_in (i := 1118) (by decide +kernel) (by decide +kernel)⟩
theorem vX11_grow : Cond.instanceMethod yX11_grow ∈ mx_TB ∧ Cond.selects yX11_grow.cls yX11_grow yX11_grow ∈ mx_TB := ⟨mx_in (i := 925) (by decide +kernel) (by decide +kernel), mx_in (i := 926) (by decide +kernel) (by decide +kernel)⟩
theorem vX11_growAt : Cond.instanceMethod yX11_growAt ∈ mx_TB ∧ Cond.selects yX11_growAt.cls yX11_growAt yX11_growAt ∈ mx_TB := ⟨mx_in (i := 976) (by decide +kernel) (by decide +kernel), mx_in (i := 977) (by decide +kernel) (by decide +kernel)⟩
theorem vX11_heavy : Cond.instanceMethod yX11_heavy ∈ mx_TB ∧ Cond.selects yX11_heavy.cls yX11_heavy yX11_heavy ∈ mx_TB := ⟨mx_in (i := 1101) (by decide +kernel) (by decide +kernel), mx_in (i := 1102) (by decide +kernel) (by decide +kernel)⟩
theorem vX11_image : Cond.instanceMethod yX11_image ∈ mx_TB ∧ Cond.selects yX11_image.cls yX11_image yX11_image ∈ mx_TB := ⟨mx_in (i := 1389) (by decide +kernel) (by decide +kernel), mx_in (i := 1390) (by decide +kernel) (by decide +kernel)⟩
theorem vX11_isAsking : Cond.instanceMethod yX11_isAsking ∈ mx_TB ∧ Cond.selects yX11_isAsking.cls yX11_isAsking yX11_isAsking ∈ mx_TB := ⟨mx_in (i := 1138) (by decide +kernel) (by decide +kernel), mx_inS (i := 29) (by decide +kernel) (by decide +kernel)⟩
theorem vX11_keepIfDone : Cond.instanceMethod yX11_keepIfDone ∈ mx_TB ∧ Cond.selects yX11_keepIfDone.cls yX11_keepIfDone yX11_keepIfDone ∈ mx_TB := ⟨mx_in (i := 877) (by decide +kernel) (by decide +kernel), mx_inS (i := 21) (by decide +kernel) (by decide +kernel)⟩
theorem vX11_link : Cond.instanceMethod yX11_link ∈ mx_TB ∧ Cond.selects yX11_link.cls yX11_link yX11_link ∈ mx_TB := ⟨mx_in (i := 660) (by decide +kernel) (by decide +kernel), mx_in (i := 661) (by decide +kernel) (by decide +kernel)⟩
theorem vX11_mean : Cond.instanceMethod yX11_mean ∈ mx_TB ∧ Cond.selects yX11_mean.cls yX11_mean yX11_mean ∈ mx_TB := ⟨mx_in (i := 1513) (by decide +kernel) (by decide +kernel), mx_in (i := 1514) (by decide +kernel) (by decide +kernel)⟩
theorem vX11_network : Cond.instanceMethod yX11_network ∈ mx_TB ∧ Cond.selects yX11_network.cls yX11_network yX11_network ∈ mx_TB := ⟨mx_in (i := 481) (by decide +kernel) (by decide +kernel), mx_in (i := 482) (by decide +kernel) (by decide +kernel)⟩
theorem vX11_next : Cond.instanceMethod yX11_next ∈ mx_TB ∧ Cond.selects yX11_next.cls yX11_next yX11_next ∈ mx_TB := ⟨mx_in (i := 1093) (by decide +kernel) (by decide +kernel), mx_in (i := 1094) (by decide +kernel) (by decide +kernel)⟩
theorem vX11_noteFlaw : Cond.instanceMethod yX11_noteFlaw ∈ mx_TB ∧ Cond.selects yX11_noteFlaw.cls yX11_noteFlaw yX11_noteFlaw ∈ mx_TB := ⟨mx_in (i := 1036) (by decide +kernel) (by decide +kernel), mx_inS (i := 25) (by decide +kernel) (by decide +kernel)⟩
theorem vX11_now : Cond.instanceMethod yX11_now ∈ mx_TB ∧ Cond.selects yX11_now.cls yX11_now yX11_now ∈ mx_TB := ⟨mx_in (i := 803) (by decide +kernel) (by decide +kernel), mx_in (i := 804) (by decide +kernel) (by decide +kernel)⟩
theorem vX11_odd : Cond.instanceMethod yX11_odd ∈ mx_TB ∧ Cond.selects yX11_odd.cls yX11_odd yX11_odd ∈ mx_TB := ⟨mx_in (i := 778) (by decide +kernel) (by decide +kernel), mx_in (i := 779) (by decide +kernel) (by decide +kernel)⟩
theorem vX11_odds : Cond.instanceMethod yX11_odds ∈ mx_TB ∧ Cond.selects yX11_odds.cls yX11_odds yX11_odds ∈ mx_TB := ⟨mx_in (i := 1233) (by decide +kernel) (by decide +kernel), mx_in (i := 1234) (by decide +kernel) (by decide +kernel)⟩
theorem vX11_open : Cond.instanceMethod yX11_open ∈ mx_TB ∧ Cond.selects yX11_open.cls yX11_open yX11_open ∈ mx_TB := ⟨mx_in (i := 917) (by decide +kernel) (by decide +kernel), mx_in (i := 918) (by decide +kernel) (by decide +kernel)⟩
theorem vX11_pair : Cond.instanceMethod yX11_pair ∈ mx_TB ∧ Cond.selects yX11_pair.cls yX11_pair yX11_pair ∈ mx_TB := ⟨mx_in (i := 858) (by decide +kernel) (by decide +kernel), mx_in (i := 859) (by decide +kernel) (by decide +kernel)⟩
theorem vX11_part : Cond.instanceMethod yX11_part ∈ mx_TB ∧ Cond.selects yX11_part.cls yX11_part yX11_part ∈ mx_TB := ⟨mx_in (i := 885) (by decide +kernel) (by decide +kernel), mx_in (i := 886) (by decide +kernel) (by decide +kernel)⟩
theorem vX11_pictureAt : Cond.instanceMethod yX11_pictureAt ∈ mx_TB ∧ Cond.selects yX11_pictureAt.cls yX11_pictureAt yX11_pictureAt ∈ mx_TB := ⟨mx_in (i := 1394) (by decide +kernel) (by decide +kernel), mx_inS (i := 45) (by decide +kernel) (by decide +kernel)⟩
theorem vX11_point : Cond.instanceMethod yX11_point ∈ mx_TB ∧ Cond.selects yX11_point.cls yX11_point yX11_point ∈ mx_TB := ⟨mx_in (i := 1422) (by decide +kernel) (by decide +kernel), mx_in (i := 1423) (by decide +kernel) (by decide +kernel)⟩
theorem vX11_price : Cond.instanceMethod yX11_price ∈ mx_TB ∧ Cond.selects yX11_price.cls yX11_price yX11_price ∈ mx_TB := ⟨mx_in (i := 901) (by decide +kernel) (by decide +kernel), mx_in (i := 902) (by decide +kernel) (by decide +kernel)⟩
theorem vX11_proof : Cond.instanceMethod yX11_proof ∈ mx_TB ∧ Cond.selects yX11_proof.cls yX11_proof yX11_proof ∈ mx_TB := ⟨mx_in (i := 1026) (by decide +kernel) (by decide +kernel), mx_in (i := 1027) (by decide +kernel) (by decide +kernel)⟩
theorem vX11_proofAt : Cond.instanceMethod yX11_proofAt ∈ mx_TB ∧ Cond.selects yX11_proofAt.cls yX11_proofAt yX11_proofAt ∈ mx_TB := ⟨mx_in (i := 1053) (by decide +kernel) (by decide +kernel), mx_in (i := 1054) (by decide +kernel) (by decide +kernel)⟩
theorem vX11_proofBy : Cond.instanceMethod yX11_proofBy ∈ mx_TB ∧ Cond.selects yX11_proofBy.cls yX11_proofBy yX11_proofBy ∈ mx_TB := ⟨mx_in (i := 1506) (by decide +kernel) (by decide +kernel), mx_in (i := 1507) (by decide +kernel) (by decide +kernel)⟩
theorem vX11_restore : Cond.instanceMethod yX11_restore ∈ mx_TB ∧ Cond.selects yX11_restore.cls yX11_restore yX11_restore ∈ mx_TB := ⟨mx_in (i := 1403) (by decide +kernel) (by decide +kernel), mx_in (i := 1404) (by decide +kernel) (by decide +kernel)⟩
theorem vX11_room : Cond.instanceMethod yX11_room ∈ mx_TB ∧ Cond.selects yX11_room.cls yX11_room yX11_room ∈ mx_TB := ⟨mx_in (i := 1057) (by decide +kernel) (by decide +kernel), mx_in (i := 1058) (by decide +kernel) (by decide +kernel)⟩
theorem vX11_said : Cond.instanceMethod yX11_said ∈ mx_TB ∧ Cond.selects yX11_said.cls yX11_said yX11_said ∈ mx_TB := ⟨mx_in (i := 1352) (by decide +kernel) (by decide +kernel), mx_in (i := 1353) (by decide +kernel) (by decide +kernel)⟩
theorem vX11_sentence : Cond.instanceMethod yX11_sentence ∈ mx_TB ∧ Cond.selects yX11_sentence.cls yX11_sentence yX11_sentence ∈ mx_TB := ⟨mx_in (i := 1306) (by decide +kernel) (by decide +kernel), mx_in (i := 1307) (by decide +kernel) (by decide +kernel)⟩
theorem vX11_shrink : Cond.instanceMethod yX11_shrink ∈ mx_TB ∧ Cond.selects yX11_shrink.cls yX11_shrink yX11_shrink ∈ mx_TB := ⟨mx_in (i := 1008) (by decide +kernel) (by decide +kernel), mx_in (i := 1009) (by decide +kernel) (by decide +kernel)⟩
theorem vX11_slack : Cond.instanceMethod yX11_slack ∈ mx_TB ∧ Cond.selects yX11_slack.cls yX11_slack yX11_slack ∈ mx_TB := ⟨mx_in (i := 1499) (by decide +kernel) (by decide +kernel), mx_in (i := 1500) (by decide +kernel) (by decide +kernel)⟩
theorem vX11_tag : Cond.instanceMethod yX11_tag ∈ mx_TB ∧ Cond.selects yX11_tag.cls yX11_tag yX11_tag ∈ mx_TB := ⟨mx_in (i := 1156) (by decide +kernel) (by decide +kernel), mx_in (i := 1157) (by decide +kernel) (by decide +kernel)⟩
theorem vX11_told : Cond.instanceMethod yX11_told ∈ mx_TB ∧ Cond.selects yX11_told.cls yX11_told yX11_told ∈ mx_TB := ⟨mx_in (i := 1302) (by decide +kernel) (by decide +kernel), mx_in (i := 1303) (by decide +kernel) (by decide +kernel)⟩
theorem vX11_turn : Cond.instanceMethod yX11_turn ∈ mx_TB ∧ Cond.selects yX11_turn.cls yX11_turn yX11_turn ∈ mx_TB := ⟨mx_in (i := 981) (by decide +kernel) (by decide +kernel), mx_in (i := 982) (by decide +kernel) (by decide +kernel)⟩
theorem vX11_undo : Cond.instanceMethod yX11_undo ∈ mx_TB ∧ Cond.selects yX11_undo.cls yX11_undo yX11_undo ∈ mx_TB := ⟨mx_in (i := 1018) (by decide +kernel) (by decide +kernel), mx_in (i := 1019) (by decide +kernel) (by decide +kernel)⟩
theorem vX11_ways : Cond.instanceMethod yX11_ways ∈ mx_TB ∧ Cond.selects yX11_ways.cls yX11_ways yX11_ways ∈ mx_TB := ⟨mx_in (i := 1109) (by decide +kernel) (by decide +kernel), mx_in (i := 1110) (by decide +kernel) (by decide +kernel)⟩
theorem vX11_weigh : Cond.instanceMethod yX11_weigh ∈ mx_TB ∧ Cond.selects yX11_weigh.cls yX11_weigh yX11_weigh ∈ mx_TB := ⟨mx_in (i := 893) (by decide +kernel) (by decide +kernel), mx_in (i := 894) (by decide +kernel) (by decide +kernel)⟩
theorem vX11_who : Cond.instanceMethod yX11_who ∈ mx_TB ∧ Cond.selects yX11_who.cls yX11_who yX11_who ∈ mx_TB := ⟨mx_in (i := 1133) (by decide +kernel) (by decide +kernel), mx_in (i := 1134) (by decide +kernel) (by decide +kernel)⟩
theorem vX12_act : Cond.instanceMethod yX12_act ∈ mx_TB ∧ Cond.selects yX12_act.cls yX12_act yX12_act ∈ mx_TB := ⟨mx_in (i := 1997) (by decide +kernel) (by decide +kernel), mx_inS (i := 95) (by decide +kernel) (by decide +kernel)⟩
theorem vX12_areLinked : Cond.instanceMethod yX12_areLinked ∈ mx_TB ∧ Cond.selects yX12_areLinked.cls yX12_areLinked yX12_areLinked ∈ mx_TB := ⟨mx_in (i := 1914) (by decide +kernel) (by decide +kernel), mx_inS (i := 83) (by decide +kernel) (by decide +kernel)⟩
theorem vX12_arePaired : Cond.instanceMethod yX12_arePaired ∈ mx_TB ∧ Cond.selects yX12_arePaired.cls yX12_arePaired yX12_arePaired ∈ mx_TB := ⟨mx_in (i := 1886) (by decide +kernel) (by decide +kernel), mx_inS (i := 76) (by decide +kernel) (by decide +kernel)⟩
theorem vX12_areTwo : Cond.instanceMethod yX12_areTwo ∈ mx_TB ∧ Cond.selects yX12_areTwo.cls yX12_areTwo yX12_areTwo ∈ mx_TB := ⟨mx_in (i := 1993) (by decide +kernel) (by decide +kernel), mx_inS (i := 94) (by decide +kernel) (by decide +kernel)⟩
theorem vX12_ask : Cond.instanceMethod yX12_ask ∈ mx_TB ∧ Cond.selects yX12_ask.cls yX12_ask yX12_ask ∈ mx_TB := ⟨mx_in (i := 2112) (by decide +kernel) (by decide +kernel), mx_in (i := 2113) (by decide +kernel) (by decide +kernel)⟩
theorem vX12_bad : Cond.instanceMethod yX12_bad ∈ mx_TB ∧ Cond.selects yX12_bad.cls yX12_bad yX12_bad ∈ mx_TB := ⟨mx_in (i := 1786) (by decide +kernel) (by decide +kernel), mx_inS (i := 57) (by decide +kernel) (by decide +kernel)⟩
theorem vX12_begin : Cond.instanceMethod yX12_begin ∈ mx_TB ∧ Cond.selects yX12_begin.cls yX12_begin yX12_begin ∈ mx_TB := ⟨mx_in (i := 1740) (by decide +kernel) (by decide +kernel), mx_inS (i := 49) (by decide +kernel) (by decide +kernel)⟩
theorem vX12_best : Cond.instanceMethod yX12_best ∈ mx_TB ∧ Cond.selects yX12_best.cls yX12_best yX12_best ∈ mx_TB := ⟨mx_in (i := 2088) (by decide +kernel) (by decide +kernel), mx_in (i := 2089) (by decide +kernel) (by decide +kernel)⟩
theorem vX12_bestOf : Cond.instanceMethod yX12_bestOf ∈ mx_TB ∧ Cond.selects yX12_bestOf.cls yX12_bestOf yX12_bestOf ∈ mx_TB := ⟨mx_in (i := 2092) (by decide +kernel) (by decide +kernel), mx_in (i := 2093) (by decide +kernel) (by decide +kernel)⟩
theorem vX12_between : Cond.instanceMethod yX12_between ∈ mx_TB ∧ Cond.selects yX12_between.cls yX12_between yX12_between ∈ mx_TB := ⟨mx_in (i := 1918) (by decide +kernel) (by decide +kernel), mx_inS (i := 84) (by decide +kernel) (by decide +kernel)⟩
theorem vX12_book : Cond.instanceMethod yX12_book ∈ mx_TB ∧ Cond.selects yX12_book.cls yX12_book yX12_book ∈ mx_TB := ⟨mx_in (i := 2192) (by decide +kernel) (by decide +kernel), mx_in (i := 2193) (by decide +kernel) (by decide +kernel)⟩
theorem vX12_boundNow : Cond.instanceMethod yX12_boundNow ∈ mx_TB ∧ Cond.selects yX12_boundNow.cls yX12_boundNow yX12_boundNow ∈ mx_TB := ⟨mx_in (i := 1954) (by decide +kernel) (by decide +kernel), mx_inS (i := 90) (by decide +kernel) (by decide +kernel)⟩
theorem vX12_breaks : Cond.instanceMethod yX12_breaks ∈ mx_TB ∧ Cond.selects yX12_breaks.cls yX12_breaks yX12_breaks ∈ mx_TB := ⟨mx_in (i := 2073) (by decide +kernel) (by decide +kernel), mx_inS (i := 105) (by decide +kernel) (by decide +kernel)⟩
theorem vX12_byteAt : Cond.instanceMethod yX12_byteAt ∈ mx_TB ∧ Cond.selects yX12_byteAt.cls yX12_byteAt yX12_byteAt ∈ mx_TB := ⟨mx_in (i := 2155) (by decide +kernel) (by decide +kernel), mx_in (i := 2156) (by decide +kernel) (by decide +kernel)⟩
theorem vX12_come : Cond.instanceMethod yX12_come ∈ mx_TB ∧ Cond.selects yX12_come.cls yX12_come yX12_come ∈ mx_TB := ⟨mx_in (i := 1530) (by decide +kernel) (by decide +kernel), mx_inS (i := 47) (by decide +kernel) (by decide +kernel)⟩
theorem vX12_comeBack : Cond.instanceMethod yX12_comeBack ∈ mx_TB ∧ Cond.selects yX12_comeBack.cls yX12_comeBack yX12_comeBack ∈ mx_TB := ⟨mx_in (i := 2065) (by decide +kernel) (by decide +kernel), mx_inS (i := 104) (by decide +kernel) (by decide +kernel)⟩
theorem vX12_count : Cond.instanceMethod yX12_count ∈ mx_TB ∧ Cond.selects yX12_count.cls yX12_count yX12_count ∈ mx_TB := ⟨mx_in (i := 2280) (by decide +kernel) (by decide +kernel), mx_in (i := 2281) (by decide +kernel) (by decide +kernel)⟩
theorem vX12_crown : Cond.instanceMethod yX12_crown ∈ mx_TB ∧ Cond.selects yX12_crown.cls yX12_crown yX12_crown ∈ mx_TB := ⟨mx_in (i := 2036) (by decide +kernel) (by decide +kernel), mx_in (i := 2037) (by decide +kernel) (by decide +kernel)⟩
theorem vX12_doIf : Cond.instanceMethod yX12_doIf ∈ mx_TB ∧ Cond.selects yX12_doIf.cls yX12_doIf yX12_doIf ∈ mx_TB := ⟨mx_in (i := 2181) (by decide +kernel) (by decide +kernel), mx_inS (i := 116) (by decide +kernel) (by decide +kernel)⟩
theorem vX12_draw : Cond.instanceMethod yX12_draw ∈ mx_TB ∧ Cond.selects yX12_draw.cls yX12_draw yX12_draw ∈ mx_TB := ⟨mx_in (i := 2172) (by decide +kernel) (by decide +kernel), mx_inS (i := 114) (by decide +kernel) (by decide +kernel)⟩
theorem vX12_drawDeeds : Cond.instanceMethod yX12_drawDeeds ∈ mx_TB ∧ Cond.selects yX12_drawDeeds.cls yX12_drawDeeds yX12_drawDeeds ∈ mx_TB := ⟨mx_in (i := 2164) (by decide +kernel) (by decide +kernel), mx_inS (i := 112) (by decide +kernel) (by decide +kernel)⟩
theorem vX12_drawPoint : Cond.instanceMethod yX12_drawPoint ∈ mx_TB ∧ Cond.selects yX12_drawPoint.cls yX12_drawPoint yX12_drawPoint ∈ mx_TB := ⟨mx_in (i := 2177) (by decide +kernel) (by decide +kernel), mx_inS (i := 115) (by decide +kernel) (by decide +kernel)⟩
theorem vX12_drawn : Cond.instanceMethod yX12_drawn ∈ mx_TB ∧ Cond.selects yX12_drawn.cls yX12_drawn yX12_drawn ∈ mx_TB := ⟨mx_in (i := 2159) (by decide +kernel) (by decide +kernel), mx_in (i := 2160) (by decide +kernel) (by decide +kernel)⟩
theorem vX12_drawsDeed : Cond.instanceMethod yX12_drawsDeed ∈ mx_TB ∧ Cond.selects yX12_drawsDeed.cls yX12_drawsDeed yX12_drawsDeed ∈ mx_TB := ⟨mx_in (i := 2168) (by decide +kernel) (by decide +kernel), mx_inS (i := 113) (by decide +kernel) (by decide +kernel)⟩
theorem vX12_end : Cond.instanceMethod yX12_end ∈ mx_TB ∧ Cond.selects yX12_end.cls yX12_end yX12_end ∈ mx_TB := ⟨mx_in (i := 1534) (by decide +kernel) (by decide +kernel), mx_in (i := 1535) (by decide +kernel) (by decide +kernel)⟩
theorem vX12_fateOf : Cond.instanceMethod yX12_fateOf ∈ mx_TB ∧ Cond.selects yX12_fateOf.cls yX12_fateOf yX12_fateOf ∈ mx_TB := ⟨mx_in (i := 1890) (by decide +kernel) (by decide +kernel), mx_inS (i := 77) (by decide +kernel) (by decide +kernel)⟩
theorem vX12_fault : Cond.instanceMethod yX12_fault ∈ mx_TB ∧ Cond.selects yX12_fault.cls yX12_fault yX12_fault ∈ mx_TB := ⟨mx_in (i := 1845) (by decide +kernel) (by decide +kernel), mx_in (i := 1846) (by decide +kernel) (by decide +kernel)⟩
theorem vX12_feed : Cond.instanceMethod yX12_feed ∈ mx_TB ∧ Cond.selects yX12_feed.cls yX12_feed yX12_feed ∈ mx_TB := ⟨mx_in (i := 1525) (by decide +kernel) (by decide +kernel), mx_in (i := 1526) (by decide +kernel) (by decide +kernel)⟩
theorem vX12_flower : Cond.instanceMethod yX12_flower ∈ mx_TB ∧ Cond.selects yX12_flower.cls yX12_flower yX12_flower ∈ mx_TB := ⟨mx_in (i := 1976) (by decide +kernel) (by decide +kernel), mx_in (i := 1977) (by decide +kernel) (by decide +kernel)⟩
theorem vX12_flowerAt : Cond.instanceMethod yX12_flowerAt ∈ mx_TB ∧ Cond.selects yX12_flowerAt.cls yX12_flowerAt yX12_flowerAt ∈ mx_TB := ⟨mx_in (i := 1984) (by decide +kernel) (by decide +kernel), mx_in (i := 1985) (by decide +kernel) (by decide +kernel)⟩
theorem vX12_flowers : Cond.instanceMethod yX12_flowers ∈ mx_TB ∧ Cond.selects yX12_flowers.cls yX12_flowers yX12_flowers ∈ mx_TB := ⟨mx_in (i := 1981) (by decide +kernel) (by decide +kernel), mx_inS (i := 93) (by decide +kernel) (by decide +kernel)⟩
theorem vX12_fraction : Cond.instanceMethod yX12_fraction ∈ mx_TB ∧ Cond.selects yX12_fraction.cls yX12_fraction yX12_fraction ∈ mx_TB := ⟨mx_in (i := 2129) (by decide +kernel) (by decide +kernel), mx_inS (i := 107) (by decide +kernel) (by decide +kernel)⟩
theorem vX12_gain : Cond.instanceMethod yX12_gain ∈ mx_TB ∧ Cond.selects yX12_gain.cls yX12_gain yX12_gain ∈ mx_TB := ⟨mx_in (i := 2116) (by decide +kernel) (by decide +kernel), mx_in (i := 2117) (by decide +kernel) (by decide +kernel)⟩
theorem vX12_go : Cond.instanceMethod yX12_go ∈ mx_TB ∧ Cond.selects yX12_go.cls yX12_go yX12_go ∈ mx_TB := ⟨mx_in (i := 1748) (by decide +kernel) (by decide +kernel), mx_inS (i := 51) (by decide +kernel) (by decide +kernel)⟩
theorem vX12_goBy : Cond.instanceMethod yX12_goBy ∈ mx_TB ∧ Cond.selects yX12_goBy.cls yX12_goBy yX12_goBy ∈ mx_TB := ⟨mx_in (i := 2213) (by decide +kernel) (by decide +kernel), mx_inS (i := 122) (by decide +kernel) (by decide +kernel)⟩
theorem vX12_goesOn : Cond.instanceMethod yX12_goesOn ∈ mx_TB ∧ Cond.selects yX12_goesOn.cls yX12_goesOn yX12_goesOn ∈ mx_TB := ⟨mx_in (i := 1969) (by decide +kernel) (by decide +kernel), mx_inS (i := 92) (by decide +kernel) (by decide +kernel)⟩
theorem vX12_grow : Cond.instanceMethod yX12_grow ∈ mx_TB ∧ Cond.selects yX12_grow.cls yX12_grow yX12_grow ∈ mx_TB := ⟨mx_in (i := 1960) (by decide +kernel) (by decide +kernel), mx_in (i := 1961) (by decide +kernel) (by decide +kernel)⟩
theorem vX12_growAt : Cond.instanceMethod yX12_growAt ∈ mx_TB ∧ Cond.selects yX12_growAt.cls yX12_growAt yX12_growAt ∈ mx_TB := ⟨mx_in (i := 1972) (by decide +kernel) (by decide +kernel), mx_in (i := 1973) (by decide +kernel) (by decide +kernel)⟩
theorem vX12_heavy : Cond.instanceMethod yX12_heavy ∈ mx_TB ∧ Cond.selects yX12_heavy.cls yX12_heavy yX12_heavy ∈ mx_TB := ⟨mx_in (i := 2100) (by decide +kernel) (by decide +kernel), mx_in (i := 2101) (by decide +kernel) (by decide +kernel)⟩
theorem vX12_holds : Cond.instanceMethod yX12_holds ∈ mx_TB ∧ Cond.selects yX12_holds.cls yX12_holds yX12_holds ∈ mx_TB := ⟨mx_in (i := 2265) (by decide +kernel) (by decide +kernel), mx_inS (i := 132) (by decide +kernel) (by decide +kernel)⟩
theorem vX12_image : Cond.instanceMethod yX12_image ∈ mx_TB ∧ Cond.selects yX12_image.cls yX12_image yX12_image ∈ mx_TB := ⟨mx_in (i := 2272) (by decide +kernel) (by decide +kernel), mx_in (i := 2273) (by decide +kernel) (by decide +kernel)⟩
theorem vX12_isAsked : Cond.instanceMethod yX12_isAsked ∈ mx_TB ∧ Cond.selects yX12_isAsked.cls yX12_isAsked yX12_isAsked ∈ mx_TB := ⟨mx_in (i := 1910) (by decide +kernel) (by decide +kernel), mx_inS (i := 82) (by decide +kernel) (by decide +kernel)⟩
theorem vX12_isAt : Cond.instanceMethod yX12_isAt ∈ mx_TB ∧ Cond.selects yX12_isAt.cls yX12_isAt yX12_isAt ∈ mx_TB := ⟨mx_in (i := 1866) (by decide +kernel) (by decide +kernel), mx_inS (i := 72) (by decide +kernel) (by decide +kernel)⟩
theorem vX12_isFlower : Cond.instanceMethod yX12_isFlower ∈ mx_TB ∧ Cond.selects yX12_isFlower.cls yX12_isFlower yX12_isFlower ∈ mx_TB := ⟨mx_in (i := 2057) (by decide +kernel) (by decide +kernel), mx_inS (i := 103) (by decide +kernel) (by decide +kernel)⟩
theorem vX12_isHere : Cond.instanceMethod yX12_isHere ∈ mx_TB ∧ Cond.selects yX12_isHere.cls yX12_isHere yX12_isHere ∈ mx_TB := ⟨mx_in (i := 1801) (by decide +kernel) (by decide +kernel), mx_inS (i := 60) (by decide +kernel) (by decide +kernel)⟩
theorem vX12_isLink : Cond.instanceMethod yX12_isLink ∈ mx_TB ∧ Cond.selects yX12_isLink.cls yX12_isLink yX12_isLink ∈ mx_TB := ⟨mx_in (i := 1878) (by decide +kernel) (by decide +kernel), mx_inS (i := 74) (by decide +kernel) (by decide +kernel)⟩
theorem vX12_isLone : Cond.instanceMethod yX12_isLone ∈ mx_TB ∧ Cond.selects yX12_isLone.cls yX12_isLone yX12_isLone ∈ mx_TB := ⟨mx_in (i := 1950) (by decide +kernel) (by decide +kernel), mx_inS (i := 89) (by decide +kernel) (by decide +kernel)⟩
theorem vX12_isName : Cond.instanceMethod yX12_isName ∈ mx_TB ∧ Cond.selects yX12_isName.cls yX12_isName yX12_isName ∈ mx_TB := ⟨mx_in (i := 1790) (by decide +kernel) (by decide +kernel), mx_inS (i := 58) (by decide +kernel) (by decide +kernel)⟩
theorem vX12_isOdd : Cond.instanceMethod yX12_isOdd ∈ mx_TB ∧ Cond.selects yX12_isOdd.cls yX12_isOdd yX12_isOdd ∈ mx_TB := ⟨mx_in (i := 1930) (by decide +kernel) (by decide +kernel), mx_inS (i := 85) (by decide +kernel) (by decide +kernel)⟩
theorem vX12_isOddIn : Cond.instanceMethod yX12_isOddIn ∈ mx_TB ∧ Cond.selects yX12_isOddIn.cls yX12_isOddIn yX12_isOddIn ∈ mx_TB := ⟨mx_in (i := 1838) (by decide +kernel) (by decide +kernel), mx_inS (i := 67) (by decide +kernel) (by decide +kernel)⟩
theorem vX12_isOfPair : Cond.instanceMethod yX12_isOfPair ∈ mx_TB ∧ Cond.selects yX12_isOfPair.cls yX12_isOfPair yX12_isOfPair ∈ mx_TB := ⟨mx_in (i := 1882) (by decide +kernel) (by decide +kernel), mx_inS (i := 75) (by decide +kernel) (by decide +kernel)⟩
theorem vX12_isPath : Cond.instanceMethod yX12_isPath ∈ mx_TB ∧ Cond.selects yX12_isPath.cls yX12_isPath yX12_isPath ∈ mx_TB := ⟨mx_in (i := 2049) (by decide +kernel) (by decide +kernel), mx_inS (i := 102) (by decide +kernel) (by decide +kernel)⟩
theorem vX12_isPoint : Cond.instanceMethod yX12_isPoint ∈ mx_TB ∧ Cond.selects yX12_isPoint.cls yX12_isPoint yX12_isPoint ∈ mx_TB := ⟨mx_in (i := 1854) (by decide +kernel) (by decide +kernel), mx_inS (i := 69) (by decide +kernel) (by decide +kernel)⟩
theorem vX12_isSign : Cond.instanceMethod yX12_isSign ∈ mx_TB ∧ Cond.selects yX12_isSign.cls yX12_isSign yX12_isSign ∈ mx_TB := ⟨mx_in (i := 1834) (by decide +kernel) (by decide +kernel), mx_inS (i := 66) (by decide +kernel) (by decide +kernel)⟩
theorem vX12_isWord : Cond.instanceMethod yX12_isWord ∈ mx_TB ∧ Cond.selects yX12_isWord.cls yX12_isWord yX12_isWord ∈ mx_TB := ⟨mx_in (i := 1768) (by decide +kernel) (by decide +kernel), mx_inS (i := 54) (by decide +kernel) (by decide +kernel)⟩
theorem vX12_keep : Cond.instanceMethod yX12_keep ∈ mx_TB ∧ Cond.selects yX12_keep.cls yX12_keep yX12_keep ∈ mx_TB := ⟨mx_in (i := 2205) (by decide +kernel) (by decide +kernel), mx_inS (i := 120) (by decide +kernel) (by decide +kernel)⟩
theorem vX12_layPath : Cond.instanceMethod yX12_layPath ∈ mx_TB ∧ Cond.selects yX12_layPath.cls yX12_layPath yX12_layPath ∈ mx_TB := ⟨mx_in (i := 1965) (by decide +kernel) (by decide +kernel), mx_inS (i := 91) (by decide +kernel) (by decide +kernel)⟩
theorem vX12_leaf : Cond.instanceMethod yX12_leaf ∈ mx_TB ∧ Cond.selects yX12_leaf.cls yX12_leaf yX12_leaf ∈ mx_TB := ⟨mx_in (i := 1906) (by decide +kernel) (by decide +kernel), mx_inS (i := 81) (by decide +kernel) (by decide +kernel)⟩
theorem vX12_link : Cond.instanceMethod yX12_link ∈ mx_TB ∧ Cond.selects yX12_link.cls yX12_link yX12_link ∈ mx_TB := ⟨mx_in (i := 1873) (by decide +kernel) (by decide +kernel), mx_in (i := 1874) (by decide +kernel) (by decide +kernel)⟩
theorem vX12_live : Cond.instanceMethod yX12_live ∈ mx_TB ∧ Cond.selects yX12_live.cls yX12_live yX12_live ∈ mx_TB := ⟨mx_in (i := 2013) (by decide +kernel) (by decide +kernel), mx_inS (i := 99) (by decide +kernel) (by decide +kernel)⟩
theorem vX12_mean : Cond.instanceMethod yX12_mean ∈ mx_TB ∧ Cond.selects yX12_mean.cls yX12_mean yX12_mean ∈ mx_TB := ⟨mx_in (i := 2124) (by decide +kernel) (by decide +kernel), mx_in (i := 2125) (by decide +kernel) (by decide +kernel)⟩
theorem vX12_network : Cond.instanceMethod yX12_network ∈ mx_TB ∧ Cond.selects yX12_network.cls yX12_network yX12_network ∈ mx_TB := ⟨mx_in (i := 1735) (by decide +kernel) (by decide +kernel), mx_in (i := 1736) (by decide +kernel) (by decide +kernel)⟩
theorem vX12_next : Cond.instanceMethod yX12_next ∈ mx_TB ∧ Cond.selects yX12_next.cls yX12_next yX12_next ∈ mx_TB := ⟨mx_in (i := 2096) (by decide +kernel) (by decide +kernel), mx_in (i := 2097) (by decide +kernel) (by decide +kernel)⟩
theorem vX12_noted : Cond.instanceMethod yX12_noted ∈ mx_TB ∧ Cond.selects yX12_noted.cls yX12_noted yX12_noted ∈ mx_TB := ⟨mx_in (i := 1815) (by decide +kernel) (by decide +kernel), mx_inS (i := 62) (by decide +kernel) (by decide +kernel)⟩
theorem vX12_now : Cond.instanceMethod yX12_now ∈ mx_TB ∧ Cond.selects yX12_now.cls yX12_now yX12_now ∈ mx_TB := ⟨mx_in (i := 1937) (by decide +kernel) (by decide +kernel), mx_in (i := 1938) (by decide +kernel) (by decide +kernel)⟩
theorem vX12_odd : Cond.instanceMethod yX12_odd ∈ mx_TB ∧ Cond.selects yX12_odd.cls yX12_odd yX12_odd ∈ mx_TB := ⟨mx_in (i := 1925) (by decide +kernel) (by decide +kernel), mx_in (i := 1926) (by decide +kernel) (by decide +kernel)⟩
theorem vX12_odds : Cond.instanceMethod yX12_odds ∈ mx_TB ∧ Cond.selects yX12_odds.cls yX12_odds yX12_odds ∈ mx_TB := ⟨mx_in (i := 2188) (by decide +kernel) (by decide +kernel), mx_in (i := 2189) (by decide +kernel) (by decide +kernel)⟩
theorem vX12_open : Cond.instanceMethod yX12_open ∈ mx_TB ∧ Cond.selects yX12_open.cls yX12_open yX12_open ∈ mx_TB := ⟨mx_in (i := 2040) (by decide +kernel) (by decide +kernel), mx_in (i := 2041) (by decide +kernel) (by decide +kernel)⟩
theorem vX12_openOdd : Cond.instanceMethod yX12_openOdd ∈ mx_TB ∧ Cond.selects yX12_openOdd.cls yX12_openOdd yX12_openOdd ∈ mx_TB := ⟨mx_in (i := 2017) (by decide +kernel) (by decide +kernel), mx_inS (i := 100) (by decide +kernel) (by decide +kernel)⟩
theorem vX12_pair : Cond.instanceMethod yX12_pair ∈ mx_TB ∧ Cond.selects yX12_pair.cls yX12_pair yX12_pair ∈ mx_TB := ⟨mx_in (i := 1988) (by decide +kernel) (by decide +kernel), mx_in (i := 1989) (by decide +kernel) (by decide +kernel)⟩
theorem vX12_pairMany : Cond.instanceMethod yX12_pairMany ∈ mx_TB ∧ Cond.selects yX12_pairMany.cls yX12_pairMany yX12_pairMany ∈ mx_TB := ⟨mx_in (i := 1946) (by decide +kernel) (by decide +kernel), mx_inS (i := 88) (by decide +kernel) (by decide +kernel)⟩
theorem vX12_pairsIn : Cond.instanceMethod yX12_pairsIn ∈ mx_TB ∧ Cond.selects yX12_pairsIn.cls yX12_pairsIn yX12_pairsIn ∈ mx_TB := ⟨mx_in (i := 1934) (by decide +kernel) (by decide +kernel), mx_inS (i := 86) (by decide +kernel) (by decide +kernel)⟩
theorem vX12_part : Cond.instanceMethod yX12_part ∈ mx_TB ∧ Cond.selects yX12_part.cls yX12_part yX12_part ∈ mx_TB := ⟨mx_in (i := 2024) (by decide +kernel) (by decide +kernel), mx_in (i := 2025) (by decide +kernel) (by decide +kernel)⟩
theorem vX12_partners : Cond.instanceMethod yX12_partners ∈ mx_TB ∧ Cond.selects yX12_partners.cls yX12_partners yX12_partners ∈ mx_TB := ⟨mx_in (i := 1862) (by decide +kernel) (by decide +kernel), mx_inS (i := 71) (by decide +kernel) (by decide +kernel)⟩
theorem vX12_point : Cond.instanceMethod yX12_point ∈ mx_TB ∧ Cond.selects yX12_point.cls yX12_point yX12_point ∈ mx_TB := ⟨mx_in (i := 1849) (by decide +kernel) (by decide +kernel), mx_in (i := 1850) (by decide +kernel) (by decide +kernel)⟩
theorem vX12_price : Cond.instanceMethod yX12_price ∈ mx_TB ∧ Cond.selects yX12_price.cls yX12_price yX12_price ∈ mx_TB := ⟨mx_in (i := 2032) (by decide +kernel) (by decide +kernel), mx_in (i := 2033) (by decide +kernel) (by decide +kernel)⟩
theorem vX12_proof : Cond.instanceMethod yX12_proof ∈ mx_TB ∧ Cond.selects yX12_proof.cls yX12_proof yX12_proof ∈ mx_TB := ⟨mx_in (i := 2068) (by decide +kernel) (by decide +kernel), mx_in (i := 2069) (by decide +kernel) (by decide +kernel)⟩
theorem vX12_proofAt : Cond.instanceMethod yX12_proofAt ∈ mx_TB ∧ Cond.selects yX12_proofAt.cls yX12_proofAt yX12_proofAt ∈ mx_TB := ⟨mx_in (i := 2076) (by decide +kernel) (by decide +kernel), mx_in (i := 2077) (by decide +kernel) (by decide +kernel)⟩
theorem vX12_proofBy : Cond.instanceMethod yX12_proofBy ∈ mx_TB ∧ Cond.selects yX12_proofBy.cls yX12_proofBy yX12_proofBy ∈ mx_TB := ⟨mx_in (i := 2080) (by decide +kernel) (by decide +kernel), mx_in (i := 2081) (by decide +kernel) (by decide +kernel)⟩
theorem vX12_readAnd : Cond.instanceMethod yX12_readAnd ∈ mx_TB ∧ Cond.selects yX12_readAnd.cls yX12_readAnd yX12_readAnd ∈ mx_TB := ⟨mx_in (i := 2229) (by decide +kernel) (by decide +kernel), mx_inS (i := 124) (by decide +kernel) (by decide +kernel)⟩
theorem vX12_readBookLine : Cond.instanceMethod yX12_readBookLine ∈ mx_TB ∧ Cond.selects yX12_readBookLine.cls yX12_readBookLine yX12_readBookLine ∈ mx_TB := ⟨mx_in (i := 2197) (by decide +kernel) (by decide +kernel), mx_inS (i := 118) (by decide +kernel) (by decide +kernel)⟩
theorem vX12_readBracket : Cond.instanceMethod yX12_readBracket ∈ mx_TB ∧ Cond.selects yX12_readBracket.cls yX12_readBracket yX12_readBracket ∈ mx_TB := ⟨mx_in (i := 2237) (by decide +kernel) (by decide +kernel), mx_inS (i := 126) (by decide +kernel) (by decide +kernel)⟩
theorem vX12_readCompare : Cond.instanceMethod yX12_readCompare ∈ mx_TB ∧ Cond.selects yX12_readCompare.cls yX12_readCompare yX12_readCompare ∈ mx_TB := ⟨mx_in (i := 2257) (by decide +kernel) (by decide +kernel), mx_inS (i := 131) (by decide +kernel) (by decide +kernel)⟩
theorem vX12_readEnd : Cond.instanceMethod yX12_readEnd ∈ mx_TB ∧ Cond.selects yX12_readEnd.cls yX12_readEnd yX12_readEnd ∈ mx_TB := ⟨mx_in (i := 1842) (by decide +kernel) (by decide +kernel), mx_inS (i := 68) (by decide +kernel) (by decide +kernel)⟩
theorem vX12_readFirst : Cond.instanceMethod yX12_readFirst ∈ mx_TB ∧ Cond.selects yX12_readFirst.cls yX12_readFirst yX12_readFirst ∈ mx_TB := ⟨mx_in (i := 1782) (by decide +kernel) (by decide +kernel), mx_inS (i := 56) (by decide +kernel) (by decide +kernel)⟩
theorem vX12_readLine : Cond.instanceMethod yX12_readLine ∈ mx_TB ∧ Cond.selects yX12_readLine.cls yX12_readLine yX12_readLine ∈ mx_TB := ⟨mx_in (i := 1764) (by decide +kernel) (by decide +kernel), mx_inS (i := 53) (by decide +kernel) (by decide +kernel)⟩
theorem vX12_readLink : Cond.instanceMethod yX12_readLink ∈ mx_TB ∧ Cond.selects yX12_readLink.cls yX12_readLink yX12_readLink ∈ mx_TB := ⟨mx_in (i := 1797) (by decide +kernel) (by decide +kernel), mx_inS (i := 59) (by decide +kernel) (by decide +kernel)⟩
theorem vX12_readNot : Cond.instanceMethod yX12_readNot ∈ mx_TB ∧ Cond.selects yX12_readNot.cls yX12_readNot yX12_readNot ∈ mx_TB := ⟨mx_in (i := 2241) (by decide +kernel) (by decide +kernel), mx_inS (i := 127) (by decide +kernel) (by decide +kernel)⟩
theorem vX12_readNumber : Cond.instanceMethod yX12_readNumber ∈ mx_TB ∧ Cond.selects yX12_readNumber.cls yX12_readNumber yX12_readNumber ∈ mx_TB := ⟨mx_in (i := 1808) (by decide +kernel) (by decide +kernel), mx_inS (i := 61) (by decide +kernel) (by decide +kernel)⟩
theorem vX12_readOdd : Cond.instanceMethod yX12_readOdd ∈ mx_TB ∧ Cond.selects yX12_readOdd.cls yX12_readOdd yX12_readOdd ∈ mx_TB := ⟨mx_in (i := 1827) (by decide +kernel) (by decide +kernel), mx_inS (i := 65) (by decide +kernel) (by decide +kernel)⟩
theorem vX12_readOf : Cond.instanceMethod yX12_readOf ∈ mx_TB ∧ Cond.selects yX12_readOf.cls yX12_readOf yX12_readOf ∈ mx_TB := ⟨mx_in (i := 2249) (by decide +kernel) (by decide +kernel), mx_inS (i := 129) (by decide +kernel) (by decide +kernel)⟩
theorem vX12_readOr : Cond.instanceMethod yX12_readOr ∈ mx_TB ∧ Cond.selects yX12_readOr.cls yX12_readOr yX12_readOr ∈ mx_TB := ⟨mx_in (i := 2225) (by decide +kernel) (by decide +kernel), mx_inS (i := 123) (by decide +kernel) (by decide +kernel)⟩
theorem vX12_readOther : Cond.instanceMethod yX12_readOther ∈ mx_TB ∧ Cond.selects yX12_readOther.cls yX12_readOther yX12_readOther ∈ mx_TB := ⟨mx_in (i := 2209) (by decide +kernel) (by decide +kernel), mx_inS (i := 121) (by decide +kernel) (by decide +kernel)⟩
theorem vX12_readPair : Cond.instanceMethod yX12_readPair ∈ mx_TB ∧ Cond.selects yX12_readPair.cls yX12_readPair yX12_readPair ∈ mx_TB := ⟨mx_in (i := 1819) (by decide +kernel) (by decide +kernel), mx_inS (i := 63) (by decide +kernel) (by decide +kernel)⟩
theorem vX12_readPoint : Cond.instanceMethod yX12_readPoint ∈ mx_TB ∧ Cond.selects yX12_readPoint.cls yX12_readPoint yX12_readPoint ∈ mx_TB := ⟨mx_in (i := 1778) (by decide +kernel) (by decide +kernel), mx_inS (i := 55) (by decide +kernel) (by decide +kernel)⟩
theorem vX12_readPointName : Cond.instanceMethod yX12_readPointName ∈ mx_TB ∧ Cond.selects yX12_readPointName.cls yX12_readPointName yX12_readPointName ∈ mx_TB := ⟨mx_in (i := 2201) (by decide +kernel) (by decide +kernel), mx_inS (i := 119) (by decide +kernel) (by decide +kernel)⟩
theorem vX12_readPrice : Cond.instanceMethod yX12_readPrice ∈ mx_TB ∧ Cond.selects yX12_readPrice.cls yX12_readPrice yX12_readPrice ∈ mx_TB := ⟨mx_in (i := 1823) (by decide +kernel) (by decide +kernel), mx_inS (i := 64) (by decide +kernel) (by decide +kernel)⟩
theorem vX12_readSaid : Cond.instanceMethod yX12_readSaid ∈ mx_TB ∧ Cond.selects yX12_readSaid.cls yX12_readSaid yX12_readSaid ∈ mx_TB := ⟨mx_in (i := 2233) (by decide +kernel) (by decide +kernel), mx_inS (i := 125) (by decide +kernel) (by decide +kernel)⟩
theorem vX12_readThat : Cond.instanceMethod yX12_readThat ∈ mx_TB ∧ Cond.selects yX12_readThat.cls yX12_readThat yX12_readThat ∈ mx_TB := ⟨mx_in (i := 2253) (by decide +kernel) (by decide +kernel), mx_inS (i := 130) (by decide +kernel) (by decide +kernel)⟩
theorem vX12_refusal : Cond.instanceMethod yX12_refusal ∈ mx_TB ∧ Cond.selects yX12_refusal.cls yX12_refusal yX12_refusal ∈ mx_TB := ⟨mx_in (i := 2001) (by decide +kernel) (by decide +kernel), mx_inS (i := 96) (by decide +kernel) (by decide +kernel)⟩
theorem vX12_refuse : Cond.instanceMethod yX12_refuse ∈ mx_TB ∧ Cond.selects yX12_refuse.cls yX12_refuse yX12_refuse ∈ mx_TB := ⟨mx_in (i := 1858) (by decide +kernel) (by decide +kernel), mx_inS (i := 70) (by decide +kernel) (by decide +kernel)⟩
theorem vX12_restore : Cond.instanceMethod yX12_restore ∈ mx_TB ∧ Cond.selects yX12_restore.cls yX12_restore yX12_restore ∈ mx_TB := ⟨mx_in (i := 2276) (by decide +kernel) (by decide +kernel), mx_in (i := 2277) (by decide +kernel) (by decide +kernel)⟩
theorem vX12_room : Cond.instanceMethod yX12_room ∈ mx_TB ∧ Cond.selects yX12_room.cls yX12_room yX12_room ∈ mx_TB := ⟨mx_in (i := 2084) (by decide +kernel) (by decide +kernel), mx_in (i := 2085) (by decide +kernel) (by decide +kernel)⟩
theorem vX12_said : Cond.instanceMethod yX12_said ∈ mx_TB ∧ Cond.selects yX12_said.cls yX12_said yX12_said ∈ mx_TB := ⟨mx_in (i := 2260) (by decide +kernel) (by decide +kernel), mx_in (i := 2261) (by decide +kernel) (by decide +kernel)⟩
theorem vX12_save : Cond.instanceMethod yX12_save ∈ mx_TB ∧ Cond.selects yX12_save.cls yX12_save yX12_save ∈ mx_TB := ⟨mx_in (i := 2009) (by decide +kernel) (by decide +kernel), mx_inS (i := 98) (by decide +kernel) (by decide +kernel)⟩
theorem vX12_saysOne : Cond.instanceMethod yX12_saysOne ∈ mx_TB ∧ Cond.selects yX12_saysOne.cls yX12_saysOne yX12_saysOne ∈ mx_TB := ⟨mx_in (i := 2245) (by decide +kernel) (by decide +kernel), mx_inS (i := 128) (by decide +kernel) (by decide +kernel)⟩
theorem vX12_sentence : Cond.instanceMethod yX12_sentence ∈ mx_TB ∧ Cond.selects yX12_sentence.cls yX12_sentence yX12_sentence ∈ mx_TB := ⟨mx_in (i := 2220) (by decide +kernel) (by decide +kernel), mx_in (i := 2221) (by decide +kernel) (by decide +kernel)⟩
theorem vX12_shrink : Cond.instanceMethod yX12_shrink ∈ mx_TB ∧ Cond.selects yX12_shrink.cls yX12_shrink yX12_shrink ∈ mx_TB := ⟨mx_in (i := 2052) (by decide +kernel) (by decide +kernel), mx_in (i := 2053) (by decide +kernel) (by decide +kernel)⟩
theorem vX12_slack : Cond.instanceMethod yX12_slack ∈ mx_TB ∧ Cond.selects yX12_slack.cls yX12_slack yX12_slack ∈ mx_TB := ⟨mx_in (i := 1921) (by decide +kernel) (by decide +kernel), mx_in (i := 1922) (by decide +kernel) (by decide +kernel)⟩
theorem vX12_slackOf : Cond.instanceMethod yX12_slackOf ∈ mx_TB ∧ Cond.selects yX12_slackOf.cls yX12_slackOf yX12_slackOf ∈ mx_TB := ⟨mx_in (i := 1870) (by decide +kernel) (by decide +kernel), mx_inS (i := 73) (by decide +kernel) (by decide +kernel)⟩
theorem vX12_snap : Cond.instanceMethod yX12_snap ∈ mx_TB ∧ Cond.selects yX12_snap.cls yX12_snap yX12_snap ∈ mx_TB := ⟨mx_in (i := 2005) (by decide +kernel) (by decide +kernel), mx_inS (i := 97) (by decide +kernel) (by decide +kernel)⟩
theorem vX12_startSo : Cond.instanceMethod yX12_startSo ∈ mx_TB ∧ Cond.selects yX12_startSo.cls yX12_startSo yX12_startSo ∈ mx_TB := ⟨mx_in (i := 1544) (by decide +kernel) (by decide +kernel), mx_inS (i := 48) (by decide +kernel) (by decide +kernel)⟩
theorem vX12_stay : Cond.instanceMethod yX12_stay ∈ mx_TB ∧ Cond.selects yX12_stay.cls yX12_stay yX12_stay ∈ mx_TB := ⟨mx_in (i := 2185) (by decide +kernel) (by decide +kernel), mx_inS (i := 117) (by decide +kernel) (by decide +kernel)⟩
theorem vX12_stroke : Cond.instanceMethod yX12_stroke ∈ mx_TB ∧ Cond.selects yX12_stroke.cls yX12_stroke yX12_stroke ∈ mx_TB := ⟨mx_in (i := 2121) (by decide +kernel) (by decide +kernel), mx_inS (i := 106) (by decide +kernel) (by decide +kernel)⟩
theorem vX12_survey : Cond.instanceMethod yX12_survey ∈ mx_TB ∧ Cond.selects yX12_survey.cls yX12_survey yX12_survey ∈ mx_TB := ⟨mx_in (i := 1898) (by decide +kernel) (by decide +kernel), mx_inS (i := 79) (by decide +kernel) (by decide +kernel)⟩
theorem vX12_surveyMost : Cond.instanceMethod yX12_surveyMost ∈ mx_TB ∧ Cond.selects yX12_surveyMost.cls yX12_surveyMost yX12_surveyMost ∈ mx_TB := ⟨mx_in (i := 1894) (by decide +kernel) (by decide +kernel), mx_inS (i := 78) (by decide +kernel) (by decide +kernel)⟩
theorem vX12_tag : Cond.instanceMethod yX12_tag ∈ mx_TB ∧ Cond.selects yX12_tag.cls yX12_tag yX12_tag ∈ mx_TB := ⟨mx_in (i := 2135) (by decide +kernel) (by decide +kernel), mx_in (i := 2136) (by decide +kernel) (by decide +kernel)⟩
theorem vX12_take : Cond.instanceMethod yX12_take ∈ mx_TB ∧ Cond.selects yX12_take.cls yX12_take yX12_take ∈ mx_TB := ⟨mx_in (i := 1744) (by decide +kernel) (by decide +kernel), mx_inS (i := 50) (by decide +kernel) (by decide +kernel)⟩
theorem vX12_tapeAt : Cond.instanceMethod yX12_tapeAt ∈ mx_TB ∧ Cond.selects yX12_tapeAt.cls yX12_tapeAt yX12_tapeAt ∈ mx_TB := ⟨mx_in (i := 1758) (by decide +kernel) (by decide +kernel), mx_inS (i := 52) (by decide +kernel) (by decide +kernel)⟩
theorem vX12_thrown : Cond.instanceMethod yX12_thrown ∈ mx_TB ∧ Cond.selects yX12_thrown.cls yX12_thrown yX12_thrown ∈ mx_TB := ⟨mx_in (i := 1521) (by decide +kernel) (by decide +kernel), mx_in (i := 1522) (by decide +kernel) (by decide +kernel)⟩
theorem vX12_told : Cond.instanceMethod yX12_told ∈ mx_TB ∧ Cond.selects yX12_told.cls yX12_told yX12_told ∈ mx_TB := ⟨mx_in (i := 2216) (by decide +kernel) (by decide +kernel), mx_in (i := 2217) (by decide +kernel) (by decide +kernel)⟩
theorem vX12_totalNow : Cond.instanceMethod yX12_totalNow ∈ mx_TB ∧ Cond.selects yX12_totalNow.cls yX12_totalNow yX12_totalNow ∈ mx_TB := ⟨mx_in (i := 1942) (by decide +kernel) (by decide +kernel), mx_inS (i := 87) (by decide +kernel) (by decide +kernel)⟩
theorem vX12_turn : Cond.instanceMethod yX12_turn ∈ mx_TB ∧ Cond.selects yX12_turn.cls yX12_turn yX12_turn ∈ mx_TB := ⟨mx_in (i := 2044) (by decide +kernel) (by decide +kernel), mx_in (i := 2045) (by decide +kernel) (by decide +kernel)⟩
theorem vX12_turnPath : Cond.instanceMethod yX12_turnPath ∈ mx_TB ∧ Cond.selects yX12_turnPath.cls yX12_turnPath yX12_turnPath ∈ mx_TB := ⟨mx_in (i := 2021) (by decide +kernel) (by decide +kernel), mx_inS (i := 101) (by decide +kernel) (by decide +kernel)⟩
theorem vX12_undo : Cond.instanceMethod yX12_undo ∈ mx_TB ∧ Cond.selects yX12_undo.cls yX12_undo yX12_undo ∈ mx_TB := ⟨mx_in (i := 2060) (by decide +kernel) (by decide +kernel), mx_in (i := 2061) (by decide +kernel) (by decide +kernel)⟩
theorem vX12_walk : Cond.instanceMethod yX12_walk ∈ mx_TB ∧ Cond.selects yX12_walk.cls yX12_walk yX12_walk ∈ mx_TB := ⟨mx_in (i := 1902) (by decide +kernel) (by decide +kernel), mx_inS (i := 80) (by decide +kernel) (by decide +kernel)⟩
theorem vX12_ways : Cond.instanceMethod yX12_ways ∈ mx_TB ∧ Cond.selects yX12_ways.cls yX12_ways yX12_ways ∈ mx_TB := ⟨mx_in (i := 2104) (by decide +kernel) (by decide +kernel), mx_in (i := 2105) (by decide +kernel) (by decide +kernel)⟩
theorem vX12_weigh : Cond.instanceMethod yX12_weigh ∈ mx_TB ∧ Cond.selects yX12_weigh.cls yX12_weigh yX12_weigh ∈ mx_TB := ⟨mx_in (i := 2028) (by decide +kernel) (by decide +kernel), mx_in (i := 2029) (by decide +kernel) (by decide +kernel)⟩
theorem vX12_weightOf : Cond.instanceMethod yX12_weightOf ∈ mx_TB ∧ Cond.selects yX12_weightOf.cls yX12_weightOf yX12_weightOf ∈ mx_TB := ⟨mx_in (i := 2269) (by decide +kernel) (by decide +kernel), mx_inS (i := 133) (by decide +kernel) (by decide +kernel)⟩
theorem vX12_who : Cond.instanceMethod yX12_who ∈ mx_TB ∧ Cond.selects yX12_who.cls yX12_who yX12_who ∈ mx_TB := ⟨mx_in (i := 2108) (by decide +kernel) (by decide +kernel), mx_in (i := 2109) (by decide +kernel) (by decide +kernel)⟩
theorem vX12_write : Cond.instanceMethod yX12_write ∈ mx_TB ∧ Cond.selects yX12_write.cls yX12_write yX12_write ∈ mx_TB := ⟨mx_in (i := 2144) (by decide +kernel) (by decide +kernel), mx_inS (i := 109) (by decide +kernel) (by decide +kernel)⟩
theorem vX12_writeNext : Cond.instanceMethod yX12_writeNext ∈ mx_TB ∧ Cond.selects yX12_writeNext.cls yX12_writeNext yX12_writeNext ∈ mx_TB := ⟨mx_in (i := 2148) (by decide +kernel) (by decide +kernel), mx_inS (i := 110) (by decide +kernel) (by decide +kernel)⟩
theorem vX12_writeNumber : Cond.instanceMethod yX12_writeNumber ∈ mx_TB ∧ Cond.selects yX12_writeNumber.cls yX12_writeNumber yX12_writeNumber ∈ mx_TB := ⟨mx_in (i := 2152) (by decide +kernel) (by decide +kernel), mx_inS (i := 111) (by decide +kernel) (by decide +kernel)⟩
theorem vX12_writeWord : Cond.instanceMethod yX12_writeWord ∈ mx_TB ∧ Cond.selects yX12_writeWord.cls yX12_writeWord yX12_writeWord ∈ mx_TB := ⟨mx_in (i := 2140) (by decide +kernel) (by decide +kernel), mx_inS (i := 108) (by decide +kernel) (by decide +kernel)⟩
theorem vX1_crownOne : Cond.instanceMethod yX1_crownOne ∈ mx_TB ∧ Cond.selects yX1_crownOne.cls yX1_crownOne yX1_crownOne ∈ mx_TB := ⟨mx_in (i := 1229) (by decide +kernel) (by decide +kernel), mx_inS (i := 33) (by decide +kernel) (by decide +kernel)⟩
theorem vX1_draw : Cond.instanceMethod yX1_draw ∈ mx_TB ∧ Cond.selects yX1_draw.cls yX1_draw yX1_draw ∈ mx_TB := ⟨mx_in (i := 1203) (by decide +kernel) (by decide +kernel), mx_inS (i := 31) (by decide +kernel) (by decide +kernel)⟩
theorem vX1_isDone : Cond.instanceMethod yX1_isDone ∈ mx_TB ∧ Cond.selects yX1_isDone.cls yX1_isDone yX1_isDone ∈ mx_TB := ⟨mx_in (i := 1199) (by decide +kernel) (by decide +kernel), mx_inS (i := 30) (by decide +kernel) (by decide +kernel)⟩
theorem vX1_run : Cond.instanceMethod yX1_run ∈ mx_TB ∧ Cond.selects yX1_run.cls yX1_run yX1_run ∈ mx_TB := ⟨mx_in (i := 1193) (by decide +kernel) (by decide +kernel), mx_in (i := 1194) (by decide +kernel) (by decide +kernel)⟩
theorem vX1_weighOne : Cond.instanceMethod yX1_weighOne ∈ mx_TB ∧ Cond.selects yX1_weighOne.cls yX1_weighOne yX1_weighOne ∈ mx_TB := ⟨mx_in (i := 1215) (by decide +kernel) (by decide +kernel), mx_inS (i := 32) (by decide +kernel) (by decide +kernel)⟩
theorem vX2_addTotal : Cond.instanceMethod yX2_addTotal ∈ mx_TB ∧ Cond.selects yX2_addTotal.cls yX2_addTotal yX2_addTotal ∈ mx_TB := ⟨mx_in (i := 720) (by decide +kernel) (by decide +kernel), mx_inS (i := 11) (by decide +kernel) (by decide +kernel)⟩
theorem vX2_addWays : Cond.instanceMethod yX2_addWays ∈ mx_TB ∧ Cond.selects yX2_addWays.cls yX2_addWays yX2_addWays ∈ mx_TB := ⟨mx_in (i := 715) (by decide +kernel) (by decide +kernel), mx_inS (i := 10) (by decide +kernel) (by decide +kernel)⟩
theorem vX2_bestInto : Cond.instanceMethod yX2_bestInto ∈ mx_TB ∧ Cond.selects yX2_bestInto.cls yX2_bestInto yX2_bestInto ∈ mx_TB := ⟨mx_in (i := 1075) (by decide +kernel) (by decide +kernel), mx_in (i := 1076) (by decide +kernel) (by decide +kernel)⟩
theorem vX2_choose : Cond.instanceMethod yX2_choose ∈ mx_TB ∧ Cond.selects yX2_choose.cls yX2_choose yX2_choose ∈ mx_TB := ⟨mx_in (i := 769) (by decide +kernel) (by decide +kernel), mx_inS (i := 17) (by decide +kernel) (by decide +kernel)⟩
theorem vX2_countOf : Cond.instanceMethod yX2_countOf ∈ mx_TB ∧ Cond.selects yX2_countOf.cls yX2_countOf yX2_countOf ∈ mx_TB := ⟨mx_in (i := 1113) (by decide +kernel) (by decide +kernel), mx_in (i := 1114) (by decide +kernel) (by decide +kernel)⟩
theorem vX2_countWanted : Cond.instanceMethod yX2_countWanted ∈ mx_TB ∧ Cond.selects yX2_countWanted.cls yX2_countWanted yX2_countWanted ∈ mx_TB := ⟨mx_in (i := 744) (by decide +kernel) (by decide +kernel), mx_in (i := 745) (by decide +kernel) (by decide +kernel)⟩
theorem vX2_fateOf : Cond.instanceMethod yX2_fateOf ∈ mx_TB ∧ Cond.selects yX2_fateOf.cls yX2_fateOf yX2_fateOf ∈ mx_TB := ⟨mx_in (i := 736) (by decide +kernel) (by decide +kernel), mx_in (i := 737) (by decide +kernel) (by decide +kernel)⟩
theorem vX2_firstBestPartner : Cond.instanceMethod yX2_firstBestPartner ∈ mx_TB ∧ Cond.selects yX2_firstBestPartner.cls yX2_firstBestPartner yX2_firstBestPartner ∈ mx_TB := ⟨mx_in (i := 1080) (by decide +kernel) (by decide +kernel), mx_inS (i := 27) (by decide +kernel) (by decide +kernel)⟩
theorem vX2_heaviestOf : Cond.instanceMethod yX2_heaviestOf ∈ mx_TB ∧ Cond.selects yX2_heaviestOf.cls yX2_heaviestOf yX2_heaviestOf ∈ mx_TB := ⟨mx_in (i := 1105) (by decide +kernel) (by decide +kernel), mx_in (i := 1106) (by decide +kernel) (by decide +kernel)⟩
theorem vX2_keepsTop : Cond.instanceMethod yX2_keepsTop ∈ mx_TB ∧ Cond.selects yX2_keepsTop.cls yX2_keepsTop yX2_keepsTop ∈ mx_TB := ⟨mx_in (i := 761) (by decide +kernel) (by decide +kernel), mx_inS (i := 15) (by decide +kernel) (by decide +kernel)⟩
theorem vX2_lookAt : Cond.instanceMethod yX2_lookAt ∈ mx_TB ∧ Cond.selects yX2_lookAt.cls yX2_lookAt yX2_lookAt ∈ mx_TB := ⟨mx_in (i := 689) (by decide +kernel) (by decide +kernel), mx_in (i := 690) (by decide +kernel) (by decide +kernel)⟩
theorem vX2_mayBe : Cond.instanceMethod yX2_mayBe ∈ mx_TB ∧ Cond.selects yX2_mayBe.cls yX2_mayBe yX2_mayBe ∈ mx_TB := ⟨mx_in (i := 757) (by decide +kernel) (by decide +kernel), mx_inS (i := 14) (by decide +kernel) (by decide +kernel)⟩
theorem vX2_mostTelling : Cond.instanceMethod yX2_mostTelling ∈ mx_TB ∧ Cond.selects yX2_mostTelling.cls yX2_mostTelling yX2_mostTelling ∈ mx_TB := ⟨mx_in (i := 1148) (by decide +kernel) (by decide +kernel), mx_in (i := 1149) (by decide +kernel) (by decide +kernel)⟩
theorem vX2_second : Cond.instanceMethod yX2_second ∈ mx_TB ∧ Cond.selects yX2_second.cls yX2_second yX2_second ∈ mx_TB := ⟨mx_in (i := 1097) (by decide +kernel) (by decide +kernel), mx_in (i := 1098) (by decide +kernel) (by decide +kernel)⟩
theorem vX2_slotFor : Cond.instanceMethod yX2_slotFor ∈ mx_TB ∧ Cond.selects yX2_slotFor.cls yX2_slotFor yX2_slotFor ∈ mx_TB := ⟨mx_in (i := 700) (by decide +kernel) (by decide +kernel), mx_inS (i := 7) (by decide +kernel) (by decide +kernel)⟩
theorem vX2_slotKnown : Cond.instanceMethod yX2_slotKnown ∈ mx_TB ∧ Cond.selects yX2_slotKnown.cls yX2_slotKnown yX2_slotKnown ∈ mx_TB := ⟨mx_in (i := 704) (by decide +kernel) (by decide +kernel), mx_inS (i := 8) (by decide +kernel) (by decide +kernel)⟩
theorem vX2_startSlot : Cond.instanceMethod yX2_startSlot ∈ mx_TB ∧ Cond.selects yX2_startSlot.cls yX2_startSlot yX2_startSlot ∈ mx_TB := ⟨mx_in (i := 708) (by decide +kernel) (by decide +kernel), mx_inS (i := 9) (by decide +kernel) (by decide +kernel)⟩
theorem vX2_tallyAt : Cond.instanceMethod yX2_tallyAt ∈ mx_TB ∧ Cond.selects yX2_tallyAt.cls yX2_tallyAt yX2_tallyAt ∈ mx_TB := ⟨mx_in (i := 775) (by decide +kernel) (by decide +kernel), mx_inS (i := 18) (by decide +kernel) (by decide +kernel)⟩
theorem vX2_tallyChosen : Cond.instanceMethod yX2_tallyChosen ∈ mx_TB ∧ Cond.selects yX2_tallyChosen.cls yX2_tallyChosen yX2_tallyChosen ∈ mx_TB := ⟨mx_in (i := 753) (by decide +kernel) (by decide +kernel), mx_inS (i := 13) (by decide +kernel) (by decide +kernel)⟩
theorem vX2_top : Cond.instanceMethod yX2_top ∈ mx_TB ∧ Cond.selects yX2_top.cls yX2_top yX2_top ∈ mx_TB := ⟨mx_in (i := 1085) (by decide +kernel) (by decide +kernel), mx_in (i := 1086) (by decide +kernel) (by decide +kernel)⟩
theorem vX2_topFor : Cond.instanceMethod yX2_topFor ∈ mx_TB ∧ Cond.selects yX2_topFor.cls yX2_topFor yX2_topFor ∈ mx_TB := ⟨mx_in (i := 765) (by decide +kernel) (by decide +kernel), mx_inS (i := 16) (by decide +kernel) (by decide +kernel)⟩
theorem vX2_walkBest : Cond.instanceMethod yX2_walkBest ∈ mx_TB ∧ Cond.selects yX2_walkBest.cls yX2_walkBest yX2_walkBest ∈ mx_TB := ⟨mx_in (i := 749) (by decide +kernel) (by decide +kernel), mx_inS (i := 12) (by decide +kernel) (by decide +kernel)⟩
theorem vX2_want : Cond.instanceMethod yX2_want ∈ mx_TB ∧ Cond.selects yX2_want.cls yX2_want yX2_want ∈ mx_TB := ⟨mx_in (i := 1143) (by decide +kernel) (by decide +kernel), mx_in (i := 1144) (by decide +kernel) (by decide +kernel)⟩
theorem vX2_wantNothing : Cond.instanceMethod yX2_wantNothing ∈ mx_TB ∧ Cond.selects yX2_wantNothing.cls yX2_wantNothing yX2_wantNothing ∈ mx_TB := ⟨mx_in (i := 740) (by decide +kernel) (by decide +kernel), mx_in (i := 741) (by decide +kernel) (by decide +kernel)⟩
theorem vX3_forget : Cond.instanceMethod yX3_forget ∈ mx_TB ∧ Cond.selects yX3_forget.cls yX3_forget yX3_forget ∈ mx_TB := ⟨mx_in (i := 644) (by decide +kernel) (by decide +kernel), mx_in (i := 645) (by decide +kernel) (by decide +kernel)⟩
theorem vX3_keep : Cond.instanceMethod yX3_keep ∈ mx_TB ∧ Cond.selects yX3_keep.cls yX3_keep yX3_keep ∈ mx_TB := ⟨mx_in (i := 880) (by decide +kernel) (by decide +kernel), mx_in (i := 881) (by decide +kernel) (by decide +kernel)⟩
theorem vX3_mark : Cond.instanceMethod yX3_mark ∈ mx_TB ∧ Cond.selects yX3_mark.cls yX3_mark yX3_mark ∈ mx_TB := ⟨mx_in (i := 867) (by decide +kernel) (by decide +kernel), mx_in (i := 868) (by decide +kernel) (by decide +kernel)⟩
theorem vX3_takeBack : Cond.instanceMethod yX3_takeBack ∈ mx_TB ∧ Cond.selects yX3_takeBack.cls yX3_takeBack yX3_takeBack ∈ mx_TB := ⟨mx_in (i := 1022) (by decide +kernel) (by decide +kernel), mx_in (i := 1023) (by decide +kernel) (by decide +kernel)⟩
theorem vX4_addLink : Cond.instanceMethod yX4_addLink ∈ mx_TB ∧ Cond.selects yX4_addLink.cls yX4_addLink yX4_addLink ∈ mx_TB := ⟨mx_in (i := 576) (by decide +kernel) (by decide +kernel), mx_in (i := 577) (by decide +kernel) (by decide +kernel)⟩
theorem vX4_addPoint : Cond.instanceMethod yX4_addPoint ∈ mx_TB ∧ Cond.selects yX4_addPoint.cls yX4_addPoint yX4_addPoint ∈ mx_TB := ⟨mx_in (i := 541) (by decide +kernel) (by decide +kernel), mx_in (i := 542) (by decide +kernel) (by decide +kernel)⟩
theorem vX4_addSet : Cond.instanceMethod yX4_addSet ∈ mx_TB ∧ Cond.selects yX4_addSet.cls yX4_addSet yX4_addSet ∈ mx_TB := ⟨mx_in (i := 609) (by decide +kernel) (by decide +kernel), mx_in (i := 610) (by decide +kernel) (by decide +kernel)⟩
theorem vX4_areLinked : Cond.instanceMethod yX4_areLinked ∈ mx_TB ∧ Cond.selects yX4_areLinked.cls yX4_areLinked yX4_areLinked ∈ mx_TB := ⟨mx_in (i := 564) (by decide +kernel) (by decide +kernel), mx_in (i := 565) (by decide +kernel) (by decide +kernel)⟩
theorem vX4_bound : Cond.instanceMethod yX4_bound ∈ mx_TB ∧ Cond.selects yX4_bound.cls yX4_bound yX4_bound ∈ mx_TB := ⟨mx_in (i := 835) (by decide +kernel) (by decide +kernel), mx_in (i := 836) (by decide +kernel) (by decide +kernel)⟩
theorem vX4_clear : Cond.instanceMethod yX4_clear ∈ mx_TB ∧ Cond.selects yX4_clear.cls yX4_clear yX4_clear ∈ mx_TB := ⟨mx_in (i := 489) (by decide +kernel) (by decide +kernel), mx_in (i := 490) (by decide +kernel) (by decide +kernel)⟩
theorem vX4_copyFrom : Cond.instanceMethod yX4_copyFrom ∈ mx_TB ∧ Cond.selects yX4_copyFrom.cls yX4_copyFrom yX4_copyFrom ∈ mx_TB := ⟨mx_in (i := 629) (by decide +kernel) (by decide +kernel), mx_in (i := 630) (by decide +kernel) (by decide +kernel)⟩
theorem vX4_copyLinksFrom : Cond.instanceMethod yX4_copyLinksFrom ∈ mx_TB ∧ Cond.selects yX4_copyLinksFrom.cls yX4_copyLinksFrom yX4_copyLinksFrom ∈ mx_TB := ⟨mx_in (i := 633) (by decide +kernel) (by decide +kernel), mx_in (i := 634) (by decide +kernel) (by decide +kernel)⟩
theorem vX4_crownAt : Cond.instanceMethod yX4_crownAt ∈ mx_TB ∧ Cond.selects yX4_crownAt.cls yX4_crownAt yX4_crownAt ∈ mx_TB := ⟨mx_in (i := 913) (by decide +kernel) (by decide +kernel), mx_in (i := 914) (by decide +kernel) (by decide +kernel)⟩
theorem vX4_crownOf : Cond.instanceMethod yX4_crownOf ∈ mx_TB ∧ Cond.selects yX4_crownOf.cls yX4_crownOf yX4_crownOf ∈ mx_TB := ⟨mx_in (i := 791) (by decide +kernel) (by decide +kernel), mx_in (i := 792) (by decide +kernel) (by decide +kernel)⟩
theorem vX4_firstCrownedUnfilled : Cond.instanceMethod yX4_firstCrownedUnfilled ∈ mx_TB ∧ Cond.selects yX4_firstCrownedUnfilled.cls yX4_firstCrownedUnfilled yX4_firstCrownedUnfilled ∈ mx_TB := ⟨mx_in (i := 1048) (by decide +kernel) (by decide +kernel), mx_in (i := 1049) (by decide +kernel) (by decide +kernel)⟩
theorem vX4_firstLinkBelow : Cond.instanceMethod yX4_firstLinkBelow ∈ mx_TB ∧ Cond.selects yX4_firstLinkBelow.cls yX4_firstLinkBelow yX4_firstLinkBelow ∈ mx_TB := ⟨mx_in (i := 1030) (by decide +kernel) (by decide +kernel), mx_in (i := 1031) (by decide +kernel) (by decide +kernel)⟩
theorem vX4_firstLoosePair : Cond.instanceMethod yX4_firstLoosePair ∈ mx_TB ∧ Cond.selects yX4_firstLoosePair.cls yX4_firstLoosePair yX4_firstLoosePair ∈ mx_TB := ⟨mx_in (i := 1039) (by decide +kernel) (by decide +kernel), mx_in (i := 1040) (by decide +kernel) (by decide +kernel)⟩
theorem vX4_firstPricedLone : Cond.instanceMethod yX4_firstPricedLone ∈ mx_TB ∧ Cond.selects yX4_firstPricedLone.cls yX4_firstPricedLone yX4_firstPricedLone ∈ mx_TB := ⟨mx_in (i := 1043) (by decide +kernel) (by decide +kernel), mx_in (i := 1044) (by decide +kernel) (by decide +kernel)⟩
theorem vX4_fromOf : Cond.instanceMethod yX4_fromOf ∈ mx_TB ∧ Cond.selects yX4_fromOf.cls yX4_fromOf yX4_fromOf ∈ mx_TB := ⟨mx_in (i := 668) (by decide +kernel) (by decide +kernel), mx_in (i := 669) (by decide +kernel) (by decide +kernel)⟩
theorem vX4_fullPairs : Cond.instanceMethod yX4_fullPairs ∈ mx_TB ∧ Cond.selects yX4_fullPairs.cls yX4_fullPairs yX4_fullPairs ∈ mx_TB := ⟨mx_in (i := 841) (by decide +kernel) (by decide +kernel), mx_inS (i := 19) (by decide +kernel) (by decide +kernel)⟩
theorem vX4_goesByPairs : Cond.instanceMethod yX4_goesByPairs ∈ mx_TB ∧ Cond.selects yX4_goesByPairs.cls yX4_goesByPairs yX4_goesByPairs ∈ mx_TB := ⟨mx_in (i := 992) (by decide +kernel) (by decide +kernel), mx_inS (i := 24) (by decide +kernel) (by decide +kernel)⟩
theorem vX4_hasLink : Cond.instanceMethod yX4_hasLink ∈ mx_TB ∧ Cond.selects yX4_hasLink.cls yX4_hasLink yX4_hasLink ∈ mx_TB := ⟨mx_in (i := 664) (by decide +kernel) (by decide +kernel), mx_in (i := 665) (by decide +kernel) (by decide +kernel)⟩
theorem vX4_hasLinksOf : Cond.instanceMethod yX4_hasLinksOf ∈ mx_TB ∧ Cond.selects yX4_hasLinksOf.cls yX4_hasLinksOf yX4_hasLinksOf ∈ mx_TB := ⟨mx_in (i := 693) (by decide +kernel) (by decide +kernel), mx_in (i := 694) (by decide +kernel) (by decide +kernel)⟩
theorem vX4_hasPoint : Cond.instanceMethod yX4_hasPoint ∈ mx_TB ∧ Cond.selects yX4_hasPoint.cls yX4_hasPoint yX4_hasPoint ∈ mx_TB := ⟨mx_in (i := 568) (by decide +kernel) (by decide +kernel), mx_in (i := 569) (by decide +kernel) (by decide +kernel)⟩
theorem vX4_hasSet : Cond.instanceMethod yX4_hasSet ∈ mx_TB ∧ Cond.selects yX4_hasSet.cls yX4_hasSet yX4_hasSet ∈ mx_TB := ⟨mx_in (i := 782) (by decide +kernel) (by decide +kernel), mx_in (i := 783) (by decide +kernel) (by decide +kernel)⟩
theorem vX4_isLone : Cond.instanceMethod yX4_isLone ∈ mx_TB ∧ Cond.selects yX4_isLone.cls yX4_isLone yX4_isLone ∈ mx_TB := ⟨mx_in (i := 819) (by decide +kernel) (by decide +kernel), mx_in (i := 820) (by decide +kernel) (by decide +kernel)⟩
theorem vX4_isPair : Cond.instanceMethod yX4_isPair ∈ mx_TB ∧ Cond.selects yX4_isPair.cls yX4_isPair yX4_isPair ∈ mx_TB := ⟨mx_in (i := 681) (by decide +kernel) (by decide +kernel), mx_in (i := 682) (by decide +kernel) (by decide +kernel)⟩
theorem vX4_linkOf : Cond.instanceMethod yX4_linkOf ∈ mx_TB ∧ Cond.selects yX4_linkOf.cls yX4_linkOf yX4_linkOf ∈ mx_TB := ⟨mx_in (i := 731) (by decide +kernel) (by decide +kernel), mx_in (i := 732) (by decide +kernel) (by decide +kernel)⟩
theorem vX4_links : Cond.instanceMethod yX4_links ∈ mx_TB ∧ Cond.selects yX4_links.cls yX4_links yX4_links ∈ mx_TB := ⟨mx_in (i := 545) (by decide +kernel) (by decide +kernel), mx_in (i := 546) (by decide +kernel) (by decide +kernel)⟩
theorem vX4_lonePoints : Cond.instanceMethod yX4_lonePoints ∈ mx_TB ∧ Cond.selects yX4_lonePoints.cls yX4_lonePoints yX4_lonePoints ∈ mx_TB := ⟨mx_in (i := 815) (by decide +kernel) (by decide +kernel), mx_in (i := 816) (by decide +kernel) (by decide +kernel)⟩
theorem vX4_membersOf : Cond.instanceMethod yX4_membersOf ∈ mx_TB ∧ Cond.selects yX4_membersOf.cls yX4_membersOf yX4_membersOf ∈ mx_TB := ⟨mx_in (i := 786) (by decide +kernel) (by decide +kernel), mx_in (i := 787) (by decide +kernel) (by decide +kernel)⟩
theorem vX4_nameOf : Cond.instanceMethod yX4_nameOf ∈ mx_TB ∧ Cond.selects yX4_nameOf.cls yX4_nameOf yX4_nameOf ∈ mx_TB := ⟨mx_in (i := 1161) (by decide +kernel) (by decide +kernel), mx_in (i := 1162) (by decide +kernel) (by decide +kernel)⟩
theorem vX4_nearTo : Cond.instanceMethod yX4_nearTo ∈ mx_TB ∧ Cond.selects yX4_nearTo.cls yX4_nearTo yX4_nearTo ∈ mx_TB := ⟨mx_in (i := 723) (by decide +kernel) (by decide +kernel), mx_in (i := 724) (by decide +kernel) (by decide +kernel)⟩
theorem vX4_openSet : Cond.instanceMethod yX4_openSet ∈ mx_TB ∧ Cond.selects yX4_openSet.cls yX4_openSet yX4_openSet ∈ mx_TB := ⟨mx_in (i := 921) (by decide +kernel) (by decide +kernel), mx_in (i := 922) (by decide +kernel) (by decide +kernel)⟩
theorem vX4_otherEnd : Cond.instanceMethod yX4_otherEnd ∈ mx_TB ∧ Cond.selects yX4_otherEnd.cls yX4_otherEnd yX4_otherEnd ∈ mx_TB := ⟨mx_in (i := 1066) (by decide +kernel) (by decide +kernel), mx_inS (i := 26) (by decide +kernel) (by decide +kernel)⟩
theorem vX4_pairUp : Cond.instanceMethod yX4_pairUp ∈ mx_TB ∧ Cond.selects yX4_pairUp.cls yX4_pairUp yX4_pairUp ∈ mx_TB := ⟨mx_in (i := 584) (by decide +kernel) (by decide +kernel), mx_in (i := 585) (by decide +kernel) (by decide +kernel)⟩
theorem vX4_pairs : Cond.instanceMethod yX4_pairs ∈ mx_TB ∧ Cond.selects yX4_pairs.cls yX4_pairs yX4_pairs ∈ mx_TB := ⟨mx_in (i := 811) (by decide +kernel) (by decide +kernel), mx_in (i := 812) (by decide +kernel) (by decide +kernel)⟩
theorem vX4_pairsWithin : Cond.instanceMethod yX4_pairsWithin ∈ mx_TB ∧ Cond.selects yX4_pairsWithin.cls yX4_pairsWithin yX4_pairsWithin ∈ mx_TB := ⟨mx_in (i := 795) (by decide +kernel) (by decide +kernel), mx_in (i := 796) (by decide +kernel) (by decide +kernel)⟩
theorem vX4_partFrom : Cond.instanceMethod yX4_partFrom ∈ mx_TB ∧ Cond.selects yX4_partFrom.cls yX4_partFrom yX4_partFrom ∈ mx_TB := ⟨mx_in (i := 889) (by decide +kernel) (by decide +kernel), mx_in (i := 890) (by decide +kernel) (by decide +kernel)⟩
theorem vX4_partnerOf : Cond.instanceMethod yX4_partnerOf ∈ mx_TB ∧ Cond.selects yX4_partnerOf.cls yX4_partnerOf yX4_partnerOf ∈ mx_TB := ⟨mx_in (i := 685) (by decide +kernel) (by decide +kernel), mx_in (i := 686) (by decide +kernel) (by decide +kernel)⟩
theorem vX4_pointNamed : Cond.instanceMethod yX4_pointNamed ∈ mx_TB ∧ Cond.selects yX4_pointNamed.cls yX4_pointNamed yX4_pointNamed ∈ mx_TB := ⟨mx_in (i := 537) (by decide +kernel) (by decide +kernel), mx_in (i := 538) (by decide +kernel) (by decide +kernel)⟩
theorem vX4_points : Cond.instanceMethod yX4_points ∈ mx_TB ∧ Cond.selects yX4_points.cls yX4_points yX4_points ∈ mx_TB := ⟨mx_in (i := 520) (by decide +kernel) (by decide +kernel), mx_in (i := 521) (by decide +kernel) (by decide +kernel)⟩
theorem vX4_priceAt : Cond.instanceMethod yX4_priceAt ∈ mx_TB ∧ Cond.selects yX4_priceAt.cls yX4_priceAt yX4_priceAt ∈ mx_TB := ⟨mx_in (i := 593) (by decide +kernel) (by decide +kernel), mx_in (i := 594) (by decide +kernel) (by decide +kernel)⟩
theorem vX4_priceOf : Cond.instanceMethod yX4_priceOf ∈ mx_TB ∧ Cond.selects yX4_priceOf.cls yX4_priceOf yX4_priceOf ∈ mx_TB := ⟨mx_in (i := 831) (by decide +kernel) (by decide +kernel), mx_in (i := 832) (by decide +kernel) (by decide +kernel)⟩
theorem vX4_roomOf : Cond.instanceMethod yX4_roomOf ∈ mx_TB ∧ Cond.selects yX4_roomOf.cls yX4_roomOf yX4_roomOf ∈ mx_TB := ⟨mx_in (i := 1061) (by decide +kernel) (by decide +kernel), mx_in (i := 1062) (by decide +kernel) (by decide +kernel)⟩
theorem vX4_setOf : Cond.instanceMethod yX4_setOf ∈ mx_TB ∧ Cond.selects yX4_setOf.cls yX4_setOf yX4_setOf ∈ mx_TB := ⟨mx_in (i := 605) (by decide +kernel) (by decide +kernel), mx_in (i := 606) (by decide +kernel) (by decide +kernel)⟩
theorem vX4_sets : Cond.instanceMethod yX4_sets ∈ mx_TB ∧ Cond.selects yX4_sets.cls yX4_sets yX4_sets ∈ mx_TB := ⟨mx_in (i := 597) (by decide +kernel) (by decide +kernel), mx_in (i := 598) (by decide +kernel) (by decide +kernel)⟩
theorem vX4_setsWith : Cond.instanceMethod yX4_setsWith ∈ mx_TB ∧ Cond.selects yX4_setsWith.cls yX4_setsWith yX4_setsWith ∈ mx_TB := ⟨mx_in (i := 1492) (by decide +kernel) (by decide +kernel), mx_in (i := 1493) (by decide +kernel) (by decide +kernel)⟩
theorem vX4_shrinkAlong : Cond.instanceMethod yX4_shrinkAlong ∈ mx_TB ∧ Cond.selects yX4_shrinkAlong.cls yX4_shrinkAlong yX4_shrinkAlong ∈ mx_TB := ⟨mx_in (i := 1012) (by decide +kernel) (by decide +kernel), mx_in (i := 1013) (by decide +kernel) (by decide +kernel)⟩
theorem vX4_shrunk : Cond.instanceMethod yX4_shrunk ∈ mx_TB ∧ Cond.selects yX4_shrunk.cls yX4_shrunk yX4_shrunk ∈ mx_TB := ⟨mx_in (i := 854) (by decide +kernel) (by decide +kernel), mx_in (i := 855) (by decide +kernel) (by decide +kernel)⟩
theorem vX4_slackOf : Cond.instanceMethod yX4_slackOf ∈ mx_TB ∧ Cond.selects yX4_slackOf.cls yX4_slackOf yX4_slackOf ∈ mx_TB := ⟨mx_in (i := 827) (by decide +kernel) (by decide +kernel), mx_in (i := 828) (by decide +kernel) (by decide +kernel)⟩
theorem vX4_tightLinks : Cond.instanceMethod yX4_tightLinks ∈ mx_TB ∧ Cond.selects yX4_tightLinks.cls yX4_tightLinks yX4_tightLinks ∈ mx_TB := ⟨mx_in (i := 823) (by decide +kernel) (by decide +kernel), mx_in (i := 824) (by decide +kernel) (by decide +kernel)⟩
theorem vX4_tightPoints : Cond.instanceMethod yX4_tightPoints ∈ mx_TB ∧ Cond.selects yX4_tightPoints.cls yX4_tightPoints yX4_tightPoints ∈ mx_TB := ⟨mx_in (i := 1369) (by decide +kernel) (by decide +kernel), mx_in (i := 1370) (by decide +kernel) (by decide +kernel)⟩
theorem vX4_tightTo : Cond.instanceMethod yX4_tightTo ∈ mx_TB ∧ Cond.selects yX4_tightTo.cls yX4_tightTo yX4_tightTo ∈ mx_TB := ⟨mx_in (i := 1488) (by decide +kernel) (by decide +kernel), mx_in (i := 1489) (by decide +kernel) (by decide +kernel)⟩
theorem vX4_toOf : Cond.instanceMethod yX4_toOf ∈ mx_TB ∧ Cond.selects yX4_toOf.cls yX4_toOf yX4_toOf ∈ mx_TB := ⟨mx_in (i := 673) (by decide +kernel) (by decide +kernel), mx_in (i := 674) (by decide +kernel) (by decide +kernel)⟩
theorem vX4_total : Cond.instanceMethod yX4_total ∈ mx_TB ∧ Cond.selects yX4_total.cls yX4_total yX4_total ∈ mx_TB := ⟨mx_in (i := 807) (by decide +kernel) (by decide +kernel), mx_in (i := 808) (by decide +kernel) (by decide +kernel)⟩
theorem vX4_turnAlong : Cond.instanceMethod yX4_turnAlong ∈ mx_TB ∧ Cond.selects yX4_turnAlong.cls yX4_turnAlong yX4_turnAlong ∈ mx_TB := ⟨mx_in (i := 985) (by decide +kernel) (by decide +kernel), mx_in (i := 986) (by decide +kernel) (by decide +kernel)⟩
theorem vX4_turned : Cond.instanceMethod yX4_turned ∈ mx_TB ∧ Cond.selects yX4_turned.cls yX4_turned yX4_turned ∈ mx_TB := ⟨mx_in (i := 850) (by decide +kernel) (by decide +kernel), mx_in (i := 851) (by decide +kernel) (by decide +kernel)⟩
theorem vX4_weighAnew : Cond.instanceMethod yX4_weighAnew ∈ mx_TB ∧ Cond.selects yX4_weighAnew.cls yX4_weighAnew yX4_weighAnew ∈ mx_TB := ⟨mx_in (i := 897) (by decide +kernel) (by decide +kernel), mx_in (i := 898) (by decide +kernel) (by decide +kernel)⟩
theorem vX4_weightAt : Cond.instanceMethod yX4_weightAt ∈ mx_TB ∧ Cond.selects yX4_weightAt.cls yX4_weightAt yX4_weightAt ∈ mx_TB := ⟨mx_in (i := 677) (by decide +kernel) (by decide +kernel), mx_in (i := 678) (by decide +kernel) (by decide +kernel)⟩
theorem vX4_weightOf : Cond.instanceMethod yX4_weightOf ∈ mx_TB ∧ Cond.selects yX4_weightOf.cls yX4_weightOf yX4_weightOf ∈ mx_TB := ⟨mx_in (i := 727) (by decide +kernel) (by decide +kernel), mx_in (i := 728) (by decide +kernel) (by decide +kernel)⟩
theorem vX5_lines : Cond.instanceMethod yX5_lines ∈ mx_TB ∧ Cond.selects yX5_lines.cls yX5_lines yX5_lines ∈ mx_TB := ⟨mx_in (i := 648) (by decide +kernel) (by decide +kernel), mx_in (i := 649) (by decide +kernel) (by decide +kernel)⟩
theorem vX5_read : Cond.instanceMethod yX5_read ∈ mx_TB ∧ Cond.selects yX5_read.cls yX5_read yX5_read ∈ mx_TB := ⟨mx_in (i := 485) (by decide +kernel) (by decide +kernel), mx_in (i := 486) (by decide +kernel) (by decide +kernel)⟩
theorem vX5_readLine : Cond.instanceMethod yX5_readLine ∈ mx_TB ∧ Cond.selects yX5_readLine.cls yX5_readLine yX5_readLine ∈ mx_TB := ⟨mx_in (i := 517) (by decide +kernel) (by decide +kernel), mx_inS (i := 1) (by decide +kernel) (by decide +kernel)⟩
theorem vX5_readLink : Cond.instanceMethod yX5_readLink ∈ mx_TB ∧ Cond.selects yX5_readLink.cls yX5_readLink yX5_readLink ∈ mx_TB := ⟨mx_in (i := 550) (by decide +kernel) (by decide +kernel), mx_inS (i := 3) (by decide +kernel) (by decide +kernel)⟩
theorem vX5_readPair : Cond.instanceMethod yX5_readPair ∈ mx_TB ∧ Cond.selects yX5_readPair.cls yX5_readPair yX5_readPair ∈ mx_TB := ⟨mx_in (i := 581) (by decide +kernel) (by decide +kernel), mx_inS (i := 4) (by decide +kernel) (by decide +kernel)⟩
theorem vX5_readPoint : Cond.instanceMethod yX5_readPoint ∈ mx_TB ∧ Cond.selects yX5_readPoint.cls yX5_readPoint yX5_readPoint ∈ mx_TB := ⟨mx_in (i := 525) (by decide +kernel) (by decide +kernel), mx_inS (i := 2) (by decide +kernel) (by decide +kernel)⟩
theorem vX5_readPrice : Cond.instanceMethod yX5_readPrice ∈ mx_TB ∧ Cond.selects yX5_readPrice.cls yX5_readPrice yX5_readPrice ∈ mx_TB := ⟨mx_in (i := 590) (by decide +kernel) (by decide +kernel), mx_inS (i := 5) (by decide +kernel) (by decide +kernel)⟩
theorem vX5_readSet : Cond.instanceMethod yX5_readSet ∈ mx_TB ∧ Cond.selects yX5_readSet.cls yX5_readSet yX5_readSet ∈ mx_TB := ⟨mx_in (i := 602) (by decide +kernel) (by decide +kernel), mx_inS (i := 6) (by decide +kernel) (by decide +kernel)⟩
theorem vX5_result : Cond.instanceMethod yX5_result ∈ mx_TB ∧ Cond.selects yX5_result.cls yX5_result yX5_result ∈ mx_TB := ⟨mx_in (i := 625) (by decide +kernel) (by decide +kernel), mx_in (i := 626) (by decide +kernel) (by decide +kernel)⟩
theorem vX6_giveBack : Cond.instanceMethod yX6_giveBack ∈ mx_TB ∧ Cond.selects yX6_giveBack.cls yX6_giveBack yX6_giveBack ∈ mx_TB := ⟨mx_in (i := 1407) (by decide +kernel) (by decide +kernel), mx_in (i := 1408) (by decide +kernel) (by decide +kernel)⟩
theorem vX6_take : Cond.instanceMethod yX6_take ∈ mx_TB ∧ Cond.selects yX6_take.cls yX6_take yX6_take ∈ mx_TB := ⟨mx_in (i := 1397) (by decide +kernel) (by decide +kernel), mx_in (i := 1398) (by decide +kernel) (by decide +kernel)⟩
theorem vX7_add : Cond.instanceMethod yX7_add ∈ mx_TB ∧ Cond.selects yX7_add.cls yX7_add yX7_add ∈ mx_TB := ⟨mx_in (i := 942) (by decide +kernel) (by decide +kernel), mx_in (i := 943) (by decide +kernel) (by decide +kernel)⟩
theorem vX7_addDigits : Cond.instanceMethod yX7_addDigits ∈ mx_TB ∧ Cond.selects yX7_addDigits.cls yX7_addDigits yX7_addDigits ∈ mx_TB := ⟨mx_in (i := 1181) (by decide +kernel) (by decide +kernel), mx_in (i := 1182) (by decide +kernel) (by decide +kernel)⟩
theorem vX7_addName : Cond.instanceMethod yX7_addName ∈ mx_TB ∧ Cond.selects yX7_addName.cls yX7_addName yX7_addName ∈ mx_TB := ⟨mx_in (i := 1165) (by decide +kernel) (by decide +kernel), mx_in (i := 1166) (by decide +kernel) (by decide +kernel)⟩
theorem vX7_addText : Cond.instanceMethod yX7_addText ∈ mx_TB ∧ Cond.selects yX7_addText.cls yX7_addText yX7_addText ∈ mx_TB := ⟨mx_in (i := 1172) (by decide +kernel) (by decide +kernel), mx_in (i := 1173) (by decide +kernel) (by decide +kernel)⟩
theorem vX7_at : Cond.instanceMethod yX7_at ∈ mx_TB ∧ Cond.selects yX7_at.cls yX7_at yX7_at ∈ mx_TB := ⟨mx_in (i := 954) (by decide +kernel) (by decide +kernel), mx_in (i := 955) (by decide +kernel) (by decide +kernel)⟩
theorem vX7_clear : Cond.instanceMethod yX7_clear ∈ mx_TB ∧ Cond.selects yX7_clear.cls yX7_clear yX7_clear ∈ mx_TB := ⟨mx_in (i := 938) (by decide +kernel) (by decide +kernel), mx_in (i := 939) (by decide +kernel) (by decide +kernel)⟩
theorem vX7_copyFrom : Cond.instanceMethod yX7_copyFrom ∈ mx_TB ∧ Cond.selects yX7_copyFrom.cls yX7_copyFrom yX7_copyFrom ∈ mx_TB := ⟨mx_in (i := 969) (by decide +kernel) (by decide +kernel), mx_in (i := 970) (by decide +kernel) (by decide +kernel)⟩
theorem vX7_dropTwo : Cond.instanceMethod yX7_dropTwo ∈ mx_TB ∧ Cond.selects yX7_dropTwo.cls yX7_dropTwo yX7_dropTwo ∈ mx_TB := ⟨mx_in (i := 961) (by decide +kernel) (by decide +kernel), mx_in (i := 962) (by decide +kernel) (by decide +kernel)⟩
theorem vX7_size : Cond.instanceMethod yX7_size ∈ mx_TB ∧ Cond.selects yX7_size.cls yX7_size yX7_size ∈ mx_TB := ⟨mx_in (i := 950) (by decide +kernel) (by decide +kernel), mx_in (i := 951) (by decide +kernel) (by decide +kernel)⟩
theorem vX8_clear : Cond.instanceMethod yX8_clear ∈ mx_TB ∧ Cond.selects yX8_clear.cls yX8_clear yX8_clear ∈ mx_TB := ⟨mx_in (i := 640) (by decide +kernel) (by decide +kernel), mx_in (i := 641) (by decide +kernel) (by decide +kernel)⟩
theorem vX8_copyFrom : Cond.instanceMethod yX8_copyFrom ∈ mx_TB ∧ Cond.selects yX8_copyFrom.cls yX8_copyFrom yX8_copyFrom ∈ mx_TB := ⟨mx_in (i := 1343) (by decide +kernel) (by decide +kernel), mx_in (i := 1344) (by decide +kernel) (by decide +kernel)⟩
theorem vX8_ones : Cond.instanceMethod yX8_ones ∈ mx_TB ∧ Cond.selects yX8_ones.cls yX8_ones yX8_ones ∈ mx_TB := ⟨mx_in (i := 1348) (by decide +kernel) (by decide +kernel), mx_in (i := 1349) (by decide +kernel) (by decide +kernel)⟩
theorem vX8_pointsOf : Cond.instanceMethod yX8_pointsOf ∈ mx_TB ∧ Cond.selects yX8_pointsOf.cls yX8_pointsOf yX8_pointsOf ∈ mx_TB := ⟨mx_in (i := 1360) (by decide +kernel) (by decide +kernel), mx_in (i := 1361) (by decide +kernel) (by decide +kernel)⟩
theorem vX8_put : Cond.instanceMethod yX8_put ∈ mx_TB ∧ Cond.selects yX8_put.cls yX8_put yX8_put ∈ mx_TB := ⟨mx_in (i := 1332) (by decide +kernel) (by decide +kernel), mx_inS (i := 43) (by decide +kernel) (by decide +kernel)⟩
theorem vX8_putIfRead : Cond.instanceMethod yX8_putIfRead ∈ mx_TB ∧ Cond.selects yX8_putIfRead.cls yX8_putIfRead yX8_putIfRead ∈ mx_TB := ⟨mx_in (i := 1338) (by decide +kernel) (by decide +kernel), mx_inS (i := 44) (by decide +kernel) (by decide +kernel)⟩
theorem vX8_read : Cond.instanceMethod yX8_read ∈ mx_TB ∧ Cond.selects yX8_read.cls yX8_read yX8_read ∈ mx_TB := ⟨mx_in (i := 1310) (by decide +kernel) (by decide +kernel), mx_in (i := 1311) (by decide +kernel) (by decide +kernel)⟩
theorem vX8_readAll : Cond.instanceMethod yX8_readAll ∈ mx_TB ∧ Cond.selects yX8_readAll.cls yX8_readAll yX8_readAll ∈ mx_TB := ⟨mx_in (i := 1321) (by decide +kernel) (by decide +kernel), mx_inS (i := 41) (by decide +kernel) (by decide +kernel)⟩
theorem vX8_readCond : Cond.instanceMethod yX8_readCond ∈ mx_TB ∧ Cond.selects yX8_readCond.cls yX8_readCond yX8_readCond ∈ mx_TB := ⟨mx_in (i := 1317) (by decide +kernel) (by decide +kernel), mx_inS (i := 40) (by decide +kernel) (by decide +kernel)⟩
theorem vX8_readOne : Cond.instanceMethod yX8_readOne ∈ mx_TB ∧ Cond.selects yX8_readOne.cls yX8_readOne yX8_readOne ∈ mx_TB := ⟨mx_in (i := 1325) (by decide +kernel) (by decide +kernel), mx_inS (i := 42) (by decide +kernel) (by decide +kernel)⟩
theorem vX8_stands : Cond.instanceMethod yX8_stands ∈ mx_TB ∧ Cond.selects yX8_stands.cls yX8_stands yX8_stands ∈ mx_TB := ⟨mx_in (i := 1356) (by decide +kernel) (by decide +kernel), mx_in (i := 1357) (by decide +kernel) (by decide +kernel)⟩
theorem vX9_findFlower : Cond.instanceMethod yX9_findFlower ∈ mx_TB ∧ Cond.selects yX9_findFlower.cls yX9_findFlower yX9_findFlower ∈ mx_TB := ⟨mx_in (i := 999) (by decide +kernel) (by decide +kernel), mx_in (i := 1000) (by decide +kernel) (by decide +kernel)⟩
theorem vX9_findPath : Cond.instanceMethod yX9_findPath ∈ mx_TB ∧ Cond.selects yX9_findPath.cls yX9_findPath yX9_findPath ∈ mx_TB := ⟨mx_in (i := 929) (by decide +kernel) (by decide +kernel), mx_in (i := 930) (by decide +kernel) (by decide +kernel)⟩
theorem vX9_findRow : Cond.instanceMethod yX9_findRow ∈ mx_TB ∧ Cond.selects yX9_findRow.cls yX9_findRow yX9_findRow ∈ mx_TB := ⟨mx_in (i := 935) (by decide +kernel) (by decide +kernel), mx_inS (i := 22) (by decide +kernel) (by decide +kernel)⟩
theorem vX9_goOn : Cond.instanceMethod yX9_goOn ∈ mx_TB ∧ Cond.selects yX9_goOn.cls yX9_goOn yX9_goOn ∈ mx_TB := ⟨mx_in (i := 947) (by decide +kernel) (by decide +kernel), mx_inS (i := 23) (by decide +kernel) (by decide +kernel)⟩
theorem vX9_greatestGain : Cond.instanceMethod yX9_greatestGain ∈ mx_TB ∧ Cond.selects yX9_greatestGain.cls yX9_greatestGain yX9_greatestGain ∈ mx_TB := ⟨mx_in (i := 1121) (by decide +kernel) (by decide +kernel), mx_in (i := 1122) (by decide +kernel) (by decide +kernel)⟩
theorem vX9_growFrom : Cond.instanceMethod yX9_growFrom ∈ mx_TB ∧ Cond.selects yX9_growFrom.cls yX9_growFrom yX9_growFrom ∈ mx_TB := ⟨mx_in (i := 1222) (by decide +kernel) (by decide +kernel), mx_in (i := 1223) (by decide +kernel) (by decide +kernel)⟩
theorem vX9_row : Cond.instanceMethod yX9_row ∈ mx_TB ∧ Cond.selects yX9_row.cls yX9_row yX9_row ∈ mx_TB := ⟨mx_in (i := 965) (by decide +kernel) (by decide +kernel), mx_in (i := 966) (by decide +kernel) (by decide +kernel)⟩
theorem vX9_strokeOn : Cond.instanceMethod yX9_strokeOn ∈ mx_TB ∧ Cond.selects yX9_strokeOn.cls yX9_strokeOn yX9_strokeOn ∈ mx_TB := ⟨mx_in (i := 1127) (by decide +kernel) (by decide +kernel), mx_inS (i := 28) (by decide +kernel) (by decide +kernel)⟩
theorem sJ0_checkIndex_df160 : Cond.static yJ0_checkIndex_df160 ∈ mx_TB := mx_in (i := 62) (by decide +kernel) (by decide +kernel)
theorem sJ1_charAt_3b067 : Cond.static yJ1_charAt_3b067 ∈ mx_TB := mx_in (i := 59) (by decide +kernel) (by decide +kernel)
theorem sJ2_charAt_3b067 : Cond.static yJ2_charAt_3b067 ∈ mx_TB := mx_in (i := 70) (by decide +kernel) (by decide +kernel)
theorem sJ2_checkIndex_2214a : Cond.static yJ2_checkIndex_2214a ∈ mx_TB := mx_in (i := 73) (by decide +kernel) (by decide +kernel)
theorem sJ2_getChar_3b067 : Cond.static yJ2_getChar_3b067 ∈ mx_TB := mx_in (i := 80) (by decide +kernel) (by decide +kernel)
theorem sJ2_length_9d52b : Cond.static yJ2_length_9d52b ∈ mx_TB := mx_in (i := 76) (by decide +kernel) (by decide +kernel)
theorem sJ3_checkIndex_8e157 : Cond.static yJ3_checkIndex_8e157 ∈ mx_TB := mx_in (i := 67) (by decide +kernel) (by decide +kernel)
theorem sJ6_bitCount_0f7a4 : Cond.static yJ6_bitCount_0f7a4 ∈ mx_TB := mx_in (i := 844) (by decide +kernel) (by decide +kernel)
theorem sJ9_floorMod_7cf53 : Cond.static yJ9_floorMod_7cf53 ∈ mx_TB := mx_in (i := 871) (by decide +kernel) (by decide +kernel)
theorem sJ9_max_7cf53 : Cond.static yJ9_max_7cf53 ∈ mx_TB := mx_in (i := 212) (by decide +kernel) (by decide +kernel)
theorem sJ9_min_7cf53 : Cond.static yJ9_min_7cf53 ∈ mx_TB := mx_in (i := 497) (by decide +kernel) (by decide +kernel)
theorem sX0_behind : Cond.static yX0_behind ∈ mx_TB := mx_in (i := 1287) (by decide +kernel) (by decide +kernel)
theorem sX0_isDeed : Cond.static yX0_isDeed ∈ mx_TB := mx_in (i := 1251) (by decide +kernel) (by decide +kernel)
theorem sX11_bitNumbered : Cond.static yX11_bitNumbered ∈ mx_TB := mx_in (i := 1386) (by decide +kernel) (by decide +kernel)
theorem sX11_commonDivisor : Cond.static yX11_commonDivisor ∈ mx_TB := mx_in (i := 1517) (by decide +kernel) (by decide +kernel)
theorem sX11_isPrice : Cond.static yX11_isPrice ∈ mx_TB := mx_in (i := 905) (by decide +kernel) (by decide +kernel)
theorem sX12_bits : Cond.static yX12_bits ∈ mx_TB := mx_in (i := 1957) (by decide +kernel) (by decide +kernel)
theorem sX12_common : Cond.static yX12_common ∈ mx_TB := mx_in (i := 2132) (by decide +kernel) (by decide +kernel)
theorem sX12_findIn : Cond.static yX12_findIn ∈ mx_TB := mx_in (i := 1793) (by decide +kernel) (by decide +kernel)
theorem sX12_has : Cond.static yX12_has ∈ mx_TB := mx_in (i := 1830) (by decide +kernel) (by decide +kernel)
theorem sX12_isDigit : Cond.static yX12_isDigit ∈ mx_TB := mx_in (i := 1754) (by decide +kernel) (by decide +kernel)
theorem sX12_isIn : Cond.static yX12_isIn ∈ mx_TB := mx_in (i := 1811) (by decide +kernel) (by decide +kernel)
theorem sX12_isLetter : Cond.static yX12_isLetter ∈ mx_TB := mx_in (i := 1751) (by decide +kernel) (by decide +kernel)
theorem sX12_linkIn : Cond.static yX12_linkIn ∈ mx_TB := mx_in (i := 1804) (by decide +kernel) (by decide +kernel)
theorem sX12_spelt : Cond.static yX12_spelt ∈ mx_TB := mx_in (i := 1774) (by decide +kernel) (by decide +kernel)
theorem sX12_wordOf : Cond.static yX12_wordOf ∈ mx_TB := mx_in (i := 1771) (by decide +kernel) (by decide +kernel)
theorem sX1_pairTwo : Cond.static yX1_pairTwo ∈ mx_TB := mx_in (i := 1208) (by decide +kernel) (by decide +kernel)
theorem sX2_leastOf : Cond.static yX2_leastOf ∈ mx_TB := mx_in (i := 711) (by decide +kernel) (by decide +kernel)
theorem sX8_measureOf : Cond.static yX8_measureOf ∈ mx_TB := mx_in (i := 1379) (by decide +kernel) (by decide +kernel)
theorem sX8_pointsCompared : Cond.static yX8_pointsCompared ∈ mx_TB := mx_in (i := 1376) (by decide +kernel) (by decide +kernel)
theorem sX8_pointsOfOne : Cond.static yX8_pointsOfOne ∈ mx_TB := mx_in (i := 1365) (by decide +kernel) (by decide +kernel)
theorem iL_26 : mx_inv RLaw 26 MX11_init 0 := ⟨mx_in (i := 27) (by decide +kernel) (by decide +kernel), mx_in (i := 29) (by decide +kernel) (by decide +kernel), mx_in (i := 1) (by decide +kernel) (by decide +kernel), by decide +kernel, by decide +kernel, by decide⟩
theorem iX11_9 : mx_inv RX11 9 MX10_init 0 := ⟨mx_in (i := 35) (by decide +kernel) (by decide +kernel), mx_in (i := 37) (by decide +kernel) (by decide +kernel), mx_in (i := 2) (by decide +kernel) (by decide +kernel), by decide +kernel, by decide +kernel, by decide⟩
theorem iX10_21 : mx_inv RX10 21 MJ0_length_8abf5 0 := ⟨mx_in (i := 40) (by decide +kernel) (by decide +kernel), mx_in (i := 43) (by decide +kernel) (by decide +kernel), mx_in (i := 3) (by decide +kernel) (by decide +kernel), by decide +kernel, by decide +kernel, by decide⟩
theorem iJ0_335 : mx_inv RJ0 335 MJ0_coder_7d493 0 := ⟨mx_in (i := 44) (by decide +kernel) (by decide +kernel), mx_in (i := 47) (by decide +kernel) (by decide +kernel), mx_in (i := 3) (by decide +kernel) (by decide +kernel), by decide +kernel, by decide +kernel, by decide⟩
theorem iX10_27 : mx_inv RX10 27 MJ0_charAt_5068e 1 := ⟨mx_in (i := 50) (by decide +kernel) (by decide +kernel), mx_in (i := 53) (by decide +kernel) (by decide +kernel), mx_in (i := 3) (by decide +kernel) (by decide +kernel), by decide +kernel, by decide +kernel, by decide⟩
theorem iJ0_492 : mx_inv RJ0 492 MJ0_isLatin1_aae02 0 := ⟨mx_in (i := 54) (by decide +kernel) (by decide +kernel), mx_in (i := 57) (by decide +kernel) (by decide +kernel), mx_in (i := 3) (by decide +kernel) (by decide +kernel), by decide +kernel, by decide +kernel, by decide⟩
theorem iJ0_495 : mx_inv RJ0 495 MJ1_charAt_3b067 2 := ⟨mx_in (i := 58) (by decide +kernel) (by decide +kernel), mx_in (i := 60) (by decide +kernel) (by decide +kernel), mx_in (i := 4) (by decide +kernel) (by decide +kernel), by decide +kernel, by decide +kernel, by decide⟩
theorem iJ1_9 : mx_inv RJ1 9 MJ0_checkIndex_df160 2 := ⟨mx_in (i := 61) (by decide +kernel) (by decide +kernel), mx_in (i := 63) (by decide +kernel) (by decide +kernel), mx_in (i := 3) (by decide +kernel) (by decide +kernel), by decide +kernel, by decide +kernel, by decide⟩
theorem iJ0_1059 : mx_inv RJ0 1059 MJ3_checkIndex_8e157 3 := ⟨mx_in (i := 66) (by decide +kernel) (by decide +kernel), mx_in (i := 68) (by decide +kernel) (by decide +kernel), mx_in (i := 5) (by decide +kernel) (by decide +kernel), by decide +kernel, by decide +kernel, by decide⟩
theorem iJ0_498 : mx_inv RJ0 498 MJ2_charAt_3b067 2 := ⟨mx_in (i := 69) (by decide +kernel) (by decide +kernel), mx_in (i := 71) (by decide +kernel) (by decide +kernel), mx_in (i := 6) (by decide +kernel) (by decide +kernel), by decide +kernel, by decide +kernel, by decide⟩
theorem iJ2_67 : mx_inv RJ2 67 MJ2_checkIndex_2214a 2 := ⟨mx_in (i := 72) (by decide +kernel) (by decide +kernel), mx_in (i := 74) (by decide +kernel) (by decide +kernel), mx_in (i := 6) (by decide +kernel) (by decide +kernel), by decide +kernel, by decide +kernel, by decide⟩
theorem iJ2_48 : mx_inv RJ2 48 MJ2_length_9d52b 1 := ⟨mx_in (i := 75) (by decide +kernel) (by decide +kernel), mx_in (i := 77) (by decide +kernel) (by decide +kernel), mx_in (i := 6) (by decide +kernel) (by decide +kernel), by decide +kernel, by decide +kernel, by decide⟩
theorem iJ2_414 : mx_inv RJ2 414 MJ0_checkIndex_df160 2 := ⟨mx_in (i := 78) (by decide +kernel) (by decide +kernel), mx_in (i := 63) (by decide +kernel) (by decide +kernel), mx_in (i := 3) (by decide +kernel) (by decide +kernel), by decide +kernel, by decide +kernel, by decide⟩
theorem iJ2_71 : mx_inv RJ2 71 MJ2_getChar_3b067 2 := ⟨mx_in (i := 79) (by decide +kernel) (by decide +kernel), mx_in (i := 81) (by decide +kernel) (by decide +kernel), mx_in (i := 6) (by decide +kernel) (by decide +kernel), by decide +kernel, by decide +kernel, by decide⟩
theorem cX10_31 : Cond.constantLong RX10 31 32 ∈ mx_TB := mx_in (i := 88) (by decide +kernel) (by decide +kernel)
theorem iX9_11 : mx_inv RX9 11 MX7_init 1 := ⟨mx_in (i := 207) (by decide +kernel) (by decide +kernel), mx_in (i := 209) (by decide +kernel) (by decide +kernel), mx_in (i := 10) (by decide +kernel) (by decide +kernel), by decide +kernel, by decide +kernel, by decide⟩
theorem iX7_9 : mx_inv RX7 9 MJ9_max_7cf53 2 := ⟨mx_in (i := 211) (by decide +kernel) (by decide +kernel), mx_in (i := 213) (by decide +kernel) (by decide +kernel), mx_in (i := 11) (by decide +kernel) (by decide +kernel), by decide +kernel, by decide +kernel, by decide⟩
theorem iX11_42 : mx_inv RX11 42 MX7_init 1 := ⟨mx_in (i := 229) (by decide +kernel) (by decide +kernel), mx_in (i := 209) (by decide +kernel) (by decide +kernel), mx_in (i := 10) (by decide +kernel) (by decide +kernel), by decide +kernel, by decide +kernel, by decide⟩
theorem iX11_64 : mx_inv RX11 64 MX3_init 0 := ⟨mx_in (i := 289) (by decide +kernel) (by decide +kernel), mx_in (i := 291) (by decide +kernel) (by decide +kernel), mx_in (i := 13) (by decide +kernel) (by decide +kernel), by decide +kernel, by decide +kernel, by decide⟩
theorem iL_30 : mx_inv RLaw 30 MX11_feed 5 := ⟨mx_in (i := 460) (by decide +kernel) (by decide +kernel), mx_in (i := 463) (by decide +kernel) (by decide +kernel), mx_in (i := 1) (by decide +kernel) (by decide +kernel), by decide +kernel, by decide +kernel, by decide⟩
theorem iX11_110 : mx_inv RX11 110 MX10_length 0 := ⟨mx_in (i := 464) (by decide +kernel) (by decide +kernel), mx_in (i := 467) (by decide +kernel) (by decide +kernel), mx_in (i := 2) (by decide +kernel) (by decide +kernel), by decide +kernel, by decide +kernel, by decide⟩
theorem iX11_114 : mx_inv RX11 114 MX10_putFour 1 := ⟨mx_in (i := 468) (by decide +kernel) (by decide +kernel), mx_in (i := 471) (by decide +kernel) (by decide +kernel), mx_in (i := 2) (by decide +kernel) (by decide +kernel), by decide +kernel, by decide +kernel, by decide⟩
theorem iL_35 : mx_inv RLaw 35 MX11_end 1 := ⟨mx_in (i := 472) (by decide +kernel) (by decide +kernel), mx_in (i := 475) (by decide +kernel) (by decide +kernel), mx_in (i := 1) (by decide +kernel) (by decide +kernel), by decide +kernel, by decide +kernel, by decide⟩
theorem iX11_117 : mx_inv RX11 117 MX10_cut 1 := ⟨mx_in (i := 476) (by decide +kernel) (by decide +kernel), mx_in (i := 479) (by decide +kernel) (by decide +kernel), mx_in (i := 2) (by decide +kernel) (by decide +kernel), by decide +kernel, by decide +kernel, by decide⟩
theorem iL_40 : mx_inv RLaw 40 MX11_network 0 := ⟨mx_in (i := 480) (by decide +kernel) (by decide +kernel), mx_in (i := 483) (by decide +kernel) (by decide +kernel), mx_in (i := 1) (by decide +kernel) (by decide +kernel), by decide +kernel, by decide +kernel, by decide⟩
theorem iX11_120 : mx_inv RX11 120 MX5_read 1 := ⟨mx_in (i := 484) (by decide +kernel) (by decide +kernel), mx_in (i := 487) (by decide +kernel) (by decide +kernel), mx_in (i := 8) (by decide +kernel) (by decide +kernel), by decide +kernel, by decide +kernel, by decide⟩
theorem iX5_22 : mx_inv RX5 22 MX4_clear 0 := ⟨mx_in (i := 488) (by decide +kernel) (by decide +kernel), mx_in (i := 491) (by decide +kernel) (by decide +kernel), mx_in (i := 7) (by decide +kernel) (by decide +kernel), by decide +kernel, by decide +kernel, by decide⟩
theorem iX5_28 : mx_inv RX5 28 MX10_begin 1 := ⟨mx_in (i := 492) (by decide +kernel) (by decide +kernel), mx_in (i := 495) (by decide +kernel) (by decide +kernel), mx_in (i := 2) (by decide +kernel) (by decide +kernel), by decide +kernel, by decide +kernel, by decide⟩
theorem iX10_53 : mx_inv RX10 53 MJ9_min_7cf53 2 := ⟨mx_in (i := 496) (by decide +kernel) (by decide +kernel), mx_in (i := 498) (by decide +kernel) (by decide +kernel), mx_in (i := 11) (by decide +kernel) (by decide +kernel), by decide +kernel, by decide +kernel, by decide⟩
theorem iX10_65 : mx_inv RX10 65 MX10_advance 0 := ⟨mx_in (i := 499) (by decide +kernel) (by decide +kernel), mx_in (i := 502) (by decide +kernel) (by decide +kernel), mx_in (i := 2) (by decide +kernel) (by decide +kernel), by decide +kernel, by decide +kernel, by decide⟩
theorem iX10_71 : mx_inv RX10 71 MX10_signAt 1 := ⟨mx_in (i := 503) (by decide +kernel) (by decide +kernel), mx_in (i := 506) (by decide +kernel) (by decide +kernel), mx_in (i := 2) (by decide +kernel) (by decide +kernel), by decide +kernel, by decide +kernel, by decide⟩
theorem iX10_75 : mx_inv RX10 75 MX10_readChunk 0 := ⟨mx_in (i := 507) (by decide +kernel) (by decide +kernel), mx_in (i := 510) (by decide +kernel) (by decide +kernel), mx_in (i := 2) (by decide +kernel) (by decide +kernel), by decide +kernel, by decide +kernel, by decide⟩
theorem iX5_34 : mx_inv RX5 34 MX10_kind 0 := ⟨mx_in (i := 511) (by decide +kernel) (by decide +kernel), mx_in (i := 514) (by decide +kernel) (by decide +kernel), mx_in (i := 2) (by decide +kernel) (by decide +kernel), by decide +kernel, by decide +kernel, by decide⟩
theorem iX5_38 : mx_inv RX5 38 MX5_readLine 1 := ⟨mx_in (i := 515) (by decide +kernel) (by decide +kernel), mx_in (i := 518) (by decide +kernel) (by decide +kernel), mx_in (i := 8) (by decide +kernel) (by decide +kernel), by decide +kernel, by decide +kernel, by decide⟩
theorem iX5_50 : mx_inv RX5 50 MX4_points 0 := ⟨mx_in (i := 519) (by decide +kernel) (by decide +kernel), mx_in (i := 522) (by decide +kernel) (by decide +kernel), mx_in (i := 7) (by decide +kernel) (by decide +kernel), by decide +kernel, by decide +kernel, by decide⟩
theorem iX5_53 : mx_inv RX5 53 MX5_readPoint 1 := ⟨mx_in (i := 523) (by decide +kernel) (by decide +kernel), mx_in (i := 526) (by decide +kernel) (by decide +kernel), mx_in (i := 8) (by decide +kernel) (by decide +kernel), by decide +kernel, by decide +kernel, by decide⟩
theorem iX5_77 : mx_inv RX5 77 MX10_advance 0 := ⟨mx_in (i := 527) (by decide +kernel) (by decide +kernel), mx_in (i := 502) (by decide +kernel) (by decide +kernel), mx_in (i := 2) (by decide +kernel) (by decide +kernel), by decide +kernel, by decide +kernel, by decide⟩
theorem iX5_56 : mx_inv RX5 56 MX10_fail 1 := ⟨mx_in (i := 528) (by decide +kernel) (by decide +kernel), mx_in (i := 531) (by decide +kernel) (by decide +kernel), mx_in (i := 2) (by decide +kernel) (by decide +kernel), by decide +kernel, by decide +kernel, by decide⟩
theorem iX5_80 : mx_inv RX5 80 MX10_word 0 := ⟨mx_in (i := 532) (by decide +kernel) (by decide +kernel), mx_in (i := 535) (by decide +kernel) (by decide +kernel), mx_in (i := 2) (by decide +kernel) (by decide +kernel), by decide +kernel, by decide +kernel, by decide⟩
theorem iX5_84 : mx_inv RX5 84 MX4_pointNamed 1 := ⟨mx_in (i := 536) (by decide +kernel) (by decide +kernel), mx_in (i := 539) (by decide +kernel) (by decide +kernel), mx_in (i := 7) (by decide +kernel) (by decide +kernel), by decide +kernel, by decide +kernel, by decide⟩
theorem iX5_88 : mx_inv RX5 88 MX4_addPoint 1 := ⟨mx_in (i := 540) (by decide +kernel) (by decide +kernel), mx_in (i := 543) (by decide +kernel) (by decide +kernel), mx_in (i := 7) (by decide +kernel) (by decide +kernel), by decide +kernel, by decide +kernel, by decide⟩
theorem iX5_59 : mx_inv RX5 59 MX4_links 0 := ⟨mx_in (i := 544) (by decide +kernel) (by decide +kernel), mx_in (i := 547) (by decide +kernel) (by decide +kernel), mx_in (i := 7) (by decide +kernel) (by decide +kernel), by decide +kernel, by decide +kernel, by decide⟩
theorem iX5_62 : mx_inv RX5 62 MX5_readLink 1 := ⟨mx_in (i := 548) (by decide +kernel) (by decide +kernel), mx_in (i := 551) (by decide +kernel) (by decide +kernel), mx_in (i := 8) (by decide +kernel) (by decide +kernel), by decide +kernel, by decide +kernel, by decide⟩
theorem iX5_92 : mx_inv RX5 92 MX10_takePoint 1 := ⟨mx_in (i := 552) (by decide +kernel) (by decide +kernel), mx_in (i := 555) (by decide +kernel) (by decide +kernel), mx_in (i := 2) (by decide +kernel) (by decide +kernel), by decide +kernel, by decide +kernel, by decide⟩
theorem iX10_91 : mx_inv RX10 91 MX10_pointHere 1 := ⟨mx_in (i := 556) (by decide +kernel) (by decide +kernel), mx_in (i := 559) (by decide +kernel) (by decide +kernel), mx_in (i := 2) (by decide +kernel) (by decide +kernel), by decide +kernel, by decide +kernel, by decide⟩
theorem iX10_81 : mx_inv RX10 81 MX10_fail 1 := ⟨mx_in (i := 560) (by decide +kernel) (by decide +kernel), mx_in (i := 531) (by decide +kernel) (by decide +kernel), mx_in (i := 2) (by decide +kernel) (by decide +kernel), by decide +kernel, by decide +kernel, by decide⟩
theorem iX10_85 : mx_inv RX10 85 MX4_pointNamed 1 := ⟨mx_in (i := 561) (by decide +kernel) (by decide +kernel), mx_in (i := 539) (by decide +kernel) (by decide +kernel), mx_in (i := 7) (by decide +kernel) (by decide +kernel), by decide +kernel, by decide +kernel, by decide⟩
theorem iX5_96 : mx_inv RX5 96 MX10_pointHere 1 := ⟨mx_in (i := 562) (by decide +kernel) (by decide +kernel), mx_in (i := 559) (by decide +kernel) (by decide +kernel), mx_in (i := 2) (by decide +kernel) (by decide +kernel), by decide +kernel, by decide +kernel, by decide⟩
theorem iX5_99 : mx_inv RX5 99 MX4_areLinked 2 := ⟨mx_in (i := 563) (by decide +kernel) (by decide +kernel), mx_in (i := 566) (by decide +kernel) (by decide +kernel), mx_in (i := 7) (by decide +kernel) (by decide +kernel), by decide +kernel, by decide +kernel, by decide⟩
theorem iX4_69 : mx_inv RX4 69 MX4_hasPoint 1 := ⟨mx_in (i := 567) (by decide +kernel) (by decide +kernel), mx_in (i := 570) (by decide +kernel) (by decide +kernel), mx_in (i := 7) (by decide +kernel) (by decide +kernel), by decide +kernel, by decide +kernel, by decide⟩
theorem iX5_103 : mx_inv RX5 103 MX10_takeNumber 2 := ⟨mx_in (i := 571) (by decide +kernel) (by decide +kernel), mx_in (i := 574) (by decide +kernel) (by decide +kernel), mx_in (i := 2) (by decide +kernel) (by decide +kernel), by decide +kernel, by decide +kernel, by decide⟩
theorem iX5_107 : mx_inv RX5 107 MX4_addLink 3 := ⟨mx_in (i := 575) (by decide +kernel) (by decide +kernel), mx_in (i := 578) (by decide +kernel) (by decide +kernel), mx_in (i := 7) (by decide +kernel) (by decide +kernel), by decide +kernel, by decide +kernel, by decide⟩
theorem iX5_65 : mx_inv RX5 65 MX5_readPair 1 := ⟨mx_in (i := 579) (by decide +kernel) (by decide +kernel), mx_in (i := 582) (by decide +kernel) (by decide +kernel), mx_in (i := 8) (by decide +kernel) (by decide +kernel), by decide +kernel, by decide +kernel, by decide⟩
theorem iX5_111 : mx_inv RX5 111 MX4_pairUp 2 := ⟨mx_in (i := 583) (by decide +kernel) (by decide +kernel), mx_in (i := 586) (by decide +kernel) (by decide +kernel), mx_in (i := 7) (by decide +kernel) (by decide +kernel), by decide +kernel, by decide +kernel, by decide⟩
theorem iX4_136 : mx_inv RX4 136 MX4_areLinked 2 := ⟨mx_in (i := 587) (by decide +kernel) (by decide +kernel), mx_in (i := 566) (by decide +kernel) (by decide +kernel), mx_in (i := 7) (by decide +kernel) (by decide +kernel), by decide +kernel, by decide +kernel, by decide⟩
theorem iX5_68 : mx_inv RX5 68 MX5_readPrice 1 := ⟨mx_in (i := 588) (by decide +kernel) (by decide +kernel), mx_in (i := 591) (by decide +kernel) (by decide +kernel), mx_in (i := 8) (by decide +kernel) (by decide +kernel), by decide +kernel, by decide +kernel, by decide⟩
theorem iX5_114 : mx_inv RX5 114 MX4_priceAt 2 := ⟨mx_in (i := 592) (by decide +kernel) (by decide +kernel), mx_in (i := 595) (by decide +kernel) (by decide +kernel), mx_in (i := 7) (by decide +kernel) (by decide +kernel), by decide +kernel, by decide +kernel, by decide⟩
theorem iX5_71 : mx_inv RX5 71 MX4_sets 0 := ⟨mx_in (i := 596) (by decide +kernel) (by decide +kernel), mx_in (i := 599) (by decide +kernel) (by decide +kernel), mx_in (i := 7) (by decide +kernel) (by decide +kernel), by decide +kernel, by decide +kernel, by decide⟩
theorem iX5_74 : mx_inv RX5 74 MX5_readSet 1 := ⟨mx_in (i := 600) (by decide +kernel) (by decide +kernel), mx_in (i := 603) (by decide +kernel) (by decide +kernel), mx_in (i := 8) (by decide +kernel) (by decide +kernel), by decide +kernel, by decide +kernel, by decide⟩
theorem iX5_117 : mx_inv RX5 117 MX4_setOf 1 := ⟨mx_in (i := 604) (by decide +kernel) (by decide +kernel), mx_in (i := 607) (by decide +kernel) (by decide +kernel), mx_in (i := 7) (by decide +kernel) (by decide +kernel), by decide +kernel, by decide +kernel, by decide⟩
theorem iX5_121 : mx_inv RX5 121 MX4_addSet 2 := ⟨mx_in (i := 608) (by decide +kernel) (by decide +kernel), mx_in (i := 611) (by decide +kernel) (by decide +kernel), mx_in (i := 7) (by decide +kernel) (by decide +kernel), by decide +kernel, by decide +kernel, by decide⟩
theorem iX5_42 : mx_inv RX5 42 MX10_take 1 := ⟨mx_in (i := 612) (by decide +kernel) (by decide +kernel), mx_in (i := 615) (by decide +kernel) (by decide +kernel), mx_in (i := 2) (by decide +kernel) (by decide +kernel), by decide +kernel, by decide +kernel, by decide⟩
theorem iX5_46 : mx_inv RX5 46 MX10_endsHere 0 := ⟨mx_in (i := 616) (by decide +kernel) (by decide +kernel), mx_in (i := 619) (by decide +kernel) (by decide +kernel), mx_in (i := 2) (by decide +kernel) (by decide +kernel), by decide +kernel, by decide +kernel, by decide⟩
theorem iX11_124 : mx_inv RX11 124 MX10_faultAt 0 := ⟨mx_in (i := 620) (by decide +kernel) (by decide +kernel), mx_in (i := 623) (by decide +kernel) (by decide +kernel), mx_in (i := 2) (by decide +kernel) (by decide +kernel), by decide +kernel, by decide +kernel, by decide⟩
theorem iX11_127 : mx_inv RX11 127 MX5_result 0 := ⟨mx_in (i := 624) (by decide +kernel) (by decide +kernel), mx_in (i := 627) (by decide +kernel) (by decide +kernel), mx_in (i := 8) (by decide +kernel) (by decide +kernel), by decide +kernel, by decide +kernel, by decide⟩
theorem iX11_131 : mx_inv RX11 131 MX4_copyFrom 1 := ⟨mx_in (i := 628) (by decide +kernel) (by decide +kernel), mx_in (i := 631) (by decide +kernel) (by decide +kernel), mx_in (i := 7) (by decide +kernel) (by decide +kernel), by decide +kernel, by decide +kernel, by decide⟩
theorem iX4_59 : mx_inv RX4 59 MX4_copyLinksFrom 1 := ⟨mx_in (i := 632) (by decide +kernel) (by decide +kernel), mx_in (i := 635) (by decide +kernel) (by decide +kernel), mx_in (i := 7) (by decide +kernel) (by decide +kernel), by decide +kernel, by decide +kernel, by decide⟩
theorem aX4_63 : mx_acw RX4 63 := ⟨mx_in (i := 636) (by decide +kernel) (by decide +kernel), mx_in (i := 638) (by decide +kernel) (by decide +kernel), mx_in (i := 637) (by decide +kernel) (by decide +kernel), mx_in (i := 19) (by decide +kernel) (by decide +kernel)⟩
theorem iX11_135 : mx_inv RX11 135 MX8_clear 0 := ⟨mx_in (i := 639) (by decide +kernel) (by decide +kernel), mx_in (i := 642) (by decide +kernel) (by decide +kernel), mx_in (i := 15) (by decide +kernel) (by decide +kernel), by decide +kernel, by decide +kernel, by decide⟩
theorem iX11_138 : mx_inv RX11 138 MX3_forget 0 := ⟨mx_in (i := 643) (by decide +kernel) (by decide +kernel), mx_in (i := 646) (by decide +kernel) (by decide +kernel), mx_in (i := 13) (by decide +kernel) (by decide +kernel), by decide +kernel, by decide +kernel, by decide⟩
theorem iX11_141 : mx_inv RX11 141 MX5_lines 0 := ⟨mx_in (i := 647) (by decide +kernel) (by decide +kernel), mx_in (i := 650) (by decide +kernel) (by decide +kernel), mx_in (i := 8) (by decide +kernel) (by decide +kernel), by decide +kernel, by decide +kernel, by decide⟩
theorem iL_44 : mx_inv RLaw 44 MX11_fault 0 := ⟨mx_in (i := 651) (by decide +kernel) (by decide +kernel), mx_in (i := 654) (by decide +kernel) (by decide +kernel), mx_in (i := 1) (by decide +kernel) (by decide +kernel), by decide +kernel, by decide +kernel, by decide⟩
theorem iX11_144 : mx_inv RX11 144 MX10_faultKind 0 := ⟨mx_in (i := 655) (by decide +kernel) (by decide +kernel), mx_in (i := 658) (by decide +kernel) (by decide +kernel), mx_in (i := 2) (by decide +kernel) (by decide +kernel), by decide +kernel, by decide +kernel, by decide⟩
theorem iL_57 : mx_inv RLaw 57 MX11_link 2 := ⟨mx_in (i := 659) (by decide +kernel) (by decide +kernel), mx_in (i := 662) (by decide +kernel) (by decide +kernel), mx_in (i := 1) (by decide +kernel) (by decide +kernel), by decide +kernel, by decide +kernel, by decide⟩
theorem iX11_170 : mx_inv RX11 170 MX4_hasLink 1 := ⟨mx_in (i := 663) (by decide +kernel) (by decide +kernel), mx_in (i := 666) (by decide +kernel) (by decide +kernel), mx_in (i := 7) (by decide +kernel) (by decide +kernel), by decide +kernel, by decide +kernel, by decide⟩
theorem iX11_173 : mx_inv RX11 173 MX4_fromOf 1 := ⟨mx_in (i := 667) (by decide +kernel) (by decide +kernel), mx_in (i := 670) (by decide +kernel) (by decide +kernel), mx_in (i := 7) (by decide +kernel) (by decide +kernel), by decide +kernel, by decide +kernel, by decide⟩
theorem iX4_73 : mx_inv RX4 73 MX4_hasLink 1 := ⟨mx_in (i := 671) (by decide +kernel) (by decide +kernel), mx_in (i := 666) (by decide +kernel) (by decide +kernel), mx_in (i := 7) (by decide +kernel) (by decide +kernel), by decide +kernel, by decide +kernel, by decide⟩
theorem iX11_176 : mx_inv RX11 176 MX4_toOf 1 := ⟨mx_in (i := 672) (by decide +kernel) (by decide +kernel), mx_in (i := 675) (by decide +kernel) (by decide +kernel), mx_in (i := 7) (by decide +kernel) (by decide +kernel), by decide +kernel, by decide +kernel, by decide⟩
theorem iX11_179 : mx_inv RX11 179 MX4_weightAt 1 := ⟨mx_in (i := 676) (by decide +kernel) (by decide +kernel), mx_in (i := 679) (by decide +kernel) (by decide +kernel), mx_in (i := 7) (by decide +kernel) (by decide +kernel), by decide +kernel, by decide +kernel, by decide⟩
theorem iX11_182 : mx_inv RX11 182 MX4_isPair 1 := ⟨mx_in (i := 680) (by decide +kernel) (by decide +kernel), mx_in (i := 683) (by decide +kernel) (by decide +kernel), mx_in (i := 7) (by decide +kernel) (by decide +kernel), by decide +kernel, by decide +kernel, by decide⟩
theorem iX4_76 : mx_inv RX4 76 MX4_partnerOf 1 := ⟨mx_in (i := 684) (by decide +kernel) (by decide +kernel), mx_in (i := 687) (by decide +kernel) (by decide +kernel), mx_in (i := 7) (by decide +kernel) (by decide +kernel), by decide +kernel, by decide +kernel, by decide⟩
theorem iX11_185 : mx_inv RX11 185 MX2_lookAt 1 := ⟨mx_in (i := 688) (by decide +kernel) (by decide +kernel), mx_in (i := 691) (by decide +kernel) (by decide +kernel), mx_in (i := 12) (by decide +kernel) (by decide +kernel), by decide +kernel, by decide +kernel, by decide⟩
theorem iX2_50 : mx_inv RX2 50 MX4_hasLinksOf 1 := ⟨mx_in (i := 692) (by decide +kernel) (by decide +kernel), mx_in (i := 695) (by decide +kernel) (by decide +kernel), mx_in (i := 7) (by decide +kernel) (by decide +kernel), by decide +kernel, by decide +kernel, by decide⟩
theorem iX2_54 : mx_inv RX2 54 MX4_copyLinksFrom 1 := ⟨mx_in (i := 696) (by decide +kernel) (by decide +kernel), mx_in (i := 635) (by decide +kernel) (by decide +kernel), mx_in (i := 7) (by decide +kernel) (by decide +kernel), by decide +kernel, by decide +kernel, by decide⟩
theorem iX2_65 : mx_inv RX2 65 MX4_points 0 := ⟨mx_in (i := 697) (by decide +kernel) (by decide +kernel), mx_in (i := 522) (by decide +kernel) (by decide +kernel), mx_in (i := 7) (by decide +kernel) (by decide +kernel), by decide +kernel, by decide +kernel, by decide⟩
theorem iX2_72 : mx_inv RX2 72 MX2_slotFor 2 := ⟨mx_in (i := 698) (by decide +kernel) (by decide +kernel), mx_in (i := 701) (by decide +kernel) (by decide +kernel), mx_in (i := 12) (by decide +kernel) (by decide +kernel), by decide +kernel, by decide +kernel, by decide⟩
theorem iX2_80 : mx_inv RX2 80 MX2_slotKnown 1 := ⟨mx_in (i := 702) (by decide +kernel) (by decide +kernel), mx_in (i := 705) (by decide +kernel) (by decide +kernel), mx_in (i := 12) (by decide +kernel) (by decide +kernel), by decide +kernel, by decide +kernel, by decide⟩
theorem iX2_83 : mx_inv RX2 83 MX2_startSlot 2 := ⟨mx_in (i := 706) (by decide +kernel) (by decide +kernel), mx_in (i := 709) (by decide +kernel) (by decide +kernel), mx_in (i := 12) (by decide +kernel) (by decide +kernel), by decide +kernel, by decide +kernel, by decide⟩
theorem iX2_87 : mx_inv RX2 87 MX2_leastOf 1 := ⟨mx_in (i := 710) (by decide +kernel) (by decide +kernel), mx_in (i := 712) (by decide +kernel) (by decide +kernel), mx_in (i := 12) (by decide +kernel) (by decide +kernel), by decide +kernel, by decide +kernel, by decide⟩
theorem iX2_90 : mx_inv RX2 90 MX2_addWays 4 := ⟨mx_in (i := 713) (by decide +kernel) (by decide +kernel), mx_in (i := 716) (by decide +kernel) (by decide +kernel), mx_in (i := 12) (by decide +kernel) (by decide +kernel), by decide +kernel, by decide +kernel, by decide⟩
theorem iX2_100 : mx_inv RX2 100 MJ9_max_7cf53 2 := ⟨mx_in (i := 717) (by decide +kernel) (by decide +kernel), mx_in (i := 213) (by decide +kernel) (by decide +kernel), mx_in (i := 11) (by decide +kernel) (by decide +kernel), by decide +kernel, by decide +kernel, by decide⟩
theorem iX2_105 : mx_inv RX2 105 MX2_addTotal 2 := ⟨mx_in (i := 718) (by decide +kernel) (by decide +kernel), mx_in (i := 721) (by decide +kernel) (by decide +kernel), mx_in (i := 12) (by decide +kernel) (by decide +kernel), by decide +kernel, by decide +kernel, by decide⟩
theorem iX2_94 : mx_inv RX2 94 MX4_nearTo 1 := ⟨mx_in (i := 722) (by decide +kernel) (by decide +kernel), mx_in (i := 725) (by decide +kernel) (by decide +kernel), mx_in (i := 7) (by decide +kernel) (by decide +kernel), by decide +kernel, by decide +kernel, by decide⟩
theorem iX2_97 : mx_inv RX2 97 MX4_weightOf 2 := ⟨mx_in (i := 726) (by decide +kernel) (by decide +kernel), mx_in (i := 729) (by decide +kernel) (by decide +kernel), mx_in (i := 7) (by decide +kernel) (by decide +kernel), by decide +kernel, by decide +kernel, by decide⟩
theorem iX4_83 : mx_inv RX4 83 MX4_linkOf 2 := ⟨mx_in (i := 730) (by decide +kernel) (by decide +kernel), mx_in (i := 733) (by decide +kernel) (by decide +kernel), mx_in (i := 7) (by decide +kernel) (by decide +kernel), by decide +kernel, by decide +kernel, by decide⟩
theorem iX4_87 : mx_inv RX4 87 MX4_weightAt 1 := ⟨mx_in (i := 734) (by decide +kernel) (by decide +kernel), mx_in (i := 679) (by decide +kernel) (by decide +kernel), mx_in (i := 7) (by decide +kernel) (by decide +kernel), by decide +kernel, by decide +kernel, by decide⟩
theorem iX11_188 : mx_inv RX11 188 MX2_fateOf 1 := ⟨mx_in (i := 735) (by decide +kernel) (by decide +kernel), mx_in (i := 738) (by decide +kernel) (by decide +kernel), mx_in (i := 12) (by decide +kernel) (by decide +kernel), by decide +kernel, by decide +kernel, by decide⟩
theorem iX2_128 : mx_inv RX2 128 MX2_wantNothing 0 := ⟨mx_in (i := 739) (by decide +kernel) (by decide +kernel), mx_in (i := 742) (by decide +kernel) (by decide +kernel), mx_in (i := 12) (by decide +kernel) (by decide +kernel), by decide +kernel, by decide +kernel, by decide⟩
theorem iX2_131 : mx_inv RX2 131 MX2_countWanted 0 := ⟨mx_in (i := 743) (by decide +kernel) (by decide +kernel), mx_in (i := 746) (by decide +kernel) (by decide +kernel), mx_in (i := 12) (by decide +kernel) (by decide +kernel), by decide +kernel, by decide +kernel, by decide⟩
theorem iX2_149 : mx_inv RX2 149 MX2_walkBest 2 := ⟨mx_in (i := 747) (by decide +kernel) (by decide +kernel), mx_in (i := 750) (by decide +kernel) (by decide +kernel), mx_in (i := 12) (by decide +kernel) (by decide +kernel), by decide +kernel, by decide +kernel, by decide⟩
theorem iX2_152 : mx_inv RX2 152 MX2_tallyChosen 0 := ⟨mx_in (i := 751) (by decide +kernel) (by decide +kernel), mx_in (i := 754) (by decide +kernel) (by decide +kernel), mx_in (i := 12) (by decide +kernel) (by decide +kernel), by decide +kernel, by decide +kernel, by decide⟩
theorem iX2_155 : mx_inv RX2 155 MX2_mayBe 2 := ⟨mx_in (i := 755) (by decide +kernel) (by decide +kernel), mx_in (i := 758) (by decide +kernel) (by decide +kernel), mx_in (i := 12) (by decide +kernel) (by decide +kernel), by decide +kernel, by decide +kernel, by decide⟩
theorem iX2_124 : mx_inv RX2 124 MX2_keepsTop 3 := ⟨mx_in (i := 759) (by decide +kernel) (by decide +kernel), mx_in (i := 762) (by decide +kernel) (by decide +kernel), mx_in (i := 12) (by decide +kernel) (by decide +kernel), by decide +kernel, by decide +kernel, by decide⟩
theorem iX2_76 : mx_inv RX2 76 MX2_topFor 1 := ⟨mx_in (i := 763) (by decide +kernel) (by decide +kernel), mx_in (i := 766) (by decide +kernel) (by decide +kernel), mx_in (i := 12) (by decide +kernel) (by decide +kernel), by decide +kernel, by decide +kernel, by decide⟩
theorem iX2_112 : mx_inv RX2 112 MX2_choose 2 := ⟨mx_in (i := 767) (by decide +kernel) (by decide +kernel), mx_in (i := 770) (by decide +kernel) (by decide +kernel), mx_in (i := 12) (by decide +kernel) (by decide +kernel), by decide +kernel, by decide +kernel, by decide⟩
theorem iX2_134 : mx_inv RX2 134 MX4_fromOf 1 := ⟨mx_in (i := 771) (by decide +kernel) (by decide +kernel), mx_in (i := 670) (by decide +kernel) (by decide +kernel), mx_in (i := 7) (by decide +kernel) (by decide +kernel), by decide +kernel, by decide +kernel, by decide⟩
theorem iX2_137 : mx_inv RX2 137 MX4_toOf 1 := ⟨mx_in (i := 772) (by decide +kernel) (by decide +kernel), mx_in (i := 675) (by decide +kernel) (by decide +kernel), mx_in (i := 7) (by decide +kernel) (by decide +kernel), by decide +kernel, by decide +kernel, by decide⟩
theorem iX2_140 : mx_inv RX2 140 MX2_tallyAt 2 := ⟨mx_in (i := 773) (by decide +kernel) (by decide +kernel), mx_in (i := 776) (by decide +kernel) (by decide +kernel), mx_in (i := 12) (by decide +kernel) (by decide +kernel), by decide +kernel, by decide +kernel, by decide⟩
theorem iL_65 : mx_inv RLaw 65 MX11_odd 2 := ⟨mx_in (i := 777) (by decide +kernel) (by decide +kernel), mx_in (i := 780) (by decide +kernel) (by decide +kernel), mx_in (i := 1) (by decide +kernel) (by decide +kernel), by decide +kernel, by decide +kernel, by decide⟩
theorem iX11_194 : mx_inv RX11 194 MX4_hasSet 1 := ⟨mx_in (i := 781) (by decide +kernel) (by decide +kernel), mx_in (i := 784) (by decide +kernel) (by decide +kernel), mx_in (i := 7) (by decide +kernel) (by decide +kernel), by decide +kernel, by decide +kernel, by decide⟩
theorem iX11_197 : mx_inv RX11 197 MX4_membersOf 1 := ⟨mx_in (i := 785) (by decide +kernel) (by decide +kernel), mx_in (i := 788) (by decide +kernel) (by decide +kernel), mx_in (i := 7) (by decide +kernel) (by decide +kernel), by decide +kernel, by decide +kernel, by decide⟩
theorem iX4_80 : mx_inv RX4 80 MX4_hasSet 1 := ⟨mx_in (i := 789) (by decide +kernel) (by decide +kernel), mx_in (i := 784) (by decide +kernel) (by decide +kernel), mx_in (i := 7) (by decide +kernel) (by decide +kernel), by decide +kernel, by decide +kernel, by decide⟩
theorem iX11_200 : mx_inv RX11 200 MX4_crownOf 1 := ⟨mx_in (i := 790) (by decide +kernel) (by decide +kernel), mx_in (i := 793) (by decide +kernel) (by decide +kernel), mx_in (i := 7) (by decide +kernel) (by decide +kernel), by decide +kernel, by decide +kernel, by decide⟩
theorem iX11_203 : mx_inv RX11 203 MX4_pairsWithin 1 := ⟨mx_in (i := 794) (by decide +kernel) (by decide +kernel), mx_in (i := 797) (by decide +kernel) (by decide +kernel), mx_in (i := 7) (by decide +kernel) (by decide +kernel), by decide +kernel, by decide +kernel, by decide⟩
theorem iX4_111 : mx_inv RX4 111 MX4_membersOf 1 := ⟨mx_in (i := 798) (by decide +kernel) (by decide +kernel), mx_in (i := 788) (by decide +kernel) (by decide +kernel), mx_in (i := 7) (by decide +kernel) (by decide +kernel), by decide +kernel, by decide +kernel, by decide⟩
theorem iX4_108 : mx_inv RX4 108 MX4_isPair 1 := ⟨mx_in (i := 799) (by decide +kernel) (by decide +kernel), mx_in (i := 683) (by decide +kernel) (by decide +kernel), mx_in (i := 7) (by decide +kernel) (by decide +kernel), by decide +kernel, by decide +kernel, by decide⟩
theorem iX4_99 : mx_inv RX4 99 MX4_fromOf 1 := ⟨mx_in (i := 800) (by decide +kernel) (by decide +kernel), mx_in (i := 670) (by decide +kernel) (by decide +kernel), mx_in (i := 7) (by decide +kernel) (by decide +kernel), by decide +kernel, by decide +kernel, by decide⟩
theorem iX4_102 : mx_inv RX4 102 MX4_toOf 1 := ⟨mx_in (i := 801) (by decide +kernel) (by decide +kernel), mx_in (i := 675) (by decide +kernel) (by decide +kernel), mx_in (i := 7) (by decide +kernel) (by decide +kernel), by decide +kernel, by decide +kernel, by decide⟩
theorem iL_69 : mx_inv RLaw 69 MX11_now 1 := ⟨mx_in (i := 802) (by decide +kernel) (by decide +kernel), mx_in (i := 805) (by decide +kernel) (by decide +kernel), mx_in (i := 1) (by decide +kernel) (by decide +kernel), by decide +kernel, by decide +kernel, by decide⟩
theorem iX11_206 : mx_inv RX11 206 MX4_total 0 := ⟨mx_in (i := 806) (by decide +kernel) (by decide +kernel), mx_in (i := 809) (by decide +kernel) (by decide +kernel), mx_in (i := 7) (by decide +kernel) (by decide +kernel), by decide +kernel, by decide +kernel, by decide⟩
theorem iX11_209 : mx_inv RX11 209 MX4_pairs 0 := ⟨mx_in (i := 810) (by decide +kernel) (by decide +kernel), mx_in (i := 813) (by decide +kernel) (by decide +kernel), mx_in (i := 7) (by decide +kernel) (by decide +kernel), by decide +kernel, by decide +kernel, by decide⟩
theorem iX11_212 : mx_inv RX11 212 MX4_lonePoints 0 := ⟨mx_in (i := 814) (by decide +kernel) (by decide +kernel), mx_in (i := 817) (by decide +kernel) (by decide +kernel), mx_in (i := 7) (by decide +kernel) (by decide +kernel), by decide +kernel, by decide +kernel, by decide⟩
theorem iX4_105 : mx_inv RX4 105 MX4_isLone 1 := ⟨mx_in (i := 818) (by decide +kernel) (by decide +kernel), mx_in (i := 821) (by decide +kernel) (by decide +kernel), mx_in (i := 7) (by decide +kernel) (by decide +kernel), by decide +kernel, by decide +kernel, by decide⟩
theorem iX11_215 : mx_inv RX11 215 MX4_tightLinks 0 := ⟨mx_in (i := 822) (by decide +kernel) (by decide +kernel), mx_in (i := 825) (by decide +kernel) (by decide +kernel), mx_in (i := 7) (by decide +kernel) (by decide +kernel), by decide +kernel, by decide +kernel, by decide⟩
theorem iX4_93 : mx_inv RX4 93 MX4_slackOf 1 := ⟨mx_in (i := 826) (by decide +kernel) (by decide +kernel), mx_in (i := 829) (by decide +kernel) (by decide +kernel), mx_in (i := 7) (by decide +kernel) (by decide +kernel), by decide +kernel, by decide +kernel, by decide⟩
theorem iX4_90 : mx_inv RX4 90 MX4_priceOf 1 := ⟨mx_in (i := 830) (by decide +kernel) (by decide +kernel), mx_in (i := 833) (by decide +kernel) (by decide +kernel), mx_in (i := 7) (by decide +kernel) (by decide +kernel), by decide +kernel, by decide +kernel, by decide⟩
theorem iX11_218 : mx_inv RX11 218 MX4_bound 0 := ⟨mx_in (i := 834) (by decide +kernel) (by decide +kernel), mx_in (i := 837) (by decide +kernel) (by decide +kernel), mx_in (i := 7) (by decide +kernel) (by decide +kernel), by decide +kernel, by decide +kernel, by decide⟩
theorem iX4_119 : mx_inv RX4 119 MX4_crownOf 1 := ⟨mx_in (i := 838) (by decide +kernel) (by decide +kernel), mx_in (i := 793) (by decide +kernel) (by decide +kernel), mx_in (i := 7) (by decide +kernel) (by decide +kernel), by decide +kernel, by decide +kernel, by decide⟩
theorem iX4_122 : mx_inv RX4 122 MX4_fullPairs 1 := ⟨mx_in (i := 839) (by decide +kernel) (by decide +kernel), mx_in (i := 842) (by decide +kernel) (by decide +kernel), mx_in (i := 7) (by decide +kernel) (by decide +kernel), by decide +kernel, by decide +kernel, by decide⟩
theorem iX4_114 : mx_inv RX4 114 MJ6_bitCount_0f7a4 1 := ⟨mx_in (i := 843) (by decide +kernel) (by decide +kernel), mx_in (i := 845) (by decide +kernel) (by decide +kernel), mx_in (i := 24) (by decide +kernel) (by decide +kernel), by decide +kernel, by decide +kernel, by decide⟩
theorem cJ6_265 : Cond.constant RJ6 265 1431655765 ∈ mx_TB := mx_in (i := 846) (by decide +kernel) (by decide +kernel)
theorem cJ6_266 : Cond.constant RJ6 266 858993459 ∈ mx_TB := mx_in (i := 847) (by decide +kernel) (by decide +kernel)
theorem cJ6_267 : Cond.constant RJ6 267 252645135 ∈ mx_TB := mx_in (i := 848) (by decide +kernel) (by decide +kernel)
theorem iX11_221 : mx_inv RX11 221 MX4_turned 0 := ⟨mx_in (i := 849) (by decide +kernel) (by decide +kernel), mx_in (i := 852) (by decide +kernel) (by decide +kernel), mx_in (i := 7) (by decide +kernel) (by decide +kernel), by decide +kernel, by decide +kernel, by decide⟩
theorem iX11_224 : mx_inv RX11 224 MX4_shrunk 0 := ⟨mx_in (i := 853) (by decide +kernel) (by decide +kernel), mx_in (i := 856) (by decide +kernel) (by decide +kernel), mx_in (i := 7) (by decide +kernel) (by decide +kernel), by decide +kernel, by decide +kernel, by decide⟩
theorem iL_73 : mx_inv RLaw 73 MX11_pair 2 := ⟨mx_in (i := 857) (by decide +kernel) (by decide +kernel), mx_in (i := 860) (by decide +kernel) (by decide +kernel), mx_in (i := 1) (by decide +kernel) (by decide +kernel), by decide +kernel, by decide +kernel, by decide⟩
theorem iX11_227 : mx_inv RX11 227 MX11_areTwo 2 := ⟨mx_in (i := 861) (by decide +kernel) (by decide +kernel), mx_in (i := 864) (by decide +kernel) (by decide +kernel), mx_in (i := 1) (by decide +kernel) (by decide +kernel), by decide +kernel, by decide +kernel, by decide⟩
theorem iX11_147 : mx_inv RX11 147 MX4_hasPoint 1 := ⟨mx_in (i := 865) (by decide +kernel) (by decide +kernel), mx_in (i := 570) (by decide +kernel) (by decide +kernel), mx_in (i := 7) (by decide +kernel) (by decide +kernel), by decide +kernel, by decide +kernel, by decide⟩
theorem iX11_231 : mx_inv RX11 231 MX3_mark 1 := ⟨mx_in (i := 866) (by decide +kernel) (by decide +kernel), mx_in (i := 869) (by decide +kernel) (by decide +kernel), mx_in (i := 13) (by decide +kernel) (by decide +kernel), by decide +kernel, by decide +kernel, by decide⟩
theorem iX3_25 : mx_inv RX3 25 MJ9_floorMod_7cf53 2 := ⟨mx_in (i := 870) (by decide +kernel) (by decide +kernel), mx_in (i := 872) (by decide +kernel) (by decide +kernel), mx_in (i := 11) (by decide +kernel) (by decide +kernel), by decide +kernel, by decide +kernel, by decide⟩
theorem iX3_31 : mx_inv RX3 31 MX4_copyFrom 1 := ⟨mx_in (i := 873) (by decide +kernel) (by decide +kernel), mx_in (i := 631) (by decide +kernel) (by decide +kernel), mx_in (i := 7) (by decide +kernel) (by decide +kernel), by decide +kernel, by decide +kernel, by decide⟩
theorem iX11_234 : mx_inv RX11 234 MX4_pairUp 2 := ⟨mx_in (i := 874) (by decide +kernel) (by decide +kernel), mx_in (i := 586) (by decide +kernel) (by decide +kernel), mx_in (i := 7) (by decide +kernel) (by decide +kernel), by decide +kernel, by decide +kernel, by decide⟩
theorem iX11_238 : mx_inv RX11 238 MX11_keepIfDone 1 := ⟨mx_in (i := 875) (by decide +kernel) (by decide +kernel), mx_in (i := 878) (by decide +kernel) (by decide +kernel), mx_in (i := 1) (by decide +kernel) (by decide +kernel), by decide +kernel, by decide +kernel, by decide⟩
theorem iX11_387 : mx_inv RX11 387 MX3_keep 0 := ⟨mx_in (i := 879) (by decide +kernel) (by decide +kernel), mx_in (i := 882) (by decide +kernel) (by decide +kernel), mx_in (i := 13) (by decide +kernel) (by decide +kernel), by decide +kernel, by decide +kernel, by decide⟩
theorem iX3_35 : mx_inv RX3 35 MJ9_min_7cf53 2 := ⟨mx_in (i := 883) (by decide +kernel) (by decide +kernel), mx_in (i := 498) (by decide +kernel) (by decide +kernel), mx_in (i := 11) (by decide +kernel) (by decide +kernel), by decide +kernel, by decide +kernel, by decide⟩
theorem iL_77 : mx_inv RLaw 77 MX11_part 1 := ⟨mx_in (i := 884) (by decide +kernel) (by decide +kernel), mx_in (i := 887) (by decide +kernel) (by decide +kernel), mx_in (i := 1) (by decide +kernel) (by decide +kernel), by decide +kernel, by decide +kernel, by decide⟩
theorem iX11_241 : mx_inv RX11 241 MX4_partFrom 1 := ⟨mx_in (i := 888) (by decide +kernel) (by decide +kernel), mx_in (i := 891) (by decide +kernel) (by decide +kernel), mx_in (i := 7) (by decide +kernel) (by decide +kernel), by decide +kernel, by decide +kernel, by decide⟩
theorem iL_81 : mx_inv RLaw 81 MX11_weigh 3 := ⟨mx_in (i := 892) (by decide +kernel) (by decide +kernel), mx_in (i := 895) (by decide +kernel) (by decide +kernel), mx_in (i := 1) (by decide +kernel) (by decide +kernel), by decide +kernel, by decide +kernel, by decide⟩
theorem iX11_244 : mx_inv RX11 244 MX4_weighAnew 3 := ⟨mx_in (i := 896) (by decide +kernel) (by decide +kernel), mx_in (i := 899) (by decide +kernel) (by decide +kernel), mx_in (i := 7) (by decide +kernel) (by decide +kernel), by decide +kernel, by decide +kernel, by decide⟩
theorem iL_86 : mx_inv RLaw 86 MX11_price 2 := ⟨mx_in (i := 900) (by decide +kernel) (by decide +kernel), mx_in (i := 903) (by decide +kernel) (by decide +kernel), mx_in (i := 1) (by decide +kernel) (by decide +kernel), by decide +kernel, by decide +kernel, by decide⟩
theorem iX11_248 : mx_inv RX11 248 MX11_isPrice 1 := ⟨mx_in (i := 904) (by decide +kernel) (by decide +kernel), mx_in (i := 906) (by decide +kernel) (by decide +kernel), mx_in (i := 1) (by decide +kernel) (by decide +kernel), by decide +kernel, by decide +kernel, by decide⟩
theorem iX11_251 : mx_inv RX11 251 MX4_priceAt 2 := ⟨mx_in (i := 907) (by decide +kernel) (by decide +kernel), mx_in (i := 595) (by decide +kernel) (by decide +kernel), mx_in (i := 7) (by decide +kernel) (by decide +kernel), by decide +kernel, by decide +kernel, by decide⟩
theorem iL_90 : mx_inv RLaw 90 MX11_crown 2 := ⟨mx_in (i := 908) (by decide +kernel) (by decide +kernel), mx_in (i := 911) (by decide +kernel) (by decide +kernel), mx_in (i := 1) (by decide +kernel) (by decide +kernel), by decide +kernel, by decide +kernel, by decide⟩
theorem iX11_254 : mx_inv RX11 254 MX4_crownAt 2 := ⟨mx_in (i := 912) (by decide +kernel) (by decide +kernel), mx_in (i := 915) (by decide +kernel) (by decide +kernel), mx_in (i := 7) (by decide +kernel) (by decide +kernel), by decide +kernel, by decide +kernel, by decide⟩
theorem iL_94 : mx_inv RLaw 94 MX11_open 1 := ⟨mx_in (i := 916) (by decide +kernel) (by decide +kernel), mx_in (i := 919) (by decide +kernel) (by decide +kernel), mx_in (i := 1) (by decide +kernel) (by decide +kernel), by decide +kernel, by decide +kernel, by decide⟩
theorem iX11_257 : mx_inv RX11 257 MX4_openSet 1 := ⟨mx_in (i := 920) (by decide +kernel) (by decide +kernel), mx_in (i := 923) (by decide +kernel) (by decide +kernel), mx_in (i := 7) (by decide +kernel) (by decide +kernel), by decide +kernel, by decide +kernel, by decide⟩
theorem iL_98 : mx_inv RLaw 98 MX11_grow 1 := ⟨mx_in (i := 924) (by decide +kernel) (by decide +kernel), mx_in (i := 927) (by decide +kernel) (by decide +kernel), mx_in (i := 1) (by decide +kernel) (by decide +kernel), by decide +kernel, by decide +kernel, by decide⟩
theorem iX11_260 : mx_inv RX11 260 MX9_findPath 2 := ⟨mx_in (i := 928) (by decide +kernel) (by decide +kernel), mx_in (i := 931) (by decide +kernel) (by decide +kernel), mx_in (i := 9) (by decide +kernel) (by decide +kernel), by decide +kernel, by decide +kernel, by decide⟩
theorem iX9_20 : mx_inv RX9 20 MX4_isLone 1 := ⟨mx_in (i := 932) (by decide +kernel) (by decide +kernel), mx_in (i := 821) (by decide +kernel) (by decide +kernel), mx_in (i := 7) (by decide +kernel) (by decide +kernel), by decide +kernel, by decide +kernel, by decide⟩
theorem iX9_26 : mx_inv RX9 26 MX9_findRow 4 := ⟨mx_in (i := 933) (by decide +kernel) (by decide +kernel), mx_in (i := 936) (by decide +kernel) (by decide +kernel), mx_in (i := 9) (by decide +kernel) (by decide +kernel), by decide +kernel, by decide +kernel, by decide⟩
theorem iX9_33 : mx_inv RX9 33 MX7_clear 0 := ⟨mx_in (i := 937) (by decide +kernel) (by decide +kernel), mx_in (i := 940) (by decide +kernel) (by decide +kernel), mx_in (i := 10) (by decide +kernel) (by decide +kernel), by decide +kernel, by decide +kernel, by decide⟩
theorem iX9_36 : mx_inv RX9 36 MX7_add 1 := ⟨mx_in (i := 941) (by decide +kernel) (by decide +kernel), mx_in (i := 944) (by decide +kernel) (by decide +kernel), mx_in (i := 10) (by decide +kernel) (by decide +kernel), by decide +kernel, by decide +kernel, by decide⟩
theorem iX9_39 : mx_inv RX9 39 MX9_goOn 4 := ⟨mx_in (i := 945) (by decide +kernel) (by decide +kernel), mx_in (i := 948) (by decide +kernel) (by decide +kernel), mx_in (i := 9) (by decide +kernel) (by decide +kernel), by decide +kernel, by decide +kernel, by decide⟩
theorem iX9_42 : mx_inv RX9 42 MX7_size 0 := ⟨mx_in (i := 949) (by decide +kernel) (by decide +kernel), mx_in (i := 952) (by decide +kernel) (by decide +kernel), mx_in (i := 10) (by decide +kernel) (by decide +kernel), by decide +kernel, by decide +kernel, by decide⟩
theorem iX9_46 : mx_inv RX9 46 MX7_at 1 := ⟨mx_in (i := 953) (by decide +kernel) (by decide +kernel), mx_in (i := 956) (by decide +kernel) (by decide +kernel), mx_in (i := 10) (by decide +kernel) (by decide +kernel), by decide +kernel, by decide +kernel, by decide⟩
theorem iX9_50 : mx_inv RX9 50 MX4_areLinked 2 := ⟨mx_in (i := 957) (by decide +kernel) (by decide +kernel), mx_in (i := 566) (by decide +kernel) (by decide +kernel), mx_in (i := 7) (by decide +kernel) (by decide +kernel), by decide +kernel, by decide +kernel, by decide⟩
theorem iX9_54 : mx_inv RX9 54 MX4_nearTo 1 := ⟨mx_in (i := 958) (by decide +kernel) (by decide +kernel), mx_in (i := 725) (by decide +kernel) (by decide +kernel), mx_in (i := 7) (by decide +kernel) (by decide +kernel), by decide +kernel, by decide +kernel, by decide⟩
theorem iX9_57 : mx_inv RX9 57 MX4_partnerOf 1 := ⟨mx_in (i := 959) (by decide +kernel) (by decide +kernel), mx_in (i := 687) (by decide +kernel) (by decide +kernel), mx_in (i := 7) (by decide +kernel) (by decide +kernel), by decide +kernel, by decide +kernel, by decide⟩
theorem iX9_60 : mx_inv RX9 60 MX7_dropTwo 0 := ⟨mx_in (i := 960) (by decide +kernel) (by decide +kernel), mx_in (i := 963) (by decide +kernel) (by decide +kernel), mx_in (i := 10) (by decide +kernel) (by decide +kernel), by decide +kernel, by decide +kernel, by decide⟩
theorem iX11_264 : mx_inv RX11 264 MX9_row 0 := ⟨mx_in (i := 964) (by decide +kernel) (by decide +kernel), mx_in (i := 967) (by decide +kernel) (by decide +kernel), mx_in (i := 9) (by decide +kernel) (by decide +kernel), by decide +kernel, by decide +kernel, by decide⟩
theorem iX11_268 : mx_inv RX11 268 MX7_copyFrom 1 := ⟨mx_in (i := 968) (by decide +kernel) (by decide +kernel), mx_in (i := 971) (by decide +kernel) (by decide +kernel), mx_in (i := 10) (by decide +kernel) (by decide +kernel), by decide +kernel, by decide +kernel, by decide⟩
theorem iX7_25 : mx_inv RX7 25 MX7_at 1 := ⟨mx_in (i := 972) (by decide +kernel) (by decide +kernel), mx_in (i := 956) (by decide +kernel) (by decide +kernel), mx_in (i := 10) (by decide +kernel) (by decide +kernel), by decide +kernel, by decide +kernel, by decide⟩
theorem iX7_29 : mx_inv RX7 29 MX7_add 1 := ⟨mx_in (i := 973) (by decide +kernel) (by decide +kernel), mx_in (i := 944) (by decide +kernel) (by decide +kernel), mx_in (i := 10) (by decide +kernel) (by decide +kernel), by decide +kernel, by decide +kernel, by decide⟩
theorem iX11_271 : mx_inv RX11 271 MX7_size 0 := ⟨mx_in (i := 974) (by decide +kernel) (by decide +kernel), mx_in (i := 952) (by decide +kernel) (by decide +kernel), mx_in (i := 10) (by decide +kernel) (by decide +kernel), by decide +kernel, by decide +kernel, by decide⟩
theorem iL_102 : mx_inv RLaw 102 MX11_growAt 1 := ⟨mx_in (i := 975) (by decide +kernel) (by decide +kernel), mx_in (i := 978) (by decide +kernel) (by decide +kernel), mx_in (i := 1) (by decide +kernel) (by decide +kernel), by decide +kernel, by decide +kernel, by decide⟩
theorem iX11_274 : mx_inv RX11 274 MX7_at 1 := ⟨mx_in (i := 979) (by decide +kernel) (by decide +kernel), mx_in (i := 956) (by decide +kernel) (by decide +kernel), mx_in (i := 10) (by decide +kernel) (by decide +kernel), by decide +kernel, by decide +kernel, by decide⟩
theorem iL_106 : mx_inv RLaw 106 MX11_turn 0 := ⟨mx_in (i := 980) (by decide +kernel) (by decide +kernel), mx_in (i := 983) (by decide +kernel) (by decide +kernel), mx_in (i := 1) (by decide +kernel) (by decide +kernel), by decide +kernel, by decide +kernel, by decide⟩
theorem iX11_277 : mx_inv RX11 277 MX4_turnAlong 1 := ⟨mx_in (i := 984) (by decide +kernel) (by decide +kernel), mx_in (i := 987) (by decide +kernel) (by decide +kernel), mx_in (i := 7) (by decide +kernel) (by decide +kernel), by decide +kernel, by decide +kernel, by decide⟩
theorem iX4_140 : mx_inv RX4 140 MX7_size 0 := ⟨mx_in (i := 988) (by decide +kernel) (by decide +kernel), mx_in (i := 952) (by decide +kernel) (by decide +kernel), mx_in (i := 10) (by decide +kernel) (by decide +kernel), by decide +kernel, by decide +kernel, by decide⟩
theorem iX4_146 : mx_inv RX4 146 MX7_at 1 := ⟨mx_in (i := 989) (by decide +kernel) (by decide +kernel), mx_in (i := 956) (by decide +kernel) (by decide +kernel), mx_in (i := 10) (by decide +kernel) (by decide +kernel), by decide +kernel, by decide +kernel, by decide⟩
theorem iX4_149 : mx_inv RX4 149 MX4_goesByPairs 1 := ⟨mx_in (i := 990) (by decide +kernel) (by decide +kernel), mx_in (i := 993) (by decide +kernel) (by decide +kernel), mx_in (i := 7) (by decide +kernel) (by decide +kernel), by decide +kernel, by decide +kernel, by decide⟩
theorem iL_110 : mx_inv RLaw 110 MX11_flower 1 := ⟨mx_in (i := 994) (by decide +kernel) (by decide +kernel), mx_in (i := 997) (by decide +kernel) (by decide +kernel), mx_in (i := 1) (by decide +kernel) (by decide +kernel), by decide +kernel, by decide +kernel, by decide⟩
theorem iX11_281 : mx_inv RX11 281 MX9_findFlower 2 := ⟨mx_in (i := 998) (by decide +kernel) (by decide +kernel), mx_in (i := 1001) (by decide +kernel) (by decide +kernel), mx_in (i := 9) (by decide +kernel) (by decide +kernel), by decide +kernel, by decide +kernel, by decide⟩
theorem iX9_30 : mx_inv RX9 30 MX4_hasPoint 1 := ⟨mx_in (i := 1002) (by decide +kernel) (by decide +kernel), mx_in (i := 570) (by decide +kernel) (by decide +kernel), mx_in (i := 7) (by decide +kernel) (by decide +kernel), by decide +kernel, by decide +kernel, by decide⟩
theorem iL_114 : mx_inv RLaw 114 MX11_flowerAt 1 := ⟨mx_in (i := 1003) (by decide +kernel) (by decide +kernel), mx_in (i := 1006) (by decide +kernel) (by decide +kernel), mx_in (i := 1) (by decide +kernel) (by decide +kernel), by decide +kernel, by decide +kernel, by decide⟩
theorem iL_118 : mx_inv RLaw 118 MX11_shrink 0 := ⟨mx_in (i := 1007) (by decide +kernel) (by decide +kernel), mx_in (i := 1010) (by decide +kernel) (by decide +kernel), mx_in (i := 1) (by decide +kernel) (by decide +kernel), by decide +kernel, by decide +kernel, by decide⟩
theorem iX11_284 : mx_inv RX11 284 MX4_shrinkAlong 1 := ⟨mx_in (i := 1011) (by decide +kernel) (by decide +kernel), mx_in (i := 1014) (by decide +kernel) (by decide +kernel), mx_in (i := 7) (by decide +kernel) (by decide +kernel), by decide +kernel, by decide +kernel, by decide⟩
theorem iX4_153 : mx_inv RX4 153 MX4_setOf 1 := ⟨mx_in (i := 1015) (by decide +kernel) (by decide +kernel), mx_in (i := 607) (by decide +kernel) (by decide +kernel), mx_in (i := 7) (by decide +kernel) (by decide +kernel), by decide +kernel, by decide +kernel, by decide⟩
theorem iX4_156 : mx_inv RX4 156 MX4_addSet 2 := ⟨mx_in (i := 1016) (by decide +kernel) (by decide +kernel), mx_in (i := 611) (by decide +kernel) (by decide +kernel), mx_in (i := 7) (by decide +kernel) (by decide +kernel), by decide +kernel, by decide +kernel, by decide⟩
theorem iL_122 : mx_inv RLaw 122 MX11_undo 0 := ⟨mx_in (i := 1017) (by decide +kernel) (by decide +kernel), mx_in (i := 1020) (by decide +kernel) (by decide +kernel), mx_in (i := 1) (by decide +kernel) (by decide +kernel), by decide +kernel, by decide +kernel, by decide⟩
theorem iX11_287 : mx_inv RX11 287 MX3_takeBack 1 := ⟨mx_in (i := 1021) (by decide +kernel) (by decide +kernel), mx_in (i := 1024) (by decide +kernel) (by decide +kernel), mx_in (i := 13) (by decide +kernel) (by decide +kernel), by decide +kernel, by decide +kernel, by decide⟩
theorem iL_126 : mx_inv RLaw 126 MX11_proof 0 := ⟨mx_in (i := 1025) (by decide +kernel) (by decide +kernel), mx_in (i := 1028) (by decide +kernel) (by decide +kernel), mx_in (i := 1) (by decide +kernel) (by decide +kernel), by decide +kernel, by decide +kernel, by decide⟩
theorem iX11_291 : mx_inv RX11 291 MX4_firstLinkBelow 0 := ⟨mx_in (i := 1029) (by decide +kernel) (by decide +kernel), mx_in (i := 1032) (by decide +kernel) (by decide +kernel), mx_in (i := 7) (by decide +kernel) (by decide +kernel), by decide +kernel, by decide +kernel, by decide⟩
theorem iX11_191 : mx_inv RX11 191 MX4_slackOf 1 := ⟨mx_in (i := 1033) (by decide +kernel) (by decide +kernel), mx_in (i := 829) (by decide +kernel) (by decide +kernel), mx_in (i := 7) (by decide +kernel) (by decide +kernel), by decide +kernel, by decide +kernel, by decide⟩
theorem iX11_294 : mx_inv RX11 294 MX11_noteFlaw 3 := ⟨mx_in (i := 1034) (by decide +kernel) (by decide +kernel), mx_in (i := 1037) (by decide +kernel) (by decide +kernel), mx_in (i := 1) (by decide +kernel) (by decide +kernel), by decide +kernel, by decide +kernel, by decide⟩
theorem iX11_297 : mx_inv RX11 297 MX4_firstLoosePair 0 := ⟨mx_in (i := 1038) (by decide +kernel) (by decide +kernel), mx_in (i := 1041) (by decide +kernel) (by decide +kernel), mx_in (i := 7) (by decide +kernel) (by decide +kernel), by decide +kernel, by decide +kernel, by decide⟩
theorem iX11_300 : mx_inv RX11 300 MX4_firstPricedLone 0 := ⟨mx_in (i := 1042) (by decide +kernel) (by decide +kernel), mx_in (i := 1045) (by decide +kernel) (by decide +kernel), mx_in (i := 7) (by decide +kernel) (by decide +kernel), by decide +kernel, by decide +kernel, by decide⟩
theorem iX11_158 : mx_inv RX11 158 MX4_priceOf 1 := ⟨mx_in (i := 1046) (by decide +kernel) (by decide +kernel), mx_in (i := 833) (by decide +kernel) (by decide +kernel), mx_in (i := 7) (by decide +kernel) (by decide +kernel), by decide +kernel, by decide +kernel, by decide⟩
theorem iX11_303 : mx_inv RX11 303 MX4_firstCrownedUnfilled 0 := ⟨mx_in (i := 1047) (by decide +kernel) (by decide +kernel), mx_in (i := 1050) (by decide +kernel) (by decide +kernel), mx_in (i := 7) (by decide +kernel) (by decide +kernel), by decide +kernel, by decide +kernel, by decide⟩
theorem iX4_133 : mx_inv RX4 133 MX4_pairsWithin 1 := ⟨mx_in (i := 1051) (by decide +kernel) (by decide +kernel), mx_in (i := 797) (by decide +kernel) (by decide +kernel), mx_in (i := 7) (by decide +kernel) (by decide +kernel), by decide +kernel, by decide +kernel, by decide⟩
theorem iL_130 : mx_inv RLaw 130 MX11_proofAt 0 := ⟨mx_in (i := 1052) (by decide +kernel) (by decide +kernel), mx_in (i := 1055) (by decide +kernel) (by decide +kernel), mx_in (i := 1) (by decide +kernel) (by decide +kernel), by decide +kernel, by decide +kernel, by decide⟩
theorem iL_138 : mx_inv RLaw 138 MX11_room 1 := ⟨mx_in (i := 1056) (by decide +kernel) (by decide +kernel), mx_in (i := 1059) (by decide +kernel) (by decide +kernel), mx_in (i := 1) (by decide +kernel) (by decide +kernel), by decide +kernel, by decide +kernel, by decide⟩
theorem iX11_309 : mx_inv RX11 309 MX4_roomOf 1 := ⟨mx_in (i := 1060) (by decide +kernel) (by decide +kernel), mx_in (i := 1063) (by decide +kernel) (by decide +kernel), mx_in (i := 7) (by decide +kernel) (by decide +kernel), by decide +kernel, by decide +kernel, by decide⟩
theorem iX4_96 : mx_inv RX4 96 MX4_otherEnd 2 := ⟨mx_in (i := 1064) (by decide +kernel) (by decide +kernel), mx_in (i := 1067) (by decide +kernel) (by decide +kernel), mx_in (i := 7) (by decide +kernel) (by decide +kernel), by decide +kernel, by decide +kernel, by decide⟩
theorem iX4_125 : mx_inv RX4 125 MJ9_min_7cf53 2 := ⟨mx_in (i := 1068) (by decide +kernel) (by decide +kernel), mx_in (i := 498) (by decide +kernel) (by decide +kernel), mx_in (i := 11) (by decide +kernel) (by decide +kernel), by decide +kernel, by decide +kernel, by decide⟩
theorem iX4_130 : mx_inv RX4 130 MJ9_max_7cf53 2 := ⟨mx_in (i := 1069) (by decide +kernel) (by decide +kernel), mx_in (i := 213) (by decide +kernel) (by decide +kernel), mx_in (i := 11) (by decide +kernel) (by decide +kernel), by decide +kernel, by decide +kernel, by decide⟩
theorem iL_142 : mx_inv RLaw 142 MX11_best 0 := ⟨mx_in (i := 1070) (by decide +kernel) (by decide +kernel), mx_in (i := 1073) (by decide +kernel) (by decide +kernel), mx_in (i := 1) (by decide +kernel) (by decide +kernel), by decide +kernel, by decide +kernel, by decide⟩
theorem iX11_312 : mx_inv RX11 312 MX2_bestInto 1 := ⟨mx_in (i := 1074) (by decide +kernel) (by decide +kernel), mx_in (i := 1077) (by decide +kernel) (by decide +kernel), mx_in (i := 12) (by decide +kernel) (by decide +kernel), by decide +kernel, by decide +kernel, by decide⟩
theorem iX2_109 : mx_inv RX2 109 MX2_firstBestPartner 2 := ⟨mx_in (i := 1078) (by decide +kernel) (by decide +kernel), mx_in (i := 1081) (by decide +kernel) (by decide +kernel), mx_in (i := 12) (by decide +kernel) (by decide +kernel), by decide +kernel, by decide +kernel, by decide⟩
theorem iX2_115 : mx_inv RX2 115 MX7_clear 0 := ⟨mx_in (i := 1082) (by decide +kernel) (by decide +kernel), mx_in (i := 940) (by decide +kernel) (by decide +kernel), mx_in (i := 10) (by decide +kernel) (by decide +kernel), by decide +kernel, by decide +kernel, by decide⟩
theorem iX2_120 : mx_inv RX2 120 MX7_add 1 := ⟨mx_in (i := 1083) (by decide +kernel) (by decide +kernel), mx_in (i := 944) (by decide +kernel) (by decide +kernel), mx_in (i := 10) (by decide +kernel) (by decide +kernel), by decide +kernel, by decide +kernel, by decide⟩
theorem iX11_315 : mx_inv RX11 315 MX2_top 0 := ⟨mx_in (i := 1084) (by decide +kernel) (by decide +kernel), mx_in (i := 1087) (by decide +kernel) (by decide +kernel), mx_in (i := 12) (by decide +kernel) (by decide +kernel), by decide +kernel, by decide +kernel, by decide⟩
theorem iL_146 : mx_inv RLaw 146 MX11_bestOf 1 := ⟨mx_in (i := 1088) (by decide +kernel) (by decide +kernel), mx_in (i := 1091) (by decide +kernel) (by decide +kernel), mx_in (i := 1) (by decide +kernel) (by decide +kernel), by decide +kernel, by decide +kernel, by decide⟩
theorem iL_150 : mx_inv RLaw 150 MX11_next 0 := ⟨mx_in (i := 1092) (by decide +kernel) (by decide +kernel), mx_in (i := 1095) (by decide +kernel) (by decide +kernel), mx_in (i := 1) (by decide +kernel) (by decide +kernel), by decide +kernel, by decide +kernel, by decide⟩
theorem iX11_318 : mx_inv RX11 318 MX2_second 0 := ⟨mx_in (i := 1096) (by decide +kernel) (by decide +kernel), mx_in (i := 1099) (by decide +kernel) (by decide +kernel), mx_in (i := 12) (by decide +kernel) (by decide +kernel), by decide +kernel, by decide +kernel, by decide⟩
theorem iL_154 : mx_inv RLaw 154 MX11_heavy 1 := ⟨mx_in (i := 1100) (by decide +kernel) (by decide +kernel), mx_in (i := 1103) (by decide +kernel) (by decide +kernel), mx_in (i := 1) (by decide +kernel) (by decide +kernel), by decide +kernel, by decide +kernel, by decide⟩
theorem iX11_321 : mx_inv RX11 321 MX2_heaviestOf 1 := ⟨mx_in (i := 1104) (by decide +kernel) (by decide +kernel), mx_in (i := 1107) (by decide +kernel) (by decide +kernel), mx_in (i := 12) (by decide +kernel) (by decide +kernel), by decide +kernel, by decide +kernel, by decide⟩
theorem iL_158 : mx_inv RLaw 158 MX11_ways 1 := ⟨mx_in (i := 1108) (by decide +kernel) (by decide +kernel), mx_in (i := 1111) (by decide +kernel) (by decide +kernel), mx_in (i := 1) (by decide +kernel) (by decide +kernel), by decide +kernel, by decide +kernel, by decide⟩
theorem iX11_324 : mx_inv RX11 324 MX2_countOf 1 := ⟨mx_in (i := 1112) (by decide +kernel) (by decide +kernel), mx_in (i := 1115) (by decide +kernel) (by decide +kernel), mx_in (i := 12) (by decide +kernel) (by decide +kernel), by decide +kernel, by decide +kernel, by decide⟩
theorem iL_162 : mx_inv RLaw 162 MX11_gain 0 := ⟨mx_in (i := 1116) (by decide +kernel) (by decide +kernel), mx_in (i := 1119) (by decide +kernel) (by decide +kernel), mx_in (i := 1) (by decide +kernel) (by decide +kernel), by decide +kernel, by decide +kernel, by decide⟩
theorem iX11_327 : mx_inv RX11 327 MX9_greatestGain 1 := ⟨mx_in (i := 1120) (by decide +kernel) (by decide +kernel), mx_in (i := 1123) (by decide +kernel) (by decide +kernel), mx_in (i := 9) (by decide +kernel) (by decide +kernel), by decide +kernel, by decide +kernel, by decide⟩
theorem iX9_71 : mx_inv RX9 71 MX4_points 0 := ⟨mx_in (i := 1124) (by decide +kernel) (by decide +kernel), mx_in (i := 522) (by decide +kernel) (by decide +kernel), mx_in (i := 7) (by decide +kernel) (by decide +kernel), by decide +kernel, by decide +kernel, by decide⟩
theorem iX9_74 : mx_inv RX9 74 MX9_strokeOn 6 := ⟨mx_in (i := 1125) (by decide +kernel) (by decide +kernel), mx_in (i := 1128) (by decide +kernel) (by decide +kernel), mx_in (i := 9) (by decide +kernel) (by decide +kernel), by decide +kernel, by decide +kernel, by decide⟩
theorem iX9_82 : mx_inv RX9 82 MJ9_max_7cf53 2 := ⟨mx_in (i := 1129) (by decide +kernel) (by decide +kernel), mx_in (i := 213) (by decide +kernel) (by decide +kernel), mx_in (i := 11) (by decide +kernel) (by decide +kernel), by decide +kernel, by decide +kernel, by decide⟩
theorem iX9_87 : mx_inv RX9 87 MJ6_bitCount_0f7a4 1 := ⟨mx_in (i := 1130) (by decide +kernel) (by decide +kernel), mx_in (i := 845) (by decide +kernel) (by decide +kernel), mx_in (i := 24) (by decide +kernel) (by decide +kernel), by decide +kernel, by decide +kernel, by decide⟩
theorem iX9_78 : mx_inv RX9 78 MX4_weightOf 2 := ⟨mx_in (i := 1131) (by decide +kernel) (by decide +kernel), mx_in (i := 729) (by decide +kernel) (by decide +kernel), mx_in (i := 7) (by decide +kernel) (by decide +kernel), by decide +kernel, by decide +kernel, by decide⟩
theorem iL_166 : mx_inv RLaw 166 MX11_who 0 := ⟨mx_in (i := 1132) (by decide +kernel) (by decide +kernel), mx_in (i := 1135) (by decide +kernel) (by decide +kernel), mx_in (i := 1) (by decide +kernel) (by decide +kernel), by decide +kernel, by decide +kernel, by decide⟩
theorem iX11_330 : mx_inv RX11 330 MX11_isAsking 0 := ⟨mx_in (i := 1136) (by decide +kernel) (by decide +kernel), mx_in (i := 1139) (by decide +kernel) (by decide +kernel), mx_in (i := 1) (by decide +kernel) (by decide +kernel), by decide +kernel, by decide +kernel, by decide⟩
theorem iX11_337 : mx_inv RX11 337 MX10_signAt 1 := ⟨mx_in (i := 1140) (by decide +kernel) (by decide +kernel), mx_in (i := 506) (by decide +kernel) (by decide +kernel), mx_in (i := 2) (by decide +kernel) (by decide +kernel), by decide +kernel, by decide +kernel, by decide⟩
theorem iX11_334 : mx_inv RX11 334 MX2_wantNothing 0 := ⟨mx_in (i := 1141) (by decide +kernel) (by decide +kernel), mx_in (i := 742) (by decide +kernel) (by decide +kernel), mx_in (i := 12) (by decide +kernel) (by decide +kernel), by decide +kernel, by decide +kernel, by decide⟩
theorem iX11_340 : mx_inv RX11 340 MX2_want 2 := ⟨mx_in (i := 1142) (by decide +kernel) (by decide +kernel), mx_in (i := 1145) (by decide +kernel) (by decide +kernel), mx_in (i := 12) (by decide +kernel) (by decide +kernel), by decide +kernel, by decide +kernel, by decide⟩
theorem iX11_344 : mx_inv RX11 344 MX2_countWanted 0 := ⟨mx_in (i := 1146) (by decide +kernel) (by decide +kernel), mx_in (i := 746) (by decide +kernel) (by decide +kernel), mx_in (i := 12) (by decide +kernel) (by decide +kernel), by decide +kernel, by decide +kernel, by decide⟩
theorem iX11_347 : mx_inv RX11 347 MX2_mostTelling 0 := ⟨mx_in (i := 1147) (by decide +kernel) (by decide +kernel), mx_in (i := 1150) (by decide +kernel) (by decide +kernel), mx_in (i := 12) (by decide +kernel) (by decide +kernel), by decide +kernel, by decide +kernel, by decide⟩
theorem iL_170 : mx_inv RLaw 170 MX11_ask 0 := ⟨mx_in (i := 1151) (by decide +kernel) (by decide +kernel), mx_in (i := 1154) (by decide +kernel) (by decide +kernel), mx_in (i := 1) (by decide +kernel) (by decide +kernel), by decide +kernel, by decide +kernel, by decide⟩
theorem iL_177 : mx_inv RLaw 177 MX11_tag 1 := ⟨mx_in (i := 1155) (by decide +kernel) (by decide +kernel), mx_in (i := 1158) (by decide +kernel) (by decide +kernel), mx_in (i := 1) (by decide +kernel) (by decide +kernel), by decide +kernel, by decide +kernel, by decide⟩
theorem iX11_358 : mx_inv RX11 358 MX7_clear 0 := ⟨mx_in (i := 1159) (by decide +kernel) (by decide +kernel), mx_in (i := 940) (by decide +kernel) (by decide +kernel), mx_in (i := 10) (by decide +kernel) (by decide +kernel), by decide +kernel, by decide +kernel, by decide⟩
theorem iX11_359 : mx_inv RX11 359 MX4_nameOf 1 := ⟨mx_in (i := 1160) (by decide +kernel) (by decide +kernel), mx_in (i := 1163) (by decide +kernel) (by decide +kernel), mx_in (i := 7) (by decide +kernel) (by decide +kernel), by decide +kernel, by decide +kernel, by decide⟩
theorem iX11_363 : mx_inv RX11 363 MX7_addName 1 := ⟨mx_in (i := 1164) (by decide +kernel) (by decide +kernel), mx_in (i := 1167) (by decide +kernel) (by decide +kernel), mx_in (i := 10) (by decide +kernel) (by decide +kernel), by decide +kernel, by decide +kernel, by decide⟩
theorem cX7_42 : Cond.constantLong RX7 42 31 ∈ mx_TB := mx_in (i := 1168) (by decide +kernel) (by decide +kernel)
theorem iX11_367 : mx_inv RX11 367 MX4_isLone 1 := ⟨mx_in (i := 1169) (by decide +kernel) (by decide +kernel), mx_in (i := 821) (by decide +kernel) (by decide +kernel), mx_in (i := 7) (by decide +kernel) (by decide +kernel), by decide +kernel, by decide +kernel, by decide⟩
theorem iX11_372 : mx_inv RX11 372 MX7_addText 1 := ⟨mx_in (i := 1171) (by decide +kernel) (by decide +kernel), mx_in (i := 1174) (by decide +kernel) (by decide +kernel), mx_in (i := 10) (by decide +kernel) (by decide +kernel), by decide +kernel, by decide +kernel, by decide⟩
theorem iX7_33 : mx_inv RX7 33 MJ0_length_8abf5 0 := ⟨mx_in (i := 1175) (by decide +kernel) (by decide +kernel), mx_in (i := 43) (by decide +kernel) (by decide +kernel), mx_in (i := 3) (by decide +kernel) (by decide +kernel), by decide +kernel, by decide +kernel, by decide⟩
theorem iX7_38 : mx_inv RX7 38 MJ0_charAt_5068e 1 := ⟨mx_in (i := 1176) (by decide +kernel) (by decide +kernel), mx_in (i := 53) (by decide +kernel) (by decide +kernel), mx_in (i := 3) (by decide +kernel) (by decide +kernel), by decide +kernel, by decide +kernel, by decide⟩
theorem iX11_154 : mx_inv RX11 154 MX4_partnerOf 1 := ⟨mx_in (i := 1178) (by decide +kernel) (by decide +kernel), mx_in (i := 687) (by decide +kernel) (by decide +kernel), mx_in (i := 7) (by decide +kernel) (by decide +kernel), by decide +kernel, by decide +kernel, by decide⟩
theorem iX11_380 : mx_inv RX11 380 MX7_addDigits 1 := ⟨mx_in (i := 1180) (by decide +kernel) (by decide +kernel), mx_in (i := 1183) (by decide +kernel) (by decide +kernel), mx_in (i := 10) (by decide +kernel) (by decide +kernel), by decide +kernel, by decide +kernel, by decide⟩
theorem iL_181 : mx_inv RLaw 181 MX11_byteAt 1 := ⟨mx_in (i := 1184) (by decide +kernel) (by decide +kernel), mx_in (i := 1187) (by decide +kernel) (by decide +kernel), mx_in (i := 1) (by decide +kernel) (by decide +kernel), by decide +kernel, by decide +kernel, by decide⟩
theorem iL_185 : mx_inv RLaw 185 MX11_drawn 2 := ⟨mx_in (i := 1188) (by decide +kernel) (by decide +kernel), mx_in (i := 1191) (by decide +kernel) (by decide +kernel), mx_in (i := 1) (by decide +kernel) (by decide +kernel), by decide +kernel, by decide +kernel, by decide⟩
theorem iX11_383 : mx_inv RX11 383 MX1_run 4 := ⟨mx_in (i := 1192) (by decide +kernel) (by decide +kernel), mx_in (i := 1195) (by decide +kernel) (by decide +kernel), mx_in (i := 16) (by decide +kernel) (by decide +kernel), by decide +kernel, by decide +kernel, by decide⟩
theorem iX1_7 : mx_inv RX1 7 MX4_points 0 := ⟨mx_in (i := 1196) (by decide +kernel) (by decide +kernel), mx_in (i := 522) (by decide +kernel) (by decide +kernel), mx_in (i := 7) (by decide +kernel) (by decide +kernel), by decide +kernel, by decide +kernel, by decide⟩
theorem iX1_19 : mx_inv RX1 19 MX1_isDone 2 := ⟨mx_in (i := 1197) (by decide +kernel) (by decide +kernel), mx_in (i := 1200) (by decide +kernel) (by decide +kernel), mx_in (i := 16) (by decide +kernel) (by decide +kernel), by decide +kernel, by decide +kernel, by decide⟩
theorem iX1_30 : mx_inv RX1 30 MX1_draw 1 := ⟨mx_in (i := 1201) (by decide +kernel) (by decide +kernel), mx_in (i := 1204) (by decide +kernel) (by decide +kernel), mx_in (i := 16) (by decide +kernel) (by decide +kernel), by decide +kernel, by decide +kernel, by decide⟩
theorem cX1_23 : Cond.constant RX1 23 1103515245 ∈ mx_TB := mx_in (i := 1205) (by decide +kernel) (by decide +kernel)
theorem iX1_24 : mx_inv RX1 24 MJ9_max_7cf53 2 := ⟨mx_in (i := 1206) (by decide +kernel) (by decide +kernel), mx_in (i := 213) (by decide +kernel) (by decide +kernel), mx_in (i := 11) (by decide +kernel) (by decide +kernel), by decide +kernel, by decide +kernel, by decide⟩
theorem iX1_34 : mx_inv RX1 34 MX1_pairTwo 3 := ⟨mx_in (i := 1207) (by decide +kernel) (by decide +kernel), mx_in (i := 1209) (by decide +kernel) (by decide +kernel), mx_in (i := 16) (by decide +kernel) (by decide +kernel), by decide +kernel, by decide +kernel, by decide⟩
theorem iX1_63 : mx_inv RX1 63 MX4_pairUp 2 := ⟨mx_in (i := 1210) (by decide +kernel) (by decide +kernel), mx_in (i := 586) (by decide +kernel) (by decide +kernel), mx_in (i := 7) (by decide +kernel) (by decide +kernel), by decide +kernel, by decide +kernel, by decide⟩
theorem iX1_38 : mx_inv RX1 38 MX4_partFrom 1 := ⟨mx_in (i := 1211) (by decide +kernel) (by decide +kernel), mx_in (i := 891) (by decide +kernel) (by decide +kernel), mx_in (i := 7) (by decide +kernel) (by decide +kernel), by decide +kernel, by decide +kernel, by decide⟩
theorem iX1_41 : mx_inv RX1 41 MX4_links 0 := ⟨mx_in (i := 1212) (by decide +kernel) (by decide +kernel), mx_in (i := 547) (by decide +kernel) (by decide +kernel), mx_in (i := 7) (by decide +kernel) (by decide +kernel), by decide +kernel, by decide +kernel, by decide⟩
theorem iX1_44 : mx_inv RX1 44 MX1_weighOne 1 := ⟨mx_in (i := 1213) (by decide +kernel) (by decide +kernel), mx_in (i := 1216) (by decide +kernel) (by decide +kernel), mx_in (i := 16) (by decide +kernel) (by decide +kernel), by decide +kernel, by decide +kernel, by decide⟩
theorem iX1_66 : mx_inv RX1 66 MX4_fromOf 1 := ⟨mx_in (i := 1217) (by decide +kernel) (by decide +kernel), mx_in (i := 670) (by decide +kernel) (by decide +kernel), mx_in (i := 7) (by decide +kernel) (by decide +kernel), by decide +kernel, by decide +kernel, by decide⟩
theorem iX1_69 : mx_inv RX1 69 MX4_toOf 1 := ⟨mx_in (i := 1218) (by decide +kernel) (by decide +kernel), mx_in (i := 675) (by decide +kernel) (by decide +kernel), mx_in (i := 7) (by decide +kernel) (by decide +kernel), by decide +kernel, by decide +kernel, by decide⟩
theorem iX1_72 : mx_inv RX1 72 MX4_weighAnew 3 := ⟨mx_in (i := 1219) (by decide +kernel) (by decide +kernel), mx_in (i := 899) (by decide +kernel) (by decide +kernel), mx_in (i := 7) (by decide +kernel) (by decide +kernel), by decide +kernel, by decide +kernel, by decide⟩
theorem iX1_48 : mx_inv RX1 48 MX4_priceAt 2 := ⟨mx_in (i := 1220) (by decide +kernel) (by decide +kernel), mx_in (i := 595) (by decide +kernel) (by decide +kernel), mx_in (i := 7) (by decide +kernel) (by decide +kernel), by decide +kernel, by decide +kernel, by decide⟩
theorem iX1_51 : mx_inv RX1 51 MX9_growFrom 2 := ⟨mx_in (i := 1221) (by decide +kernel) (by decide +kernel), mx_in (i := 1224) (by decide +kernel) (by decide +kernel), mx_in (i := 9) (by decide +kernel) (by decide +kernel), by decide +kernel, by decide +kernel, by decide⟩
theorem iX9_63 : mx_inv RX9 63 MX4_turnAlong 1 := ⟨mx_in (i := 1225) (by decide +kernel) (by decide +kernel), mx_in (i := 987) (by decide +kernel) (by decide +kernel), mx_in (i := 7) (by decide +kernel) (by decide +kernel), by decide +kernel, by decide +kernel, by decide⟩
theorem iX1_57 : mx_inv RX1 57 MX4_sets 0 := ⟨mx_in (i := 1226) (by decide +kernel) (by decide +kernel), mx_in (i := 599) (by decide +kernel) (by decide +kernel), mx_in (i := 7) (by decide +kernel) (by decide +kernel), by decide +kernel, by decide +kernel, by decide⟩
theorem iX1_60 : mx_inv RX1 60 MX1_crownOne 1 := ⟨mx_in (i := 1227) (by decide +kernel) (by decide +kernel), mx_in (i := 1230) (by decide +kernel) (by decide +kernel), mx_in (i := 16) (by decide +kernel) (by decide +kernel), by decide +kernel, by decide +kernel, by decide⟩
theorem iX1_76 : mx_inv RX1 76 MX4_crownAt 2 := ⟨mx_in (i := 1231) (by decide +kernel) (by decide +kernel), mx_in (i := 915) (by decide +kernel) (by decide +kernel), mx_in (i := 7) (by decide +kernel) (by decide +kernel), by decide +kernel, by decide +kernel, by decide⟩
theorem iL_189 : mx_inv RLaw 189 MX11_odds 3 := ⟨mx_in (i := 1232) (by decide +kernel) (by decide +kernel), mx_in (i := 1235) (by decide +kernel) (by decide +kernel), mx_in (i := 1) (by decide +kernel) (by decide +kernel), by decide +kernel, by decide +kernel, by decide⟩
theorem iL_193 : mx_inv RLaw 193 MX11_book 1 := ⟨mx_in (i := 1236) (by decide +kernel) (by decide +kernel), mx_in (i := 1239) (by decide +kernel) (by decide +kernel), mx_in (i := 1) (by decide +kernel) (by decide +kernel), by decide +kernel, by decide +kernel, by decide⟩
theorem iX11_390 : mx_inv RX11 390 MX0_read 2 := ⟨mx_in (i := 1240) (by decide +kernel) (by decide +kernel), mx_in (i := 1243) (by decide +kernel) (by decide +kernel), mx_in (i := 14) (by decide +kernel) (by decide +kernel), by decide +kernel, by decide +kernel, by decide⟩
theorem iX0_44 : mx_inv RX0 44 MX10_begin 1 := ⟨mx_in (i := 1244) (by decide +kernel) (by decide +kernel), mx_in (i := 495) (by decide +kernel) (by decide +kernel), mx_in (i := 2) (by decide +kernel) (by decide +kernel), by decide +kernel, by decide +kernel, by decide⟩
theorem iX0_50 : mx_inv RX0 50 MX10_kind 0 := ⟨mx_in (i := 1245) (by decide +kernel) (by decide +kernel), mx_in (i := 514) (by decide +kernel) (by decide +kernel), mx_in (i := 2) (by decide +kernel) (by decide +kernel), by decide +kernel, by decide +kernel, by decide⟩
theorem iX0_53 : mx_inv RX0 53 MX0_readLine 2 := ⟨mx_in (i := 1246) (by decide +kernel) (by decide +kernel), mx_in (i := 1249) (by decide +kernel) (by decide +kernel), mx_in (i := 14) (by decide +kernel) (by decide +kernel), by decide +kernel, by decide +kernel, by decide⟩
theorem iX0_65 : mx_inv RX0 65 MX0_isDeed 1 := ⟨mx_in (i := 1250) (by decide +kernel) (by decide +kernel), mx_in (i := 1252) (by decide +kernel) (by decide +kernel), mx_in (i := 14) (by decide +kernel) (by decide +kernel), by decide +kernel, by decide +kernel, by decide⟩
theorem iX0_68 : mx_inv RX0 68 MX10_fail 1 := ⟨mx_in (i := 1253) (by decide +kernel) (by decide +kernel), mx_in (i := 531) (by decide +kernel) (by decide +kernel), mx_in (i := 2) (by decide +kernel) (by decide +kernel), by decide +kernel, by decide +kernel, by decide⟩
theorem iX0_71 : mx_inv RX0 71 MX10_advance 0 := ⟨mx_in (i := 1254) (by decide +kernel) (by decide +kernel), mx_in (i := 502) (by decide +kernel) (by decide +kernel), mx_in (i := 2) (by decide +kernel) (by decide +kernel), by decide +kernel, by decide +kernel, by decide⟩
theorem iX0_74 : mx_inv RX0 74 MX0_readTwo 2 := ⟨mx_in (i := 1255) (by decide +kernel) (by decide +kernel), mx_in (i := 1258) (by decide +kernel) (by decide +kernel), mx_in (i := 14) (by decide +kernel) (by decide +kernel), by decide +kernel, by decide +kernel, by decide⟩
theorem iX0_81 : mx_inv RX0 81 MX0_readFirst 2 := ⟨mx_in (i := 1259) (by decide +kernel) (by decide +kernel), mx_in (i := 1262) (by decide +kernel) (by decide +kernel), mx_in (i := 14) (by decide +kernel) (by decide +kernel), by decide +kernel, by decide +kernel, by decide⟩
theorem iX0_88 : mx_inv RX0 88 MX10_takePoint 1 := ⟨mx_in (i := 1263) (by decide +kernel) (by decide +kernel), mx_in (i := 555) (by decide +kernel) (by decide +kernel), mx_in (i := 2) (by decide +kernel) (by decide +kernel), by decide +kernel, by decide +kernel, by decide⟩
theorem iX0_92 : mx_inv RX0 92 MX10_pointHere 1 := ⟨mx_in (i := 1264) (by decide +kernel) (by decide +kernel), mx_in (i := 559) (by decide +kernel) (by decide +kernel), mx_in (i := 2) (by decide +kernel) (by decide +kernel), by decide +kernel, by decide +kernel, by decide⟩
theorem iX0_77 : mx_inv RX0 77 MX0_readThird 3 := ⟨mx_in (i := 1265) (by decide +kernel) (by decide +kernel), mx_in (i := 1268) (by decide +kernel) (by decide +kernel), mx_in (i := 14) (by decide +kernel) (by decide +kernel), by decide +kernel, by decide +kernel, by decide⟩
theorem iX0_95 : mx_inv RX0 95 MX10_takeNumber 2 := ⟨mx_in (i := 1269) (by decide +kernel) (by decide +kernel), mx_in (i := 574) (by decide +kernel) (by decide +kernel), mx_in (i := 2) (by decide +kernel) (by decide +kernel), by decide +kernel, by decide +kernel, by decide⟩
theorem iX0_84 : mx_inv RX0 84 MX0_readNumber 1 := ⟨mx_in (i := 1270) (by decide +kernel) (by decide +kernel), mx_in (i := 1273) (by decide +kernel) (by decide +kernel), mx_in (i := 14) (by decide +kernel) (by decide +kernel), by decide +kernel, by decide +kernel, by decide⟩
theorem iX0_57 : mx_inv RX0 57 MX10_take 1 := ⟨mx_in (i := 1274) (by decide +kernel) (by decide +kernel), mx_in (i := 615) (by decide +kernel) (by decide +kernel), mx_in (i := 2) (by decide +kernel) (by decide +kernel), by decide +kernel, by decide +kernel, by decide⟩
theorem iX0_61 : mx_inv RX0 61 MX10_endsHere 0 := ⟨mx_in (i := 1275) (by decide +kernel) (by decide +kernel), mx_in (i := 619) (by decide +kernel) (by decide +kernel), mx_in (i := 2) (by decide +kernel) (by decide +kernel), by decide +kernel, by decide +kernel, by decide⟩
theorem iX11_393 : mx_inv RX11 393 MX0_judge 2 := ⟨mx_in (i := 1276) (by decide +kernel) (by decide +kernel), mx_in (i := 1279) (by decide +kernel) (by decide +kernel), mx_in (i := 14) (by decide +kernel) (by decide +kernel), by decide +kernel, by decide +kernel, by decide⟩
theorem iX0_99 : mx_inv RX0 99 MX0_live 3 := ⟨mx_in (i := 1280) (by decide +kernel) (by decide +kernel), mx_in (i := 1283) (by decide +kernel) (by decide +kernel), mx_in (i := 14) (by decide +kernel) (by decide +kernel), by decide +kernel, by decide +kernel, by decide⟩
theorem iX0_109 : mx_inv RX0 109 MX4_pairUp 2 := ⟨mx_in (i := 1284) (by decide +kernel) (by decide +kernel), mx_in (i := 586) (by decide +kernel) (by decide +kernel), mx_in (i := 7) (by decide +kernel) (by decide +kernel), by decide +kernel, by decide +kernel, by decide⟩
theorem iX0_112 : mx_inv RX0 112 MX4_partFrom 1 := ⟨mx_in (i := 1285) (by decide +kernel) (by decide +kernel), mx_in (i := 891) (by decide +kernel) (by decide +kernel), mx_in (i := 7) (by decide +kernel) (by decide +kernel), by decide +kernel, by decide +kernel, by decide⟩
theorem iX0_116 : mx_inv RX0 116 MX0_behind 2 := ⟨mx_in (i := 1286) (by decide +kernel) (by decide +kernel), mx_in (i := 1288) (by decide +kernel) (by decide +kernel), mx_in (i := 14) (by decide +kernel) (by decide +kernel), by decide +kernel, by decide +kernel, by decide⟩
theorem iX0_119 : mx_inv RX0 119 MX4_weighAnew 3 := ⟨mx_in (i := 1289) (by decide +kernel) (by decide +kernel), mx_in (i := 899) (by decide +kernel) (by decide +kernel), mx_in (i := 7) (by decide +kernel) (by decide +kernel), by decide +kernel, by decide +kernel, by decide⟩
theorem iX0_123 : mx_inv RX0 123 MX4_priceAt 2 := ⟨mx_in (i := 1290) (by decide +kernel) (by decide +kernel), mx_in (i := 595) (by decide +kernel) (by decide +kernel), mx_in (i := 7) (by decide +kernel) (by decide +kernel), by decide +kernel, by decide +kernel, by decide⟩
theorem iX0_126 : mx_inv RX0 126 MX4_hasSet 1 := ⟨mx_in (i := 1291) (by decide +kernel) (by decide +kernel), mx_in (i := 784) (by decide +kernel) (by decide +kernel), mx_in (i := 7) (by decide +kernel) (by decide +kernel), by decide +kernel, by decide +kernel, by decide⟩
theorem iX0_129 : mx_inv RX0 129 MX4_crownAt 2 := ⟨mx_in (i := 1292) (by decide +kernel) (by decide +kernel), mx_in (i := 915) (by decide +kernel) (by decide +kernel), mx_in (i := 7) (by decide +kernel) (by decide +kernel), by decide +kernel, by decide +kernel, by decide⟩
theorem iX0_132 : mx_inv RX0 132 MX4_openSet 1 := ⟨mx_in (i := 1293) (by decide +kernel) (by decide +kernel), mx_in (i := 923) (by decide +kernel) (by decide +kernel), mx_in (i := 7) (by decide +kernel) (by decide +kernel), by decide +kernel, by decide +kernel, by decide⟩
theorem iX0_135 : mx_inv RX0 135 MX9_growFrom 2 := ⟨mx_in (i := 1294) (by decide +kernel) (by decide +kernel), mx_in (i := 1224) (by decide +kernel) (by decide +kernel), mx_in (i := 9) (by decide +kernel) (by decide +kernel), by decide +kernel, by decide +kernel, by decide⟩
theorem iX0_103 : mx_inv RX0 103 MX4_total 0 := ⟨mx_in (i := 1295) (by decide +kernel) (by decide +kernel), mx_in (i := 809) (by decide +kernel) (by decide +kernel), mx_in (i := 7) (by decide +kernel) (by decide +kernel), by decide +kernel, by decide +kernel, by decide⟩
theorem iX0_107 : mx_inv RX0 107 MX4_bound 0 := ⟨mx_in (i := 1296) (by decide +kernel) (by decide +kernel), mx_in (i := 837) (by decide +kernel) (by decide +kernel), mx_in (i := 7) (by decide +kernel) (by decide +kernel), by decide +kernel, by decide +kernel, by decide⟩
theorem iX11_397 : mx_inv RX11 397 MX0_toldOf 1 := ⟨mx_in (i := 1297) (by decide +kernel) (by decide +kernel), mx_in (i := 1300) (by decide +kernel) (by decide +kernel), mx_in (i := 14) (by decide +kernel) (by decide +kernel), by decide +kernel, by decide +kernel, by decide⟩
theorem iL_197 : mx_inv RLaw 197 MX11_told 1 := ⟨mx_in (i := 1301) (by decide +kernel) (by decide +kernel), mx_in (i := 1304) (by decide +kernel) (by decide +kernel), mx_in (i := 1) (by decide +kernel) (by decide +kernel), by decide +kernel, by decide +kernel, by decide⟩
theorem iL_201 : mx_inv RLaw 201 MX11_sentence 0 := ⟨mx_in (i := 1305) (by decide +kernel) (by decide +kernel), mx_in (i := 1308) (by decide +kernel) (by decide +kernel), mx_in (i := 1) (by decide +kernel) (by decide +kernel), by decide +kernel, by decide +kernel, by decide⟩
theorem iX11_400 : mx_inv RX11 400 MX8_read 2 := ⟨mx_in (i := 1309) (by decide +kernel) (by decide +kernel), mx_in (i := 1312) (by decide +kernel) (by decide +kernel), mx_in (i := 15) (by decide +kernel) (by decide +kernel), by decide +kernel, by decide +kernel, by decide⟩
theorem iX8_41 : mx_inv RX8 41 MX8_clear 0 := ⟨mx_in (i := 1313) (by decide +kernel) (by decide +kernel), mx_in (i := 642) (by decide +kernel) (by decide +kernel), mx_in (i := 15) (by decide +kernel) (by decide +kernel), by decide +kernel, by decide +kernel, by decide⟩
theorem iX8_44 : mx_inv RX8 44 MX10_begin 1 := ⟨mx_in (i := 1314) (by decide +kernel) (by decide +kernel), mx_in (i := 495) (by decide +kernel) (by decide +kernel), mx_in (i := 2) (by decide +kernel) (by decide +kernel), by decide +kernel, by decide +kernel, by decide⟩
theorem iX8_50 : mx_inv RX8 50 MX8_readCond 3 := ⟨mx_in (i := 1315) (by decide +kernel) (by decide +kernel), mx_in (i := 1318) (by decide +kernel) (by decide +kernel), mx_in (i := 15) (by decide +kernel) (by decide +kernel), by decide +kernel, by decide +kernel, by decide⟩
theorem iX8_58 : mx_inv RX8 58 MX8_readAll 3 := ⟨mx_in (i := 1319) (by decide +kernel) (by decide +kernel), mx_in (i := 1322) (by decide +kernel) (by decide +kernel), mx_in (i := 15) (by decide +kernel) (by decide +kernel), by decide +kernel, by decide +kernel, by decide⟩
theorem iX8_72 : mx_inv RX8 72 MX8_readOne 3 := ⟨mx_in (i := 1323) (by decide +kernel) (by decide +kernel), mx_in (i := 1326) (by decide +kernel) (by decide +kernel), mx_in (i := 15) (by decide +kernel) (by decide +kernel), by decide +kernel, by decide +kernel, by decide⟩
theorem iX8_61 : mx_inv RX8 61 MX10_kind 0 := ⟨mx_in (i := 1327) (by decide +kernel) (by decide +kernel), mx_in (i := 514) (by decide +kernel) (by decide +kernel), mx_in (i := 2) (by decide +kernel) (by decide +kernel), by decide +kernel, by decide +kernel, by decide⟩
theorem iX8_75 : mx_inv RX8 75 MX10_fail 1 := ⟨mx_in (i := 1328) (by decide +kernel) (by decide +kernel), mx_in (i := 531) (by decide +kernel) (by decide +kernel), mx_in (i := 2) (by decide +kernel) (by decide +kernel), by decide +kernel, by decide +kernel, by decide⟩
theorem iX8_65 : mx_inv RX8 65 MX10_advance 0 := ⟨mx_in (i := 1329) (by decide +kernel) (by decide +kernel), mx_in (i := 502) (by decide +kernel) (by decide +kernel), mx_in (i := 2) (by decide +kernel) (by decide +kernel), by decide +kernel, by decide +kernel, by decide⟩
theorem iX8_68 : mx_inv RX8 68 MX8_put 3 := ⟨mx_in (i := 1330) (by decide +kernel) (by decide +kernel), mx_in (i := 1333) (by decide +kernel) (by decide +kernel), mx_in (i := 15) (by decide +kernel) (by decide +kernel), by decide +kernel, by decide +kernel, by decide⟩
theorem iX8_79 : mx_inv RX8 79 MX10_take 1 := ⟨mx_in (i := 1334) (by decide +kernel) (by decide +kernel), mx_in (i := 615) (by decide +kernel) (by decide +kernel), mx_in (i := 2) (by decide +kernel) (by decide +kernel), by decide +kernel, by decide +kernel, by decide⟩
theorem iX8_82 : mx_inv RX8 82 MX10_takePoint 1 := ⟨mx_in (i := 1335) (by decide +kernel) (by decide +kernel), mx_in (i := 555) (by decide +kernel) (by decide +kernel), mx_in (i := 2) (by decide +kernel) (by decide +kernel), by decide +kernel, by decide +kernel, by decide⟩
theorem iX8_86 : mx_inv RX8 86 MX8_putIfRead 3 := ⟨mx_in (i := 1336) (by decide +kernel) (by decide +kernel), mx_in (i := 1339) (by decide +kernel) (by decide +kernel), mx_in (i := 15) (by decide +kernel) (by decide +kernel), by decide +kernel, by decide +kernel, by decide⟩
theorem iX8_89 : mx_inv RX8 89 MX10_takeNumber 2 := ⟨mx_in (i := 1340) (by decide +kernel) (by decide +kernel), mx_in (i := 574) (by decide +kernel) (by decide +kernel), mx_in (i := 2) (by decide +kernel) (by decide +kernel), by decide +kernel, by decide +kernel, by decide⟩
theorem iX8_54 : mx_inv RX8 54 MX10_endsHere 0 := ⟨mx_in (i := 1341) (by decide +kernel) (by decide +kernel), mx_in (i := 619) (by decide +kernel) (by decide +kernel), mx_in (i := 2) (by decide +kernel) (by decide +kernel), by decide +kernel, by decide +kernel, by decide⟩
theorem iX11_401 : mx_inv RX11 401 MX8_copyFrom 1 := ⟨mx_in (i := 1342) (by decide +kernel) (by decide +kernel), mx_in (i := 1345) (by decide +kernel) (by decide +kernel), mx_in (i := 15) (by decide +kernel) (by decide +kernel), by decide +kernel, by decide +kernel, by decide⟩
theorem aX8_35 : mx_acw RX8 35 := ⟨mx_in (i := 1346) (by decide +kernel) (by decide +kernel), mx_in (i := 638) (by decide +kernel) (by decide +kernel), mx_in (i := 637) (by decide +kernel) (by decide +kernel), mx_in (i := 19) (by decide +kernel) (by decide +kernel)⟩
theorem iX11_404 : mx_inv RX11 404 MX8_ones 0 := ⟨mx_in (i := 1347) (by decide +kernel) (by decide +kernel), mx_in (i := 1350) (by decide +kernel) (by decide +kernel), mx_in (i := 15) (by decide +kernel) (by decide +kernel), by decide +kernel, by decide +kernel, by decide⟩
theorem iL_205 : mx_inv RLaw 205 MX11_said 1 := ⟨mx_in (i := 1351) (by decide +kernel) (by decide +kernel), mx_in (i := 1354) (by decide +kernel) (by decide +kernel), mx_in (i := 1) (by decide +kernel) (by decide +kernel), by decide +kernel, by decide +kernel, by decide⟩
theorem iX11_407 : mx_inv RX11 407 MX8_stands 0 := ⟨mx_in (i := 1355) (by decide +kernel) (by decide +kernel), mx_in (i := 1358) (by decide +kernel) (by decide +kernel), mx_in (i := 15) (by decide +kernel) (by decide +kernel), by decide +kernel, by decide +kernel, by decide⟩
theorem iX11_410 : mx_inv RX11 410 MX8_pointsOf 1 := ⟨mx_in (i := 1359) (by decide +kernel) (by decide +kernel), mx_in (i := 1362) (by decide +kernel) (by decide +kernel), mx_in (i := 15) (by decide +kernel) (by decide +kernel), by decide +kernel, by decide +kernel, by decide⟩
theorem iX8_93 : mx_inv RX8 93 MX4_points 0 := ⟨mx_in (i := 1363) (by decide +kernel) (by decide +kernel), mx_in (i := 522) (by decide +kernel) (by decide +kernel), mx_in (i := 7) (by decide +kernel) (by decide +kernel), by decide +kernel, by decide +kernel, by decide⟩
theorem iX8_98 : mx_inv RX8 98 MX8_pointsOfOne 4 := ⟨mx_in (i := 1364) (by decide +kernel) (by decide +kernel), mx_in (i := 1366) (by decide +kernel) (by decide +kernel), mx_in (i := 15) (by decide +kernel) (by decide +kernel), by decide +kernel, by decide +kernel, by decide⟩
theorem iX8_102 : mx_inv RX8 102 MX4_lonePoints 0 := ⟨mx_in (i := 1367) (by decide +kernel) (by decide +kernel), mx_in (i := 817) (by decide +kernel) (by decide +kernel), mx_in (i := 7) (by decide +kernel) (by decide +kernel), by decide +kernel, by decide +kernel, by decide⟩
theorem iX8_105 : mx_inv RX8 105 MX4_tightPoints 0 := ⟨mx_in (i := 1368) (by decide +kernel) (by decide +kernel), mx_in (i := 1371) (by decide +kernel) (by decide +kernel), mx_in (i := 7) (by decide +kernel) (by decide +kernel), by decide +kernel, by decide +kernel, by decide⟩
theorem iX8_108 : mx_inv RX8 108 MX4_partnerOf 1 := ⟨mx_in (i := 1372) (by decide +kernel) (by decide +kernel), mx_in (i := 687) (by decide +kernel) (by decide +kernel), mx_in (i := 7) (by decide +kernel) (by decide +kernel), by decide +kernel, by decide +kernel, by decide⟩
theorem iX8_112 : mx_inv RX8 112 MX4_nearTo 1 := ⟨mx_in (i := 1373) (by decide +kernel) (by decide +kernel), mx_in (i := 725) (by decide +kernel) (by decide +kernel), mx_in (i := 7) (by decide +kernel) (by decide +kernel), by decide +kernel, by decide +kernel, by decide⟩
theorem iX8_115 : mx_inv RX8 115 MX4_membersOf 1 := ⟨mx_in (i := 1374) (by decide +kernel) (by decide +kernel), mx_in (i := 788) (by decide +kernel) (by decide +kernel), mx_in (i := 7) (by decide +kernel) (by decide +kernel), by decide +kernel, by decide +kernel, by decide⟩
theorem iX8_118 : mx_inv RX8 118 MX8_pointsCompared 4 := ⟨mx_in (i := 1375) (by decide +kernel) (by decide +kernel), mx_in (i := 1377) (by decide +kernel) (by decide +kernel), mx_in (i := 15) (by decide +kernel) (by decide +kernel), by decide +kernel, by decide +kernel, by decide⟩
theorem iX8_121 : mx_inv RX8 121 MX8_measureOf 3 := ⟨mx_in (i := 1378) (by decide +kernel) (by decide +kernel), mx_in (i := 1380) (by decide +kernel) (by decide +kernel), mx_in (i := 15) (by decide +kernel) (by decide +kernel), by decide +kernel, by decide +kernel, by decide⟩
theorem iX8_125 : mx_inv RX8 125 MX4_priceOf 1 := ⟨mx_in (i := 1381) (by decide +kernel) (by decide +kernel), mx_in (i := 833) (by decide +kernel) (by decide +kernel), mx_in (i := 7) (by decide +kernel) (by decide +kernel), by decide +kernel, by decide +kernel, by decide⟩
theorem iX8_128 : mx_inv RX8 128 MJ6_bitCount_0f7a4 1 := ⟨mx_in (i := 1382) (by decide +kernel) (by decide +kernel), mx_in (i := 845) (by decide +kernel) (by decide +kernel), mx_in (i := 24) (by decide +kernel) (by decide +kernel), by decide +kernel, by decide +kernel, by decide⟩
theorem iX8_133 : mx_inv RX8 133 MX4_weightOf 2 := ⟨mx_in (i := 1383) (by decide +kernel) (by decide +kernel), mx_in (i := 729) (by decide +kernel) (by decide +kernel), mx_in (i := 7) (by decide +kernel) (by decide +kernel), by decide +kernel, by decide +kernel, by decide⟩
theorem iX11_413 : mx_inv RX11 413 MJ6_bitCount_0f7a4 1 := ⟨mx_in (i := 1384) (by decide +kernel) (by decide +kernel), mx_in (i := 845) (by decide +kernel) (by decide +kernel), mx_in (i := 24) (by decide +kernel) (by decide +kernel), by decide +kernel, by decide +kernel, by decide⟩
theorem iX11_418 : mx_inv RX11 418 MX11_bitNumbered 2 := ⟨mx_in (i := 1385) (by decide +kernel) (by decide +kernel), mx_in (i := 1387) (by decide +kernel) (by decide +kernel), mx_in (i := 1) (by decide +kernel) (by decide +kernel), by decide +kernel, by decide +kernel, by decide⟩
theorem iL_209 : mx_inv RLaw 209 MX11_image 1 := ⟨mx_in (i := 1388) (by decide +kernel) (by decide +kernel), mx_in (i := 1391) (by decide +kernel) (by decide +kernel), mx_in (i := 1) (by decide +kernel) (by decide +kernel), by decide +kernel, by decide +kernel, by decide⟩
theorem iX11_421 : mx_inv RX11 421 MX11_pictureAt 1 := ⟨mx_in (i := 1392) (by decide +kernel) (by decide +kernel), mx_in (i := 1395) (by decide +kernel) (by decide +kernel), mx_in (i := 1) (by decide +kernel) (by decide +kernel), by decide +kernel, by decide +kernel, by decide⟩
theorem iX11_425 : mx_inv RX11 425 MX6_take 2 := ⟨mx_in (i := 1396) (by decide +kernel) (by decide +kernel), mx_in (i := 1399) (by decide +kernel) (by decide +kernel), mx_in (i := 17) (by decide +kernel) (by decide +kernel), by decide +kernel, by decide +kernel, by decide⟩
theorem iX6_23 : mx_inv RX6 23 MX4_copyFrom 1 := ⟨mx_in (i := 1400) (by decide +kernel) (by decide +kernel), mx_in (i := 631) (by decide +kernel) (by decide +kernel), mx_in (i := 7) (by decide +kernel) (by decide +kernel), by decide +kernel, by decide +kernel, by decide⟩
theorem iX6_27 : mx_inv RX6 27 MX8_copyFrom 1 := ⟨mx_in (i := 1401) (by decide +kernel) (by decide +kernel), mx_in (i := 1345) (by decide +kernel) (by decide +kernel), mx_in (i := 15) (by decide +kernel) (by decide +kernel), by decide +kernel, by decide +kernel, by decide⟩
theorem iL_213 : mx_inv RLaw 213 MX11_restore 1 := ⟨mx_in (i := 1402) (by decide +kernel) (by decide +kernel), mx_in (i := 1405) (by decide +kernel) (by decide +kernel), mx_in (i := 1) (by decide +kernel) (by decide +kernel), by decide +kernel, by decide +kernel, by decide⟩
theorem iX11_429 : mx_inv RX11 429 MX6_giveBack 2 := ⟨mx_in (i := 1406) (by decide +kernel) (by decide +kernel), mx_in (i := 1409) (by decide +kernel) (by decide +kernel), mx_in (i := 17) (by decide +kernel) (by decide +kernel), by decide +kernel, by decide +kernel, by decide⟩
theorem iL_217 : mx_inv RLaw 217 MX11_count 1 := ⟨mx_in (i := 1410) (by decide +kernel) (by decide +kernel), mx_in (i := 1413) (by decide +kernel) (by decide +kernel), mx_in (i := 1) (by decide +kernel) (by decide +kernel), by decide +kernel, by decide +kernel, by decide⟩
theorem iX11_433 : mx_inv RX11 433 MX4_points 0 := ⟨mx_in (i := 1414) (by decide +kernel) (by decide +kernel), mx_in (i := 522) (by decide +kernel) (by decide +kernel), mx_in (i := 7) (by decide +kernel) (by decide +kernel), by decide +kernel, by decide +kernel, by decide⟩
theorem iX11_436 : mx_inv RX11 436 MX4_links 0 := ⟨mx_in (i := 1415) (by decide +kernel) (by decide +kernel), mx_in (i := 547) (by decide +kernel) (by decide +kernel), mx_in (i := 7) (by decide +kernel) (by decide +kernel), by decide +kernel, by decide +kernel, by decide⟩
theorem iX11_439 : mx_inv RX11 439 MX4_sets 0 := ⟨mx_in (i := 1416) (by decide +kernel) (by decide +kernel), mx_in (i := 599) (by decide +kernel) (by decide +kernel), mx_in (i := 7) (by decide +kernel) (by decide +kernel), by decide +kernel, by decide +kernel, by decide⟩
theorem iL_7 : mx_inv RLaw 7 MX11_point 2 := ⟨mx_in (i := 1421) (by decide +kernel) (by decide +kernel), mx_in (i := 1424) (by decide +kernel) (by decide +kernel), mx_in (i := 1) (by decide +kernel) (by decide +kernel), by decide +kernel, by decide +kernel, by decide⟩
theorem iX11_161 : mx_inv RX11 161 MX4_nearTo 1 := ⟨mx_in (i := 1486) (by decide +kernel) (by decide +kernel), mx_in (i := 725) (by decide +kernel) (by decide +kernel), mx_in (i := 7) (by decide +kernel) (by decide +kernel), by decide +kernel, by decide +kernel, by decide⟩
theorem iX11_164 : mx_inv RX11 164 MX4_tightTo 1 := ⟨mx_in (i := 1487) (by decide +kernel) (by decide +kernel), mx_in (i := 1490) (by decide +kernel) (by decide +kernel), mx_in (i := 7) (by decide +kernel) (by decide +kernel), by decide +kernel, by decide +kernel, by decide⟩
theorem iX11_167 : mx_inv RX11 167 MX4_setsWith 1 := ⟨mx_in (i := 1491) (by decide +kernel) (by decide +kernel), mx_in (i := 1494) (by decide +kernel) (by decide +kernel), mx_in (i := 7) (by decide +kernel) (by decide +kernel), by decide +kernel, by decide +kernel, by decide⟩
theorem iL_15 : mx_inv RLaw 15 MX11_slack 1 := ⟨mx_in (i := 1498) (by decide +kernel) (by decide +kernel), mx_in (i := 1501) (by decide +kernel) (by decide +kernel), mx_in (i := 1) (by decide +kernel) (by decide +kernel), by decide +kernel, by decide +kernel, by decide⟩
theorem iL_19 : mx_inv RLaw 19 MX11_proofBy 0 := ⟨mx_in (i := 1505) (by decide +kernel) (by decide +kernel), mx_in (i := 1508) (by decide +kernel) (by decide +kernel), mx_in (i := 1) (by decide +kernel) (by decide +kernel), by decide +kernel, by decide +kernel, by decide⟩
theorem iL_23 : mx_inv RLaw 23 MX11_mean 1 := ⟨mx_in (i := 1512) (by decide +kernel) (by decide +kernel), mx_in (i := 1515) (by decide +kernel) (by decide +kernel), mx_in (i := 1) (by decide +kernel) (by decide +kernel), by decide +kernel, by decide +kernel, by decide⟩
theorem iX11_350 : mx_inv RX11 350 MX11_commonDivisor 2 := ⟨mx_in (i := 1516) (by decide +kernel) (by decide +kernel), mx_in (i := 1518) (by decide +kernel) (by decide +kernel), mx_in (i := 1) (by decide +kernel) (by decide +kernel), by decide +kernel, by decide +kernel, by decide⟩
theorem iX11_353 : mx_inv RX11 353 MJ9_max_7cf53 2 := ⟨mx_in (i := 1519) (by decide +kernel) (by decide +kernel), mx_in (i := 213) (by decide +kernel) (by decide +kernel), mx_in (i := 11) (by decide +kernel) (by decide +kernel), by decide +kernel, by decide +kernel, by decide⟩
theorem iL_54 : mx_inv RLaw 54 MX12_thrown 0 := ⟨mx_in (i := 1520) (by decide +kernel) (by decide +kernel), mx_in (i := 1523) (by decide +kernel) (by decide +kernel), mx_in (i := 18) (by decide +kernel) (by decide +kernel), by decide +kernel, by decide +kernel, by decide⟩
theorem iL_34 : mx_inv RLaw 34 MX12_feed 5 := ⟨mx_in (i := 1524) (by decide +kernel) (by decide +kernel), mx_in (i := 1527) (by decide +kernel) (by decide +kernel), mx_in (i := 18) (by decide +kernel) (by decide +kernel), by decide +kernel, by decide +kernel, by decide⟩
theorem iX12_14 : mx_inv RX12 14 MX12_come 1 := ⟨mx_in (i := 1528) (by decide +kernel) (by decide +kernel), mx_in (i := 1532) (by decide +kernel) (by decide +kernel), mx_in (i := 18) (by decide +kernel) (by decide +kernel), by decide +kernel, by decide +kernel, by decide⟩
theorem iL_39 : mx_inv RLaw 39 MX12_end 1 := ⟨mx_in (i := 1533) (by decide +kernel) (by decide +kernel), mx_in (i := 1536) (by decide +kernel) (by decide +kernel), mx_in (i := 18) (by decide +kernel) (by decide +kernel), by decide +kernel, by decide +kernel, by decide⟩
theorem iL_29 : mx_inv RLaw 29 MX12_init 0 := ⟨mx_in (i := 1538) (by decide +kernel) (by decide +kernel), mx_in (i := 1540) (by decide +kernel) (by decide +kernel), mx_in (i := 18) (by decide +kernel) (by decide +kernel), by decide +kernel, by decide +kernel, by decide⟩
theorem iX12_181 : mx_inv RX12 181 MX12_startSo 0 := ⟨mx_in (i := 1542) (by decide +kernel) (by decide +kernel), mx_in (i := 1545) (by decide +kernel) (by decide +kernel), mx_in (i := 18) (by decide +kernel) (by decide +kernel), by decide +kernel, by decide +kernel, by decide⟩
theorem iL_43 : mx_inv RLaw 43 MX12_network 0 := ⟨mx_in (i := 1734) (by decide +kernel) (by decide +kernel), mx_in (i := 1737) (by decide +kernel) (by decide +kernel), mx_in (i := 18) (by decide +kernel) (by decide +kernel), by decide +kernel, by decide +kernel, by decide⟩
theorem iX12_235 : mx_inv RX12 235 MX12_begin 1 := ⟨mx_in (i := 1738) (by decide +kernel) (by decide +kernel), mx_in (i := 1741) (by decide +kernel) (by decide +kernel), mx_in (i := 18) (by decide +kernel) (by decide +kernel), by decide +kernel, by decide +kernel, by decide⟩
theorem iX12_89 : mx_inv RX12 89 MX12_take 0 := ⟨mx_in (i := 1742) (by decide +kernel) (by decide +kernel), mx_in (i := 1745) (by decide +kernel) (by decide +kernel), mx_in (i := 18) (by decide +kernel) (by decide +kernel), by decide +kernel, by decide +kernel, by decide⟩
theorem iX12_82 : mx_inv RX12 82 MX12_go 0 := ⟨mx_in (i := 1746) (by decide +kernel) (by decide +kernel), mx_in (i := 1749) (by decide +kernel) (by decide +kernel), mx_in (i := 18) (by decide +kernel) (by decide +kernel), by decide +kernel, by decide +kernel, by decide⟩
theorem iX12_33 : mx_inv RX12 33 MX12_isLetter 1 := ⟨mx_in (i := 1750) (by decide +kernel) (by decide +kernel), mx_in (i := 1752) (by decide +kernel) (by decide +kernel), mx_in (i := 18) (by decide +kernel) (by decide +kernel), by decide +kernel, by decide +kernel, by decide⟩
theorem iX12_37 : mx_inv RX12 37 MX12_isDigit 1 := ⟨mx_in (i := 1753) (by decide +kernel) (by decide +kernel), mx_in (i := 1755) (by decide +kernel) (by decide +kernel), mx_in (i := 18) (by decide +kernel) (by decide +kernel), by decide +kernel, by decide +kernel, by decide⟩
theorem iX12_50 : mx_inv RX12 50 MX12_tapeAt 1 := ⟨mx_in (i := 1756) (by decide +kernel) (by decide +kernel), mx_in (i := 1759) (by decide +kernel) (by decide +kernel), mx_in (i := 18) (by decide +kernel) (by decide +kernel), by decide +kernel, by decide +kernel, by decide⟩
theorem cX12_54 : Cond.constantLong RX12 54 27 ∈ mx_TB := mx_in (i := 1760) (by decide +kernel) (by decide +kernel)
theorem cX12_56 : Cond.constantLong RX12 56 96 ∈ mx_TB := mx_in (i := 1761) (by decide +kernel) (by decide +kernel)
theorem iX12_238 : mx_inv RX12 238 MX12_readLine 0 := ⟨mx_in (i := 1762) (by decide +kernel) (by decide +kernel), mx_in (i := 1765) (by decide +kernel) (by decide +kernel), mx_in (i := 18) (by decide +kernel) (by decide +kernel), by decide +kernel, by decide +kernel, by decide⟩
theorem iX12_217 : mx_inv RX12 217 MX12_isWord 1 := ⟨mx_in (i := 1766) (by decide +kernel) (by decide +kernel), mx_in (i := 1769) (by decide +kernel) (by decide +kernel), mx_in (i := 18) (by decide +kernel) (by decide +kernel), by decide +kernel, by decide +kernel, by decide⟩
theorem iX12_62 : mx_inv RX12 62 MX12_wordOf 1 := ⟨mx_in (i := 1770) (by decide +kernel) (by decide +kernel), mx_in (i := 1772) (by decide +kernel) (by decide +kernel), mx_in (i := 18) (by decide +kernel) (by decide +kernel), by decide +kernel, by decide +kernel, by decide⟩
theorem iX12_58 : mx_inv RX12 58 MX12_spelt 6 := ⟨mx_in (i := 1773) (by decide +kernel) (by decide +kernel), mx_in (i := 1775) (by decide +kernel) (by decide +kernel), mx_in (i := 18) (by decide +kernel) (by decide +kernel), by decide +kernel, by decide +kernel, by decide⟩
theorem iX12_220 : mx_inv RX12 220 MX12_readPoint 0 := ⟨mx_in (i := 1776) (by decide +kernel) (by decide +kernel), mx_in (i := 1779) (by decide +kernel) (by decide +kernel), mx_in (i := 18) (by decide +kernel) (by decide +kernel), by decide +kernel, by decide +kernel, by decide⟩
theorem iX12_184 : mx_inv RX12 184 MX12_readFirst 2 := ⟨mx_in (i := 1780) (by decide +kernel) (by decide +kernel), mx_in (i := 1783) (by decide +kernel) (by decide +kernel), mx_in (i := 18) (by decide +kernel) (by decide +kernel), by decide +kernel, by decide +kernel, by decide⟩
theorem iX12_72 : mx_inv RX12 72 MX12_bad 1 := ⟨mx_in (i := 1784) (by decide +kernel) (by decide +kernel), mx_in (i := 1787) (by decide +kernel) (by decide +kernel), mx_in (i := 18) (by decide +kernel) (by decide +kernel), by decide +kernel, by decide +kernel, by decide⟩
theorem iX12_188 : mx_inv RX12 188 MX12_isName 0 := ⟨mx_in (i := 1788) (by decide +kernel) (by decide +kernel), mx_in (i := 1791) (by decide +kernel) (by decide +kernel), mx_in (i := 18) (by decide +kernel) (by decide +kernel), by decide +kernel, by decide +kernel, by decide⟩
theorem iX12_192 : mx_inv RX12 192 MX12_findIn 4 := ⟨mx_in (i := 1792) (by decide +kernel) (by decide +kernel), mx_in (i := 1794) (by decide +kernel) (by decide +kernel), mx_in (i := 18) (by decide +kernel) (by decide +kernel), by decide +kernel, by decide +kernel, by decide⟩
theorem iX12_223 : mx_inv RX12 223 MX12_readLink 0 := ⟨mx_in (i := 1795) (by decide +kernel) (by decide +kernel), mx_in (i := 1798) (by decide +kernel) (by decide +kernel), mx_in (i := 18) (by decide +kernel) (by decide +kernel), by decide +kernel, by decide +kernel, by decide⟩
theorem iX12_196 : mx_inv RX12 196 MX12_isHere 0 := ⟨mx_in (i := 1799) (by decide +kernel) (by decide +kernel), mx_in (i := 1802) (by decide +kernel) (by decide +kernel), mx_in (i := 18) (by decide +kernel) (by decide +kernel), by decide +kernel, by decide +kernel, by decide⟩
theorem iX12_199 : mx_inv RX12 199 MX12_linkIn 3 := ⟨mx_in (i := 1803) (by decide +kernel) (by decide +kernel), mx_in (i := 1805) (by decide +kernel) (by decide +kernel), mx_in (i := 18) (by decide +kernel) (by decide +kernel), by decide +kernel, by decide +kernel, by decide⟩
theorem iX12_203 : mx_inv RX12 203 MX12_readNumber 2 := ⟨mx_in (i := 1806) (by decide +kernel) (by decide +kernel), mx_in (i := 1809) (by decide +kernel) (by decide +kernel), mx_in (i := 18) (by decide +kernel) (by decide +kernel), by decide +kernel, by decide +kernel, by decide⟩
theorem iX12_75 : mx_inv RX12 75 MX12_isIn 3 := ⟨mx_in (i := 1810) (by decide +kernel) (by decide +kernel), mx_in (i := 1812) (by decide +kernel) (by decide +kernel), mx_in (i := 18) (by decide +kernel) (by decide +kernel), by decide +kernel, by decide +kernel, by decide⟩
theorem iX12_206 : mx_inv RX12 206 MX12_noted 2 := ⟨mx_in (i := 1813) (by decide +kernel) (by decide +kernel), mx_in (i := 1816) (by decide +kernel) (by decide +kernel), mx_in (i := 18) (by decide +kernel) (by decide +kernel), by decide +kernel, by decide +kernel, by decide⟩
theorem iX12_226 : mx_inv RX12 226 MX12_readPair 0 := ⟨mx_in (i := 1817) (by decide +kernel) (by decide +kernel), mx_in (i := 1820) (by decide +kernel) (by decide +kernel), mx_in (i := 18) (by decide +kernel) (by decide +kernel), by decide +kernel, by decide +kernel, by decide⟩
theorem iX12_229 : mx_inv RX12 229 MX12_readPrice 0 := ⟨mx_in (i := 1821) (by decide +kernel) (by decide +kernel), mx_in (i := 1824) (by decide +kernel) (by decide +kernel), mx_in (i := 18) (by decide +kernel) (by decide +kernel), by decide +kernel, by decide +kernel, by decide⟩
theorem iX12_232 : mx_inv RX12 232 MX12_readOdd 0 := ⟨mx_in (i := 1825) (by decide +kernel) (by decide +kernel), mx_in (i := 1828) (by decide +kernel) (by decide +kernel), mx_in (i := 18) (by decide +kernel) (by decide +kernel), by decide +kernel, by decide +kernel, by decide⟩
theorem iX12_210 : mx_inv RX12 210 MX12_has 2 := ⟨mx_in (i := 1829) (by decide +kernel) (by decide +kernel), mx_in (i := 1831) (by decide +kernel) (by decide +kernel), mx_in (i := 18) (by decide +kernel) (by decide +kernel), by decide +kernel, by decide +kernel, by decide⟩
theorem iX12_86 : mx_inv RX12 86 MX12_isSign 1 := ⟨mx_in (i := 1832) (by decide +kernel) (by decide +kernel), mx_in (i := 1835) (by decide +kernel) (by decide +kernel), mx_in (i := 18) (by decide +kernel) (by decide +kernel), by decide +kernel, by decide +kernel, by decide⟩
theorem iX12_213 : mx_inv RX12 213 MX12_isOddIn 4 := ⟨mx_in (i := 1836) (by decide +kernel) (by decide +kernel), mx_in (i := 1839) (by decide +kernel) (by decide +kernel), mx_in (i := 18) (by decide +kernel) (by decide +kernel), by decide +kernel, by decide +kernel, by decide⟩
theorem iX12_241 : mx_inv RX12 241 MX12_readEnd 0 := ⟨mx_in (i := 1840) (by decide +kernel) (by decide +kernel), mx_in (i := 1843) (by decide +kernel) (by decide +kernel), mx_in (i := 18) (by decide +kernel) (by decide +kernel), by decide +kernel, by decide +kernel, by decide⟩
theorem iL_47 : mx_inv RLaw 47 MX12_fault 0 := ⟨mx_in (i := 1844) (by decide +kernel) (by decide +kernel), mx_in (i := 1847) (by decide +kernel) (by decide +kernel), mx_in (i := 18) (by decide +kernel) (by decide +kernel), by decide +kernel, by decide +kernel, by decide⟩
theorem iL_53 : mx_inv RLaw 53 MX12_point 2 := ⟨mx_in (i := 1848) (by decide +kernel) (by decide +kernel), mx_in (i := 1851) (by decide +kernel) (by decide +kernel), mx_in (i := 18) (by decide +kernel) (by decide +kernel), by decide +kernel, by decide +kernel, by decide⟩
theorem iX12_247 : mx_inv RX12 247 MX12_isPoint 1 := ⟨mx_in (i := 1852) (by decide +kernel) (by decide +kernel), mx_in (i := 1855) (by decide +kernel) (by decide +kernel), mx_in (i := 18) (by decide +kernel) (by decide +kernel), by decide +kernel, by decide +kernel, by decide⟩
theorem iX12_272 : mx_inv RX12 272 MX12_refuse 0 := ⟨mx_in (i := 1856) (by decide +kernel) (by decide +kernel), mx_in (i := 1859) (by decide +kernel) (by decide +kernel), mx_in (i := 18) (by decide +kernel) (by decide +kernel), by decide +kernel, by decide +kernel, by decide⟩
theorem iX12_275 : mx_inv RX12 275 MX12_partners 2 := ⟨mx_in (i := 1860) (by decide +kernel) (by decide +kernel), mx_in (i := 1863) (by decide +kernel) (by decide +kernel), mx_in (i := 18) (by decide +kernel) (by decide +kernel), by decide +kernel, by decide +kernel, by decide⟩
theorem iX12_266 : mx_inv RX12 266 MX12_isAt 2 := ⟨mx_in (i := 1864) (by decide +kernel) (by decide +kernel), mx_in (i := 1867) (by decide +kernel) (by decide +kernel), mx_in (i := 18) (by decide +kernel) (by decide +kernel), by decide +kernel, by decide +kernel, by decide⟩
theorem iX12_269 : mx_inv RX12 269 MX12_slackOf 1 := ⟨mx_in (i := 1868) (by decide +kernel) (by decide +kernel), mx_in (i := 1871) (by decide +kernel) (by decide +kernel), mx_in (i := 18) (by decide +kernel) (by decide +kernel), by decide +kernel, by decide +kernel, by decide⟩
theorem iL_60 : mx_inv RLaw 60 MX12_link 2 := ⟨mx_in (i := 1872) (by decide +kernel) (by decide +kernel), mx_in (i := 1875) (by decide +kernel) (by decide +kernel), mx_in (i := 18) (by decide +kernel) (by decide +kernel), by decide +kernel, by decide +kernel, by decide⟩
theorem iX12_279 : mx_inv RX12 279 MX12_isLink 1 := ⟨mx_in (i := 1876) (by decide +kernel) (by decide +kernel), mx_in (i := 1879) (by decide +kernel) (by decide +kernel), mx_in (i := 18) (by decide +kernel) (by decide +kernel), by decide +kernel, by decide +kernel, by decide⟩
theorem iX12_260 : mx_inv RX12 260 MX12_isOfPair 1 := ⟨mx_in (i := 1880) (by decide +kernel) (by decide +kernel), mx_in (i := 1883) (by decide +kernel) (by decide +kernel), mx_in (i := 18) (by decide +kernel) (by decide +kernel), by decide +kernel, by decide +kernel, by decide⟩
theorem iX12_254 : mx_inv RX12 254 MX12_arePaired 2 := ⟨mx_in (i := 1884) (by decide +kernel) (by decide +kernel), mx_in (i := 1887) (by decide +kernel) (by decide +kernel), mx_in (i := 18) (by decide +kernel) (by decide +kernel), by decide +kernel, by decide +kernel, by decide⟩
theorem iX12_282 : mx_inv RX12 282 MX12_fateOf 1 := ⟨mx_in (i := 1888) (by decide +kernel) (by decide +kernel), mx_in (i := 1891) (by decide +kernel) (by decide +kernel), mx_in (i := 18) (by decide +kernel) (by decide +kernel), by decide +kernel, by decide +kernel, by decide⟩
theorem iX12_398 : mx_inv RX12 398 MX12_surveyMost 0 := ⟨mx_in (i := 1892) (by decide +kernel) (by decide +kernel), mx_in (i := 1895) (by decide +kernel) (by decide +kernel), mx_in (i := 18) (by decide +kernel) (by decide +kernel), by decide +kernel, by decide +kernel, by decide⟩
theorem iX12_395 : mx_inv RX12 395 MX12_survey 0 := ⟨mx_in (i := 1896) (by decide +kernel) (by decide +kernel), mx_in (i := 1899) (by decide +kernel) (by decide +kernel), mx_in (i := 18) (by decide +kernel) (by decide +kernel), by decide +kernel, by decide +kernel, by decide⟩
theorem iX12_388 : mx_inv RX12 388 MX12_walk 3 := ⟨mx_in (i := 1900) (by decide +kernel) (by decide +kernel), mx_in (i := 1903) (by decide +kernel) (by decide +kernel), mx_in (i := 18) (by decide +kernel) (by decide +kernel), by decide +kernel, by decide +kernel, by decide⟩
theorem iX12_384 : mx_inv RX12 384 MX12_leaf 2 := ⟨mx_in (i := 1904) (by decide +kernel) (by decide +kernel), mx_in (i := 1907) (by decide +kernel) (by decide +kernel), mx_in (i := 18) (by decide +kernel) (by decide +kernel), by decide +kernel, by decide +kernel, by decide⟩
theorem iX12_378 : mx_inv RX12 378 MX12_isAsked 0 := ⟨mx_in (i := 1908) (by decide +kernel) (by decide +kernel), mx_in (i := 1911) (by decide +kernel) (by decide +kernel), mx_in (i := 18) (by decide +kernel) (by decide +kernel), by decide +kernel, by decide +kernel, by decide⟩
theorem iX12_300 : mx_inv RX12 300 MX12_areLinked 2 := ⟨mx_in (i := 1912) (by decide +kernel) (by decide +kernel), mx_in (i := 1915) (by decide +kernel) (by decide +kernel), mx_in (i := 18) (by decide +kernel) (by decide +kernel), by decide +kernel, by decide +kernel, by decide⟩
theorem iX12_250 : mx_inv RX12 250 MX12_between 2 := ⟨mx_in (i := 1916) (by decide +kernel) (by decide +kernel), mx_in (i := 1919) (by decide +kernel) (by decide +kernel), mx_in (i := 18) (by decide +kernel) (by decide +kernel), by decide +kernel, by decide +kernel, by decide⟩
theorem iL_64 : mx_inv RLaw 64 MX12_slack 1 := ⟨mx_in (i := 1920) (by decide +kernel) (by decide +kernel), mx_in (i := 1923) (by decide +kernel) (by decide +kernel), mx_in (i := 18) (by decide +kernel) (by decide +kernel), by decide +kernel, by decide +kernel, by decide⟩
theorem iL_68 : mx_inv RLaw 68 MX12_odd 2 := ⟨mx_in (i := 1924) (by decide +kernel) (by decide +kernel), mx_in (i := 1927) (by decide +kernel) (by decide +kernel), mx_in (i := 18) (by decide +kernel) (by decide +kernel), by decide +kernel, by decide +kernel, by decide⟩
theorem iX12_285 : mx_inv RX12 285 MX12_isOdd 1 := ⟨mx_in (i := 1928) (by decide +kernel) (by decide +kernel), mx_in (i := 1931) (by decide +kernel) (by decide +kernel), mx_in (i := 18) (by decide +kernel) (by decide +kernel), by decide +kernel, by decide +kernel, by decide⟩
theorem iX12_257 : mx_inv RX12 257 MX12_pairsIn 1 := ⟨mx_in (i := 1932) (by decide +kernel) (by decide +kernel), mx_in (i := 1935) (by decide +kernel) (by decide +kernel), mx_in (i := 18) (by decide +kernel) (by decide +kernel), by decide +kernel, by decide +kernel, by decide⟩
theorem iL_72 : mx_inv RLaw 72 MX12_now 1 := ⟨mx_in (i := 1936) (by decide +kernel) (by decide +kernel), mx_in (i := 1939) (by decide +kernel) (by decide +kernel), mx_in (i := 18) (by decide +kernel) (by decide +kernel), by decide +kernel, by decide +kernel, by decide⟩
theorem iX12_288 : mx_inv RX12 288 MX12_totalNow 0 := ⟨mx_in (i := 1940) (by decide +kernel) (by decide +kernel), mx_in (i := 1943) (by decide +kernel) (by decide +kernel), mx_in (i := 18) (by decide +kernel) (by decide +kernel), by decide +kernel, by decide +kernel, by decide⟩
theorem iX12_291 : mx_inv RX12 291 MX12_pairMany 0 := ⟨mx_in (i := 1944) (by decide +kernel) (by decide +kernel), mx_in (i := 1947) (by decide +kernel) (by decide +kernel), mx_in (i := 18) (by decide +kernel) (by decide +kernel), by decide +kernel, by decide +kernel, by decide⟩
theorem iX12_294 : mx_inv RX12 294 MX12_isLone 1 := ⟨mx_in (i := 1948) (by decide +kernel) (by decide +kernel), mx_in (i := 1951) (by decide +kernel) (by decide +kernel), mx_in (i := 18) (by decide +kernel) (by decide +kernel), by decide +kernel, by decide +kernel, by decide⟩
theorem iX12_297 : mx_inv RX12 297 MX12_boundNow 0 := ⟨mx_in (i := 1952) (by decide +kernel) (by decide +kernel), mx_in (i := 1955) (by decide +kernel) (by decide +kernel), mx_in (i := 18) (by decide +kernel) (by decide +kernel), by decide +kernel, by decide +kernel, by decide⟩
theorem iX12_263 : mx_inv RX12 263 MX12_bits 1 := ⟨mx_in (i := 1956) (by decide +kernel) (by decide +kernel), mx_in (i := 1958) (by decide +kernel) (by decide +kernel), mx_in (i := 18) (by decide +kernel) (by decide +kernel), by decide +kernel, by decide +kernel, by decide⟩
theorem iL_101 : mx_inv RLaw 101 MX12_grow 1 := ⟨mx_in (i := 1959) (by decide +kernel) (by decide +kernel), mx_in (i := 1962) (by decide +kernel) (by decide +kernel), mx_in (i := 18) (by decide +kernel) (by decide +kernel), by decide +kernel, by decide +kernel, by decide⟩
theorem iX12_312 : mx_inv RX12 312 MX12_layPath 1 := ⟨mx_in (i := 1963) (by decide +kernel) (by decide +kernel), mx_in (i := 1966) (by decide +kernel) (by decide +kernel), mx_in (i := 18) (by decide +kernel) (by decide +kernel), by decide +kernel, by decide +kernel, by decide⟩
theorem iX12_303 : mx_inv RX12 303 MX12_goesOn 3 := ⟨mx_in (i := 1967) (by decide +kernel) (by decide +kernel), mx_in (i := 1970) (by decide +kernel) (by decide +kernel), mx_in (i := 18) (by decide +kernel) (by decide +kernel), by decide +kernel, by decide +kernel, by decide⟩
theorem iL_105 : mx_inv RLaw 105 MX12_growAt 1 := ⟨mx_in (i := 1971) (by decide +kernel) (by decide +kernel), mx_in (i := 1974) (by decide +kernel) (by decide +kernel), mx_in (i := 18) (by decide +kernel) (by decide +kernel), by decide +kernel, by decide +kernel, by decide⟩
theorem iL_113 : mx_inv RLaw 113 MX12_flower 1 := ⟨mx_in (i := 1975) (by decide +kernel) (by decide +kernel), mx_in (i := 1978) (by decide +kernel) (by decide +kernel), mx_in (i := 18) (by decide +kernel) (by decide +kernel), by decide +kernel, by decide +kernel, by decide⟩
theorem iX12_306 : mx_inv RX12 306 MX12_flowers 3 := ⟨mx_in (i := 1979) (by decide +kernel) (by decide +kernel), mx_in (i := 1982) (by decide +kernel) (by decide +kernel), mx_in (i := 18) (by decide +kernel) (by decide +kernel), by decide +kernel, by decide +kernel, by decide⟩
theorem iL_117 : mx_inv RLaw 117 MX12_flowerAt 1 := ⟨mx_in (i := 1983) (by decide +kernel) (by decide +kernel), mx_in (i := 1986) (by decide +kernel) (by decide +kernel), mx_in (i := 18) (by decide +kernel) (by decide +kernel), by decide +kernel, by decide +kernel, by decide⟩
theorem iL_76 : mx_inv RLaw 76 MX12_pair 2 := ⟨mx_in (i := 1987) (by decide +kernel) (by decide +kernel), mx_in (i := 1990) (by decide +kernel) (by decide +kernel), mx_in (i := 18) (by decide +kernel) (by decide +kernel), by decide +kernel, by decide +kernel, by decide⟩
theorem iX12_339 : mx_inv RX12 339 MX12_areTwo 2 := ⟨mx_in (i := 1991) (by decide +kernel) (by decide +kernel), mx_in (i := 1994) (by decide +kernel) (by decide +kernel), mx_in (i := 18) (by decide +kernel) (by decide +kernel), by decide +kernel, by decide +kernel, by decide⟩
theorem iX12_342 : mx_inv RX12 342 MX12_act 5 := ⟨mx_in (i := 1995) (by decide +kernel) (by decide +kernel), mx_in (i := 1998) (by decide +kernel) (by decide +kernel), mx_in (i := 18) (by decide +kernel) (by decide +kernel), by decide +kernel, by decide +kernel, by decide⟩
theorem iX12_328 : mx_inv RX12 328 MX12_refusal 4 := ⟨mx_in (i := 1999) (by decide +kernel) (by decide +kernel), mx_in (i := 2002) (by decide +kernel) (by decide +kernel), mx_in (i := 18) (by decide +kernel) (by decide +kernel), by decide +kernel, by decide +kernel, by decide⟩
theorem iX12_332 : mx_inv RX12 332 MX12_snap 0 := ⟨mx_in (i := 2003) (by decide +kernel) (by decide +kernel), mx_in (i := 2006) (by decide +kernel) (by decide +kernel), mx_in (i := 18) (by decide +kernel) (by decide +kernel), by decide +kernel, by decide +kernel, by decide⟩
theorem iX12_318 : mx_inv RX12 318 MX12_save 2 := ⟨mx_in (i := 2007) (by decide +kernel) (by decide +kernel), mx_in (i := 2010) (by decide +kernel) (by decide +kernel), mx_in (i := 18) (by decide +kernel) (by decide +kernel), by decide +kernel, by decide +kernel, by decide⟩
theorem iX12_335 : mx_inv RX12 335 MX12_live 4 := ⟨mx_in (i := 2011) (by decide +kernel) (by decide +kernel), mx_in (i := 2014) (by decide +kernel) (by decide +kernel), mx_in (i := 18) (by decide +kernel) (by decide +kernel), by decide +kernel, by decide +kernel, by decide⟩
theorem iX12_322 : mx_inv RX12 322 MX12_openOdd 1 := ⟨mx_in (i := 2015) (by decide +kernel) (by decide +kernel), mx_in (i := 2018) (by decide +kernel) (by decide +kernel), mx_in (i := 18) (by decide +kernel) (by decide +kernel), by decide +kernel, by decide +kernel, by decide⟩
theorem iX12_325 : mx_inv RX12 325 MX12_turnPath 2 := ⟨mx_in (i := 2019) (by decide +kernel) (by decide +kernel), mx_in (i := 2022) (by decide +kernel) (by decide +kernel), mx_in (i := 18) (by decide +kernel) (by decide +kernel), by decide +kernel, by decide +kernel, by decide⟩
theorem iL_80 : mx_inv RLaw 80 MX12_part 1 := ⟨mx_in (i := 2023) (by decide +kernel) (by decide +kernel), mx_in (i := 2026) (by decide +kernel) (by decide +kernel), mx_in (i := 18) (by decide +kernel) (by decide +kernel), by decide +kernel, by decide +kernel, by decide⟩
theorem iL_85 : mx_inv RLaw 85 MX12_weigh 3 := ⟨mx_in (i := 2027) (by decide +kernel) (by decide +kernel), mx_in (i := 2030) (by decide +kernel) (by decide +kernel), mx_in (i := 18) (by decide +kernel) (by decide +kernel), by decide +kernel, by decide +kernel, by decide⟩
theorem iL_89 : mx_inv RLaw 89 MX12_price 2 := ⟨mx_in (i := 2031) (by decide +kernel) (by decide +kernel), mx_in (i := 2034) (by decide +kernel) (by decide +kernel), mx_in (i := 18) (by decide +kernel) (by decide +kernel), by decide +kernel, by decide +kernel, by decide⟩
theorem iL_93 : mx_inv RLaw 93 MX12_crown 2 := ⟨mx_in (i := 2035) (by decide +kernel) (by decide +kernel), mx_in (i := 2038) (by decide +kernel) (by decide +kernel), mx_in (i := 18) (by decide +kernel) (by decide +kernel), by decide +kernel, by decide +kernel, by decide⟩
theorem iL_97 : mx_inv RLaw 97 MX12_open 1 := ⟨mx_in (i := 2039) (by decide +kernel) (by decide +kernel), mx_in (i := 2042) (by decide +kernel) (by decide +kernel), mx_in (i := 18) (by decide +kernel) (by decide +kernel), by decide +kernel, by decide +kernel, by decide⟩
theorem iL_109 : mx_inv RLaw 109 MX12_turn 0 := ⟨mx_in (i := 2043) (by decide +kernel) (by decide +kernel), mx_in (i := 2046) (by decide +kernel) (by decide +kernel), mx_in (i := 18) (by decide +kernel) (by decide +kernel), by decide +kernel, by decide +kernel, by decide⟩
theorem iX12_346 : mx_inv RX12 346 MX12_isPath 2 := ⟨mx_in (i := 2047) (by decide +kernel) (by decide +kernel), mx_in (i := 2050) (by decide +kernel) (by decide +kernel), mx_in (i := 18) (by decide +kernel) (by decide +kernel), by decide +kernel, by decide +kernel, by decide⟩
theorem iL_121 : mx_inv RLaw 121 MX12_shrink 0 := ⟨mx_in (i := 2051) (by decide +kernel) (by decide +kernel), mx_in (i := 2054) (by decide +kernel) (by decide +kernel), mx_in (i := 18) (by decide +kernel) (by decide +kernel), by decide +kernel, by decide +kernel, by decide⟩
theorem iX12_350 : mx_inv RX12 350 MX12_isFlower 0 := ⟨mx_in (i := 2055) (by decide +kernel) (by decide +kernel), mx_in (i := 2058) (by decide +kernel) (by decide +kernel), mx_in (i := 18) (by decide +kernel) (by decide +kernel), by decide +kernel, by decide +kernel, by decide⟩
theorem iL_125 : mx_inv RLaw 125 MX12_undo 0 := ⟨mx_in (i := 2059) (by decide +kernel) (by decide +kernel), mx_in (i := 2062) (by decide +kernel) (by decide +kernel), mx_in (i := 18) (by decide +kernel) (by decide +kernel), by decide +kernel, by decide +kernel, by decide⟩
theorem iX12_353 : mx_inv RX12 353 MX12_comeBack 2 := ⟨mx_in (i := 2063) (by decide +kernel) (by decide +kernel), mx_in (i := 2066) (by decide +kernel) (by decide +kernel), mx_in (i := 18) (by decide +kernel) (by decide +kernel), by decide +kernel, by decide +kernel, by decide⟩
theorem iL_129 : mx_inv RLaw 129 MX12_proof 0 := ⟨mx_in (i := 2067) (by decide +kernel) (by decide +kernel), mx_in (i := 2070) (by decide +kernel) (by decide +kernel), mx_in (i := 18) (by decide +kernel) (by decide +kernel), by decide +kernel, by decide +kernel, by decide⟩
theorem iX12_359 : mx_inv RX12 359 MX12_breaks 1 := ⟨mx_in (i := 2071) (by decide +kernel) (by decide +kernel), mx_in (i := 2074) (by decide +kernel) (by decide +kernel), mx_in (i := 18) (by decide +kernel) (by decide +kernel), by decide +kernel, by decide +kernel, by decide⟩
theorem iL_133 : mx_inv RLaw 133 MX12_proofAt 0 := ⟨mx_in (i := 2075) (by decide +kernel) (by decide +kernel), mx_in (i := 2078) (by decide +kernel) (by decide +kernel), mx_in (i := 18) (by decide +kernel) (by decide +kernel), by decide +kernel, by decide +kernel, by decide⟩
theorem iL_137 : mx_inv RLaw 137 MX12_proofBy 0 := ⟨mx_in (i := 2079) (by decide +kernel) (by decide +kernel), mx_in (i := 2082) (by decide +kernel) (by decide +kernel), mx_in (i := 18) (by decide +kernel) (by decide +kernel), by decide +kernel, by decide +kernel, by decide⟩
theorem iL_141 : mx_inv RLaw 141 MX12_room 1 := ⟨mx_in (i := 2083) (by decide +kernel) (by decide +kernel), mx_in (i := 2086) (by decide +kernel) (by decide +kernel), mx_in (i := 18) (by decide +kernel) (by decide +kernel), by decide +kernel, by decide +kernel, by decide⟩
theorem iL_145 : mx_inv RLaw 145 MX12_best 0 := ⟨mx_in (i := 2087) (by decide +kernel) (by decide +kernel), mx_in (i := 2090) (by decide +kernel) (by decide +kernel), mx_in (i := 18) (by decide +kernel) (by decide +kernel), by decide +kernel, by decide +kernel, by decide⟩
theorem iL_149 : mx_inv RLaw 149 MX12_bestOf 1 := ⟨mx_in (i := 2091) (by decide +kernel) (by decide +kernel), mx_in (i := 2094) (by decide +kernel) (by decide +kernel), mx_in (i := 18) (by decide +kernel) (by decide +kernel), by decide +kernel, by decide +kernel, by decide⟩
theorem iL_153 : mx_inv RLaw 153 MX12_next 0 := ⟨mx_in (i := 2095) (by decide +kernel) (by decide +kernel), mx_in (i := 2098) (by decide +kernel) (by decide +kernel), mx_in (i := 18) (by decide +kernel) (by decide +kernel), by decide +kernel, by decide +kernel, by decide⟩
theorem iL_157 : mx_inv RLaw 157 MX12_heavy 1 := ⟨mx_in (i := 2099) (by decide +kernel) (by decide +kernel), mx_in (i := 2102) (by decide +kernel) (by decide +kernel), mx_in (i := 18) (by decide +kernel) (by decide +kernel), by decide +kernel, by decide +kernel, by decide⟩
theorem iL_161 : mx_inv RLaw 161 MX12_ways 1 := ⟨mx_in (i := 2103) (by decide +kernel) (by decide +kernel), mx_in (i := 2106) (by decide +kernel) (by decide +kernel), mx_in (i := 18) (by decide +kernel) (by decide +kernel), by decide +kernel, by decide +kernel, by decide⟩
theorem iL_169 : mx_inv RLaw 169 MX12_who 0 := ⟨mx_in (i := 2107) (by decide +kernel) (by decide +kernel), mx_in (i := 2110) (by decide +kernel) (by decide +kernel), mx_in (i := 18) (by decide +kernel) (by decide +kernel), by decide +kernel, by decide +kernel, by decide⟩
theorem iL_173 : mx_inv RLaw 173 MX12_ask 0 := ⟨mx_in (i := 2111) (by decide +kernel) (by decide +kernel), mx_in (i := 2114) (by decide +kernel) (by decide +kernel), mx_in (i := 18) (by decide +kernel) (by decide +kernel), by decide +kernel, by decide +kernel, by decide⟩
theorem iL_165 : mx_inv RLaw 165 MX12_gain 0 := ⟨mx_in (i := 2115) (by decide +kernel) (by decide +kernel), mx_in (i := 2118) (by decide +kernel) (by decide +kernel), mx_in (i := 18) (by decide +kernel) (by decide +kernel), by decide +kernel, by decide +kernel, by decide⟩
theorem iX12_407 : mx_inv RX12 407 MX12_stroke 7 := ⟨mx_in (i := 2119) (by decide +kernel) (by decide +kernel), mx_in (i := 2122) (by decide +kernel) (by decide +kernel), mx_in (i := 18) (by decide +kernel) (by decide +kernel), by decide +kernel, by decide +kernel, by decide⟩
theorem iL_176 : mx_inv RLaw 176 MX12_mean 1 := ⟨mx_in (i := 2123) (by decide +kernel) (by decide +kernel), mx_in (i := 2126) (by decide +kernel) (by decide +kernel), mx_in (i := 18) (by decide +kernel) (by decide +kernel), by decide +kernel, by decide +kernel, by decide⟩
theorem iX12_414 : mx_inv RX12 414 MX12_fraction 3 := ⟨mx_in (i := 2127) (by decide +kernel) (by decide +kernel), mx_in (i := 2130) (by decide +kernel) (by decide +kernel), mx_in (i := 18) (by decide +kernel) (by decide +kernel), by decide +kernel, by decide +kernel, by decide⟩
theorem iX12_411 : mx_inv RX12 411 MX12_common 2 := ⟨mx_in (i := 2131) (by decide +kernel) (by decide +kernel), mx_in (i := 2133) (by decide +kernel) (by decide +kernel), mx_in (i := 18) (by decide +kernel) (by decide +kernel), by decide +kernel, by decide +kernel, by decide⟩
theorem iL_180 : mx_inv RLaw 180 MX12_tag 1 := ⟨mx_in (i := 2134) (by decide +kernel) (by decide +kernel), mx_in (i := 2137) (by decide +kernel) (by decide +kernel), mx_in (i := 18) (by decide +kernel) (by decide +kernel), by decide +kernel, by decide +kernel, by decide⟩
theorem iX12_421 : mx_inv RX12 421 MX12_writeWord 1 := ⟨mx_in (i := 2138) (by decide +kernel) (by decide +kernel), mx_in (i := 2141) (by decide +kernel) (by decide +kernel), mx_in (i := 18) (by decide +kernel) (by decide +kernel), by decide +kernel, by decide +kernel, by decide⟩
theorem iX12_425 : mx_inv RX12 425 MX12_write 1 := ⟨mx_in (i := 2142) (by decide +kernel) (by decide +kernel), mx_in (i := 2145) (by decide +kernel) (by decide +kernel), mx_in (i := 18) (by decide +kernel) (by decide +kernel), by decide +kernel, by decide +kernel, by decide⟩
theorem iX12_431 : mx_inv RX12 431 MX12_writeNext 1 := ⟨mx_in (i := 2146) (by decide +kernel) (by decide +kernel), mx_in (i := 2149) (by decide +kernel) (by decide +kernel), mx_in (i := 18) (by decide +kernel) (by decide +kernel), by decide +kernel, by decide +kernel, by decide⟩
theorem iX12_428 : mx_inv RX12 428 MX12_writeNumber 1 := ⟨mx_in (i := 2150) (by decide +kernel) (by decide +kernel), mx_in (i := 2153) (by decide +kernel) (by decide +kernel), mx_in (i := 18) (by decide +kernel) (by decide +kernel), by decide +kernel, by decide +kernel, by decide⟩
theorem iL_184 : mx_inv RLaw 184 MX12_byteAt 1 := ⟨mx_in (i := 2154) (by decide +kernel) (by decide +kernel), mx_in (i := 2157) (by decide +kernel) (by decide +kernel), mx_in (i := 18) (by decide +kernel) (by decide +kernel), by decide +kernel, by decide +kernel, by decide⟩
theorem iL_188 : mx_inv RLaw 188 MX12_drawn 2 := ⟨mx_in (i := 2158) (by decide +kernel) (by decide +kernel), mx_in (i := 2161) (by decide +kernel) (by decide +kernel), mx_in (i := 18) (by decide +kernel) (by decide +kernel), by decide +kernel, by decide +kernel, by decide⟩
theorem iX12_451 : mx_inv RX12 451 MX12_drawDeeds 2 := ⟨mx_in (i := 2162) (by decide +kernel) (by decide +kernel), mx_in (i := 2165) (by decide +kernel) (by decide +kernel), mx_in (i := 18) (by decide +kernel) (by decide +kernel), by decide +kernel, by decide +kernel, by decide⟩
theorem iX12_448 : mx_inv RX12 448 MX12_drawsDeed 0 := ⟨mx_in (i := 2166) (by decide +kernel) (by decide +kernel), mx_in (i := 2169) (by decide +kernel) (by decide +kernel), mx_in (i := 18) (by decide +kernel) (by decide +kernel), by decide +kernel, by decide +kernel, by decide⟩
theorem iX12_438 : mx_inv RX12 438 MX12_draw 1 := ⟨mx_in (i := 2170) (by decide +kernel) (by decide +kernel), mx_in (i := 2173) (by decide +kernel) (by decide +kernel), mx_in (i := 18) (by decide +kernel) (by decide +kernel), by decide +kernel, by decide +kernel, by decide⟩
theorem cX12_437 : Cond.constant RX12 437 1103515245 ∈ mx_TB := mx_in (i := 2174) (by decide +kernel) (by decide +kernel)
theorem iX12_441 : mx_inv RX12 441 MX12_drawPoint 0 := ⟨mx_in (i := 2175) (by decide +kernel) (by decide +kernel), mx_in (i := 2178) (by decide +kernel) (by decide +kernel), mx_in (i := 18) (by decide +kernel) (by decide +kernel), by decide +kernel, by decide +kernel, by decide⟩
theorem iX12_444 : mx_inv RX12 444 MX12_doIf 4 := ⟨mx_in (i := 2179) (by decide +kernel) (by decide +kernel), mx_in (i := 2182) (by decide +kernel) (by decide +kernel), mx_in (i := 18) (by decide +kernel) (by decide +kernel), by decide +kernel, by decide +kernel, by decide⟩
theorem iX12_454 : mx_inv RX12 454 MX12_stay 1 := ⟨mx_in (i := 2183) (by decide +kernel) (by decide +kernel), mx_in (i := 2186) (by decide +kernel) (by decide +kernel), mx_in (i := 18) (by decide +kernel) (by decide +kernel), by decide +kernel, by decide +kernel, by decide⟩
theorem iL_192 : mx_inv RLaw 192 MX12_odds 3 := ⟨mx_in (i := 2187) (by decide +kernel) (by decide +kernel), mx_in (i := 2190) (by decide +kernel) (by decide +kernel), mx_in (i := 18) (by decide +kernel) (by decide +kernel), by decide +kernel, by decide +kernel, by decide⟩
theorem iL_196 : mx_inv RLaw 196 MX12_book 1 := ⟨mx_in (i := 2191) (by decide +kernel) (by decide +kernel), mx_in (i := 2194) (by decide +kernel) (by decide +kernel), mx_in (i := 18) (by decide +kernel) (by decide +kernel), by decide +kernel, by decide +kernel, by decide⟩
theorem iX12_470 : mx_inv RX12 470 MX12_readBookLine 0 := ⟨mx_in (i := 2195) (by decide +kernel) (by decide +kernel), mx_in (i := 2198) (by decide +kernel) (by decide +kernel), mx_in (i := 18) (by decide +kernel) (by decide +kernel), by decide +kernel, by decide +kernel, by decide⟩
theorem iX12_461 : mx_inv RX12 461 MX12_readPointName 0 := ⟨mx_in (i := 2199) (by decide +kernel) (by decide +kernel), mx_in (i := 2202) (by decide +kernel) (by decide +kernel), mx_in (i := 18) (by decide +kernel) (by decide +kernel), by decide +kernel, by decide +kernel, by decide⟩
theorem iX12_464 : mx_inv RX12 464 MX12_keep 2 := ⟨mx_in (i := 2203) (by decide +kernel) (by decide +kernel), mx_in (i := 2206) (by decide +kernel) (by decide +kernel), mx_in (i := 18) (by decide +kernel) (by decide +kernel), by decide +kernel, by decide +kernel, by decide⟩
theorem iX12_467 : mx_inv RX12 467 MX12_readOther 1 := ⟨mx_in (i := 2207) (by decide +kernel) (by decide +kernel), mx_in (i := 2210) (by decide +kernel) (by decide +kernel), mx_in (i := 18) (by decide +kernel) (by decide +kernel), by decide +kernel, by decide +kernel, by decide⟩
theorem iX12_473 : mx_inv RX12 473 MX12_goBy 1 := ⟨mx_in (i := 2211) (by decide +kernel) (by decide +kernel), mx_in (i := 2214) (by decide +kernel) (by decide +kernel), mx_in (i := 18) (by decide +kernel) (by decide +kernel), by decide +kernel, by decide +kernel, by decide⟩
theorem iL_200 : mx_inv RLaw 200 MX12_told 1 := ⟨mx_in (i := 2215) (by decide +kernel) (by decide +kernel), mx_in (i := 2218) (by decide +kernel) (by decide +kernel), mx_in (i := 18) (by decide +kernel) (by decide +kernel), by decide +kernel, by decide +kernel, by decide⟩
theorem iL_204 : mx_inv RLaw 204 MX12_sentence 0 := ⟨mx_in (i := 2219) (by decide +kernel) (by decide +kernel), mx_in (i := 2222) (by decide +kernel) (by decide +kernel), mx_in (i := 18) (by decide +kernel) (by decide +kernel), by decide +kernel, by decide +kernel, by decide⟩
theorem iX12_512 : mx_inv RX12 512 MX12_readOr 0 := ⟨mx_in (i := 2223) (by decide +kernel) (by decide +kernel), mx_in (i := 2226) (by decide +kernel) (by decide +kernel), mx_in (i := 18) (by decide +kernel) (by decide +kernel), by decide +kernel, by decide +kernel, by decide⟩
theorem iX12_482 : mx_inv RX12 482 MX12_readAnd 0 := ⟨mx_in (i := 2227) (by decide +kernel) (by decide +kernel), mx_in (i := 2230) (by decide +kernel) (by decide +kernel), mx_in (i := 18) (by decide +kernel) (by decide +kernel), by decide +kernel, by decide +kernel, by decide⟩
theorem iX12_491 : mx_inv RX12 491 MX12_readSaid 0 := ⟨mx_in (i := 2231) (by decide +kernel) (by decide +kernel), mx_in (i := 2234) (by decide +kernel) (by decide +kernel), mx_in (i := 18) (by decide +kernel) (by decide +kernel), by decide +kernel, by decide +kernel, by decide⟩
theorem iX12_500 : mx_inv RX12 500 MX12_readBracket 0 := ⟨mx_in (i := 2235) (by decide +kernel) (by decide +kernel), mx_in (i := 2238) (by decide +kernel) (by decide +kernel), mx_in (i := 18) (by decide +kernel) (by decide +kernel), by decide +kernel, by decide +kernel, by decide⟩
theorem iX12_503 : mx_inv RX12 503 MX12_readNot 0 := ⟨mx_in (i := 2239) (by decide +kernel) (by decide +kernel), mx_in (i := 2242) (by decide +kernel) (by decide +kernel), mx_in (i := 18) (by decide +kernel) (by decide +kernel), by decide +kernel, by decide +kernel, by decide⟩
theorem iX12_488 : mx_inv RX12 488 MX12_saysOne 4 := ⟨mx_in (i := 2243) (by decide +kernel) (by decide +kernel), mx_in (i := 2246) (by decide +kernel) (by decide +kernel), mx_in (i := 18) (by decide +kernel) (by decide +kernel), by decide +kernel, by decide +kernel, by decide⟩
theorem iX12_506 : mx_inv RX12 506 MX12_readOf 1 := ⟨mx_in (i := 2247) (by decide +kernel) (by decide +kernel), mx_in (i := 2250) (by decide +kernel) (by decide +kernel), mx_in (i := 18) (by decide +kernel) (by decide +kernel), by decide +kernel, by decide +kernel, by decide⟩
theorem iX12_515 : mx_inv RX12 515 MX12_readThat 1 := ⟨mx_in (i := 2251) (by decide +kernel) (by decide +kernel), mx_in (i := 2254) (by decide +kernel) (by decide +kernel), mx_in (i := 18) (by decide +kernel) (by decide +kernel), by decide +kernel, by decide +kernel, by decide⟩
theorem iX12_509 : mx_inv RX12 509 MX12_readCompare 1 := ⟨mx_in (i := 2255) (by decide +kernel) (by decide +kernel), mx_in (i := 2258) (by decide +kernel) (by decide +kernel), mx_in (i := 18) (by decide +kernel) (by decide +kernel), by decide +kernel, by decide +kernel, by decide⟩
theorem iL_208 : mx_inv RLaw 208 MX12_said 1 := ⟨mx_in (i := 2259) (by decide +kernel) (by decide +kernel), mx_in (i := 2262) (by decide +kernel) (by decide +kernel), mx_in (i := 18) (by decide +kernel) (by decide +kernel), by decide +kernel, by decide +kernel, by decide⟩
theorem iX12_518 : mx_inv RX12 518 MX12_holds 2 := ⟨mx_in (i := 2263) (by decide +kernel) (by decide +kernel), mx_in (i := 2266) (by decide +kernel) (by decide +kernel), mx_in (i := 18) (by decide +kernel) (by decide +kernel), by decide +kernel, by decide +kernel, by decide⟩
theorem iX12_521 : mx_inv RX12 521 MX12_weightOf 1 := ⟨mx_in (i := 2267) (by decide +kernel) (by decide +kernel), mx_in (i := 2270) (by decide +kernel) (by decide +kernel), mx_in (i := 18) (by decide +kernel) (by decide +kernel), by decide +kernel, by decide +kernel, by decide⟩
theorem iL_212 : mx_inv RLaw 212 MX12_image 1 := ⟨mx_in (i := 2271) (by decide +kernel) (by decide +kernel), mx_in (i := 2274) (by decide +kernel) (by decide +kernel), mx_in (i := 18) (by decide +kernel) (by decide +kernel), by decide +kernel, by decide +kernel, by decide⟩
theorem iL_216 : mx_inv RLaw 216 MX12_restore 1 := ⟨mx_in (i := 2275) (by decide +kernel) (by decide +kernel), mx_in (i := 2278) (by decide +kernel) (by decide +kernel), mx_in (i := 18) (by decide +kernel) (by decide +kernel), by decide +kernel, by decide +kernel, by decide⟩
theorem iL_220 : mx_inv RLaw 220 MX12_count 1 := ⟨mx_in (i := 2279) (by decide +kernel) (by decide +kernel), mx_in (i := 2282) (by decide +kernel) (by decide +kernel), mx_in (i := 18) (by decide +kernel) (by decide +kernel), by decide +kernel, by decide +kernel, by decide⟩
end
