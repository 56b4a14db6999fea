section
-- ===== PART A: goes FIRST, ahead of the names: the tables' words, and 'selects' of the private methods out of them =====
/-- a private method of a class that the tables say can be made, by its rows of tables_1 -/
def lw_okq (q : MethodName × Nat) : Prop := (q.1.cls ≠ "java/lang/invoke/MethodHandle" ∧ q.1.cls ≠ "java/lang/invoke/VarHandle") ∧ Cond.instantiable q.1.cls q.2 ∈ tables_1 ∧ Cond.privateMethod q.1 ∈ tables_1 ∧ Cond.instanceMethod q.1 ∈ tables_1
theorem lw_p0 : lw_okq (⟨"HeavyPairs$Tape", "readChunk", "()V"⟩, 12) := ⟨⟨by decide +kernel, by decide +kernel⟩, List.mem_of_getElem? (i := 34) (by decide +kernel), List.mem_of_getElem? (i := 508) (by decide +kernel), List.mem_of_getElem? (i := 509) (by decide +kernel)⟩
theorem lw_p1 : lw_okq (⟨"HeavyPairs$NetworkText", "readLine", "(LHeavyPairs$Tape;)Z"⟩, 3) := ⟨⟨by decide +kernel, by decide +kernel⟩, List.mem_of_getElem? (i := 182) (by decide +kernel), List.mem_of_getElem? (i := 516) (by decide +kernel), List.mem_of_getElem? (i := 517) (by decide +kernel)⟩
theorem lw_p2 : lw_okq (⟨"HeavyPairs$NetworkText", "readPoint", "(LHeavyPairs$Tape;)Z"⟩, 3) := ⟨⟨by decide +kernel, by decide +kernel⟩, List.mem_of_getElem? (i := 182) (by decide +kernel), List.mem_of_getElem? (i := 524) (by decide +kernel), List.mem_of_getElem? (i := 525) (by decide +kernel)⟩
theorem lw_p3 : lw_okq (⟨"HeavyPairs$NetworkText", "readLink", "(LHeavyPairs$Tape;)Z"⟩, 3) := ⟨⟨by decide +kernel, by decide +kernel⟩, List.mem_of_getElem? (i := 182) (by decide +kernel), List.mem_of_getElem? (i := 549) (by decide +kernel), List.mem_of_getElem? (i := 550) (by decide +kernel)⟩
theorem lw_p4 : lw_okq (⟨"HeavyPairs$NetworkText", "readPair", "(LHeavyPairs$Tape;)Z"⟩, 3) := ⟨⟨by decide +kernel, by decide +kernel⟩, List.mem_of_getElem? (i := 182) (by decide +kernel), List.mem_of_getElem? (i := 580) (by decide +kernel), List.mem_of_getElem? (i := 581) (by decide +kernel)⟩
theorem lw_p5 : lw_okq (⟨"HeavyPairs$NetworkText", "readPrice", "(LHeavyPairs$Tape;)Z"⟩, 3) := ⟨⟨by decide +kernel, by decide +kernel⟩, List.mem_of_getElem? (i := 182) (by decide +kernel), List.mem_of_getElem? (i := 589) (by decide +kernel), List.mem_of_getElem? (i := 590) (by decide +kernel)⟩
theorem lw_p6 : lw_okq (⟨"HeavyPairs$NetworkText", "readSet", "(LHeavyPairs$Tape;)Z"⟩, 3) := ⟨⟨by decide +kernel, by decide +kernel⟩, List.mem_of_getElem? (i := 182) (by decide +kernel), List.mem_of_getElem? (i := 601) (by decide +kernel), List.mem_of_getElem? (i := 602) (by decide +kernel)⟩
theorem lw_p7 : lw_okq (⟨"HeavyPairs$Heaviest", "slotFor", "(II)I"⟩, 16) := ⟨⟨by decide +kernel, by decide +kernel⟩, List.mem_of_getElem? (i := 231) (by decide +kernel), List.mem_of_getElem? (i := 699) (by decide +kernel), List.mem_of_getElem? (i := 700) (by decide +kernel)⟩
theorem lw_p8 : lw_okq (⟨"HeavyPairs$Heaviest", "slotKnown", "(I)I"⟩, 16) := ⟨⟨by decide +kernel, by decide +kernel⟩, List.mem_of_getElem? (i := 231) (by decide +kernel), List.mem_of_getElem? (i := 703) (by decide +kernel), List.mem_of_getElem? (i := 704) (by decide +kernel)⟩
theorem lw_p9 : lw_okq (⟨"HeavyPairs$Heaviest", "startSlot", "(IZ)V"⟩, 16) := ⟨⟨by decide +kernel, by decide +kernel⟩, List.mem_of_getElem? (i := 231) (by decide +kernel), List.mem_of_getElem? (i := 707) (by decide +kernel), List.mem_of_getElem? (i := 708) (by decide +kernel)⟩
theorem lw_p10 : lw_okq (⟨"HeavyPairs$Heaviest", "addWays", "(IIII)V"⟩, 16) := ⟨⟨by decide +kernel, by decide +kernel⟩, List.mem_of_getElem? (i := 231) (by decide +kernel), List.mem_of_getElem? (i := 714) (by decide +kernel), List.mem_of_getElem? (i := 715) (by decide +kernel)⟩
theorem lw_p11 : lw_okq (⟨"HeavyPairs$Heaviest", "addTotal", "(II)V"⟩, 16) := ⟨⟨by decide +kernel, by decide +kernel⟩, List.mem_of_getElem? (i := 231) (by decide +kernel), List.mem_of_getElem? (i := 719) (by decide +kernel), List.mem_of_getElem? (i := 720) (by decide +kernel)⟩
theorem lw_p12 : lw_okq (⟨"HeavyPairs$Heaviest", "walkBest", "(II)V"⟩, 16) := ⟨⟨by decide +kernel, by decide +kernel⟩, List.mem_of_getElem? (i := 231) (by decide +kernel), List.mem_of_getElem? (i := 748) (by decide +kernel), List.mem_of_getElem? (i := 749) (by decide +kernel)⟩
theorem lw_p13 : lw_okq (⟨"HeavyPairs$Heaviest", "tallyChosen", "()V"⟩, 16) := ⟨⟨by decide +kernel, by decide +kernel⟩, List.mem_of_getElem? (i := 231) (by decide +kernel), List.mem_of_getElem? (i := 752) (by decide +kernel), List.mem_of_getElem? (i := 753) (by decide +kernel)⟩
theorem lw_p14 : lw_okq (⟨"HeavyPairs$Heaviest", "mayBe", "(II)Z"⟩, 16) := ⟨⟨by decide +kernel, by decide +kernel⟩, List.mem_of_getElem? (i := 231) (by decide +kernel), List.mem_of_getElem? (i := 756) (by decide +kernel), List.mem_of_getElem? (i := 757) (by decide +kernel)⟩
theorem lw_p15 : lw_okq (⟨"HeavyPairs$Heaviest", "keepsTop", "(III)Z"⟩, 16) := ⟨⟨by decide +kernel, by decide +kernel⟩, List.mem_of_getElem? (i := 231) (by decide +kernel), List.mem_of_getElem? (i := 760) (by decide +kernel), List.mem_of_getElem? (i := 761) (by decide +kernel)⟩
def lw_privs_1 : List (MethodName × Nat) := [(⟨"HeavyPairs$Tape", "readChunk", "()V"⟩, 12), (⟨"HeavyPairs$NetworkText", "readLine", "(LHeavyPairs$Tape;)Z"⟩, 3), (⟨"HeavyPairs$NetworkText", "readPoint", "(LHeavyPairs$Tape;)Z"⟩, 3), (⟨"HeavyPairs$NetworkText", "readLink", "(LHeavyPairs$Tape;)Z"⟩, 3), (⟨"HeavyPairs$NetworkText", "readPair", "(LHeavyPairs$Tape;)Z"⟩, 3), (⟨"HeavyPairs$NetworkText", "readPrice", "(LHeavyPairs$Tape;)Z"⟩, 3), (⟨"HeavyPairs$NetworkText", "readSet", "(LHeavyPairs$Tape;)Z"⟩, 3), (⟨"HeavyPairs$Heaviest", "slotFor", "(II)I"⟩, 16), (⟨"HeavyPairs$Heaviest", "slotKnown", "(I)I"⟩, 16), (⟨"HeavyPairs$Heaviest", "startSlot", "(IZ)V"⟩, 16), (⟨"HeavyPairs$Heaviest", "addWays", "(IIII)V"⟩, 16), (⟨"HeavyPairs$Heaviest", "addTotal", "(II)V"⟩, 16), (⟨"HeavyPairs$Heaviest", "walkBest", "(II)V"⟩, 16), (⟨"HeavyPairs$Heaviest", "tallyChosen", "()V"⟩, 16), (⟨"HeavyPairs$Heaviest", "mayBe", "(II)Z"⟩, 16), (⟨"HeavyPairs$Heaviest", "keepsTop", "(III)Z"⟩, 16)]
theorem lw_r1 : ∀ q ∈ lw_privs_1, lw_okq q := List.forall_mem_cons.mpr ⟨lw_p0, List.forall_mem_cons.mpr ⟨lw_p1, List.forall_mem_cons.mpr ⟨lw_p2, List.forall_mem_cons.mpr ⟨lw_p3, List.forall_mem_cons.mpr ⟨lw_p4, List.forall_mem_cons.mpr ⟨lw_p5, List.forall_mem_cons.mpr ⟨lw_p6, List.forall_mem_cons.mpr ⟨lw_p7, List.forall_mem_cons.mpr ⟨lw_p8, List.forall_mem_cons.mpr ⟨lw_p9, List.forall_mem_cons.mpr ⟨lw_p10, List.forall_mem_cons.mpr ⟨lw_p11, List.forall_mem_cons.mpr ⟨lw_p12, List.forall_mem_cons.mpr ⟨lw_p13, List.forall_mem_cons.mpr ⟨lw_p14, List.forall_mem_cons.mpr ⟨lw_p15, fun _ h => absurd h List.not_mem_nil⟩⟩⟩⟩⟩⟩⟩⟩⟩⟩⟩⟩⟩⟩⟩⟩
theorem lw_p16 : lw_okq (⟨"HeavyPairs$Heaviest", "topFor", "(I)I"⟩, 16) := ⟨⟨by decide +kernel, by decide +kernel⟩, List.mem_of_getElem? (i := 231) (by decide +kernel), List.mem_of_getElem? (i := 764) (by decide +kernel), List.mem_of_getElem? (i := 765) (by decide +kernel)⟩
theorem lw_p17 : lw_okq (⟨"HeavyPairs$Heaviest", "choose", "(II)V"⟩, 16) := ⟨⟨by decide +kernel, by decide +kernel⟩, List.mem_of_getElem? (i := 231) (by decide +kernel), List.mem_of_getElem? (i := 768) (by decide +kernel), List.mem_of_getElem? (i := 769) (by decide +kernel)⟩
theorem lw_p18 : lw_okq (⟨"HeavyPairs$Heaviest", "tallyAt", "(II)I"⟩, 16) := ⟨⟨by decide +kernel, by decide +kernel⟩, List.mem_of_getElem? (i := 231) (by decide +kernel), List.mem_of_getElem? (i := 774) (by decide +kernel), List.mem_of_getElem? (i := 775) (by decide +kernel)⟩
theorem lw_p19 : lw_okq (⟨"HeavyPairs$Network", "fullPairs", "(I)I"⟩, 15) := ⟨⟨by decide +kernel, by decide +kernel⟩, List.mem_of_getElem? (i := 130) (by decide +kernel), List.mem_of_getElem? (i := 840) (by decide +kernel), List.mem_of_getElem? (i := 841) (by decide +kernel)⟩
theorem lw_p20 : lw_okq (⟨"HeavyPairs", "areTwo", "(II)Z"⟩, 19) := ⟨⟨by decide +kernel, by decide +kernel⟩, List.mem_of_getElem? (i := 26) (by decide +kernel), List.mem_of_getElem? (i := 862) (by decide +kernel), List.mem_of_getElem? (i := 863) (by decide +kernel)⟩
theorem lw_p21 : lw_okq (⟨"HeavyPairs", "keepIfDone", "(I)I"⟩, 19) := ⟨⟨by decide +kernel, by decide +kernel⟩, List.mem_of_getElem? (i := 26) (by decide +kernel), List.mem_of_getElem? (i := 876) (by decide +kernel), List.mem_of_getElem? (i := 877) (by decide +kernel)⟩
theorem lw_p22 : lw_okq (⟨"HeavyPairs$Search", "findRow", "(LHeavyPairs$Network;IIZ)Z"⟩, 2) := ⟨⟨by decide +kernel, by decide +kernel⟩, List.mem_of_getElem? (i := 200) (by decide +kernel), List.mem_of_getElem? (i := 934) (by decide +kernel), List.mem_of_getElem? (i := 935) (by decide +kernel)⟩
theorem lw_p23 : lw_okq (⟨"HeavyPairs$Search", "goOn", "(LHeavyPairs$Network;IIZ)Z"⟩, 2) := ⟨⟨by decide +kernel, by decide +kernel⟩, List.mem_of_getElem? (i := 200) (by decide +kernel), List.mem_of_getElem? (i := 946) (by decide +kernel), List.mem_of_getElem? (i := 947) (by decide +kernel)⟩
theorem lw_p24 : lw_okq (⟨"HeavyPairs$Network", "goesByPairs", "(LHeavyPairs$Row;)Z"⟩, 15) := ⟨⟨by decide +kernel, by decide +kernel⟩, List.mem_of_getElem? (i := 130) (by decide +kernel), List.mem_of_getElem? (i := 991) (by decide +kernel), List.mem_of_getElem? (i := 992) (by decide +kernel)⟩
theorem lw_p25 : lw_okq (⟨"HeavyPairs", "noteFlaw", "(III)I"⟩, 19) := ⟨⟨by decide +kernel, by decide +kernel⟩, List.mem_of_getElem? (i := 26) (by decide +kernel), List.mem_of_getElem? (i := 1035) (by decide +kernel), List.mem_of_getElem? (i := 1036) (by decide +kernel)⟩
theorem lw_p26 : lw_okq (⟨"HeavyPairs$Network", "otherEnd", "(II)I"⟩, 15) := ⟨⟨by decide +kernel, by decide +kernel⟩, List.mem_of_getElem? (i := 130) (by decide +kernel), List.mem_of_getElem? (i := 1065) (by decide +kernel), List.mem_of_getElem? (i := 1066) (by decide +kernel)⟩
theorem lw_p27 : lw_okq (⟨"HeavyPairs$Heaviest", "firstBestPartner", "(II)I"⟩, 16) := ⟨⟨by decide +kernel, by decide +kernel⟩, List.mem_of_getElem? (i := 231) (by decide +kernel), List.mem_of_getElem? (i := 1079) (by decide +kernel), List.mem_of_getElem? (i := 1080) (by decide +kernel)⟩
theorem lw_p28 : lw_okq (⟨"HeavyPairs$Search", "strokeOn", "(LHeavyPairs$Network;IIIII)V"⟩, 2) := ⟨⟨by decide +kernel, by decide +kernel⟩, List.mem_of_getElem? (i := 200) (by decide +kernel), List.mem_of_getElem? (i := 1126) (by decide +kernel), List.mem_of_getElem? (i := 1127) (by decide +kernel)⟩
theorem lw_p29 : lw_okq (⟨"HeavyPairs", "isAsking", "()Z"⟩, 19) := ⟨⟨by decide +kernel, by decide +kernel⟩, List.mem_of_getElem? (i := 26) (by decide +kernel), List.mem_of_getElem? (i := 1137) (by decide +kernel), List.mem_of_getElem? (i := 1138) (by decide +kernel)⟩
theorem lw_p30 : lw_okq (⟨"HeavyPairs$Draws", "isDone", "(LHeavyPairs$Network;LHeavyPairs$Search;)Z"⟩, 1) := ⟨⟨by decide +kernel, by decide +kernel⟩, List.mem_of_getElem? (i := 374) (by decide +kernel), List.mem_of_getElem? (i := 1198) (by decide +kernel), List.mem_of_getElem? (i := 1199) (by decide +kernel)⟩
theorem lw_p31 : lw_okq (⟨"HeavyPairs$Draws", "draw", "(I)I"⟩, 1) := ⟨⟨by decide +kernel, by decide +kernel⟩, List.mem_of_getElem? (i := 374) (by decide +kernel), List.mem_of_getElem? (i := 1202) (by decide +kernel), List.mem_of_getElem? (i := 1203) (by decide +kernel)⟩
def lw_privs_2 : List (MethodName × Nat) := [(⟨"HeavyPairs$Heaviest", "topFor", "(I)I"⟩, 16), (⟨"HeavyPairs$Heaviest", "choose", "(II)V"⟩, 16), (⟨"HeavyPairs$Heaviest", "tallyAt", "(II)I"⟩, 16), (⟨"HeavyPairs$Network", "fullPairs", "(I)I"⟩, 15), (⟨"HeavyPairs", "areTwo", "(II)Z"⟩, 19), (⟨"HeavyPairs", "keepIfDone", "(I)I"⟩, 19), (⟨"HeavyPairs$Search", "findRow", "(LHeavyPairs$Network;IIZ)Z"⟩, 2), (⟨"HeavyPairs$Search", "goOn", "(LHeavyPairs$Network;IIZ)Z"⟩, 2), (⟨"HeavyPairs$Network", "goesByPairs", "(LHeavyPairs$Row;)Z"⟩, 15), (⟨"HeavyPairs", "noteFlaw", "(III)I"⟩, 19), (⟨"HeavyPairs$Network", "otherEnd", "(II)I"⟩, 15), (⟨"HeavyPairs$Heaviest", "firstBestPartner", "(II)I"⟩, 16), (⟨"HeavyPairs$Search", "strokeOn", "(LHeavyPairs$Network;IIIII)V"⟩, 2), (⟨"HeavyPairs", "isAsking", "()Z"⟩, 19), (⟨"HeavyPairs$Draws", "isDone", "(LHeavyPairs$Network;LHeavyPairs$Search;)Z"⟩, 1), (⟨"HeavyPairs$Draws", "draw", "(I)I"⟩, 1)]
theorem lw_r2 : ∀ q ∈ lw_privs_2, lw_okq q := List.forall_mem_cons.mpr ⟨lw_p16, List.forall_mem_cons.mpr ⟨lw_p17, List.forall_mem_cons.mpr ⟨lw_p18, List.forall_mem_cons.mpr ⟨lw_p19, List.forall_mem_cons.mpr ⟨lw_p20, List.forall_mem_cons.mpr ⟨lw_p21, List.forall_mem_cons.mpr ⟨lw_p22, List.forall_mem_cons.mpr ⟨lw_p23, List.forall_mem_cons.mpr ⟨lw_p24, List.forall_mem_cons.mpr ⟨lw_p25, List.forall_mem_cons.mpr ⟨lw_p26, List.forall_mem_cons.mpr ⟨lw_p27, List.forall_mem_cons.mpr ⟨lw_p28, List.forall_mem_cons.mpr ⟨lw_p29, List.forall_mem_cons.mpr ⟨lw_p30, List.forall_mem_cons.mpr ⟨lw_p31, fun _ h => absurd h List.not_mem_nil⟩⟩⟩⟩⟩⟩⟩⟩⟩⟩⟩⟩⟩⟩⟩⟩
theorem lw_p32 : lw_okq (⟨"HeavyPairs$Draws", "weighOne", "(LHeavyPairs$Network;)Z"⟩, 1) := ⟨⟨by decide +kernel, by decide +kernel⟩, List.mem_of_getElem? (i := 374) (by decide +kernel), List.mem_of_getElem? (i := 1214) (by decide +kernel), List.mem_of_getElem? (i := 1215) (by decide +kernel)⟩
theorem lw_p33 : lw_okq (⟨"HeavyPairs$Draws", "crownOne", "(LHeavyPairs$Network;)Z"⟩, 1) := ⟨⟨by decide +kernel, by decide +kernel⟩, List.mem_of_getElem? (i := 374) (by decide +kernel), List.mem_of_getElem? (i := 1228) (by decide +kernel), List.mem_of_getElem? (i := 1229) (by decide +kernel)⟩
theorem lw_p34 : lw_okq (⟨"HeavyPairs$Book", "readLine", "(LHeavyPairs$Tape;LHeavyPairs$Network;)Z"⟩, 10) := ⟨⟨by decide +kernel, by decide +kernel⟩, List.mem_of_getElem? (i := 307) (by decide +kernel), List.mem_of_getElem? (i := 1247) (by decide +kernel), List.mem_of_getElem? (i := 1248) (by decide +kernel)⟩
theorem lw_p35 : lw_okq (⟨"HeavyPairs$Book", "readTwo", "(LHeavyPairs$Tape;LHeavyPairs$Network;)Z"⟩, 10) := ⟨⟨by decide +kernel, by decide +kernel⟩, List.mem_of_getElem? (i := 307) (by decide +kernel), List.mem_of_getElem? (i := 1256) (by decide +kernel), List.mem_of_getElem? (i := 1257) (by decide +kernel)⟩
theorem lw_p36 : lw_okq (⟨"HeavyPairs$Book", "readFirst", "(LHeavyPairs$Tape;LHeavyPairs$Network;)Z"⟩, 10) := ⟨⟨by decide +kernel, by decide +kernel⟩, List.mem_of_getElem? (i := 307) (by decide +kernel), List.mem_of_getElem? (i := 1260) (by decide +kernel), List.mem_of_getElem? (i := 1261) (by decide +kernel)⟩
theorem lw_p37 : lw_okq (⟨"HeavyPairs$Book", "readThird", "(LHeavyPairs$Tape;II)Z"⟩, 10) := ⟨⟨by decide +kernel, by decide +kernel⟩, List.mem_of_getElem? (i := 307) (by decide +kernel), List.mem_of_getElem? (i := 1266) (by decide +kernel), List.mem_of_getElem? (i := 1267) (by decide +kernel)⟩
theorem lw_p38 : lw_okq (⟨"HeavyPairs$Book", "readNumber", "(LHeavyPairs$Tape;)Z"⟩, 10) := ⟨⟨by decide +kernel, by decide +kernel⟩, List.mem_of_getElem? (i := 307) (by decide +kernel), List.mem_of_getElem? (i := 1271) (by decide +kernel), List.mem_of_getElem? (i := 1272) (by decide +kernel)⟩
theorem lw_p39 : lw_okq (⟨"HeavyPairs$Book", "live", "(ILHeavyPairs$Network;LHeavyPairs$Search;)I"⟩, 10) := ⟨⟨by decide +kernel, by decide +kernel⟩, List.mem_of_getElem? (i := 307) (by decide +kernel), List.mem_of_getElem? (i := 1281) (by decide +kernel), List.mem_of_getElem? (i := 1282) (by decide +kernel)⟩
theorem lw_p40 : lw_okq (⟨"HeavyPairs$Saying", "readCond", "(LHeavyPairs$Tape;LHeavyPairs$Network;I)Z"⟩, 7) := ⟨⟨by decide +kernel, by decide +kernel⟩, List.mem_of_getElem? (i := 344) (by decide +kernel), List.mem_of_getElem? (i := 1316) (by decide +kernel), List.mem_of_getElem? (i := 1317) (by decide +kernel)⟩
theorem lw_p41 : lw_okq (⟨"HeavyPairs$Saying", "readAll", "(LHeavyPairs$Tape;LHeavyPairs$Network;I)Z"⟩, 7) := ⟨⟨by decide +kernel, by decide +kernel⟩, List.mem_of_getElem? (i := 344) (by decide +kernel), List.mem_of_getElem? (i := 1320) (by decide +kernel), List.mem_of_getElem? (i := 1321) (by decide +kernel)⟩
theorem lw_p42 : lw_okq (⟨"HeavyPairs$Saying", "readOne", "(LHeavyPairs$Tape;LHeavyPairs$Network;I)Z"⟩, 7) := ⟨⟨by decide +kernel, by decide +kernel⟩, List.mem_of_getElem? (i := 344) (by decide +kernel), List.mem_of_getElem? (i := 1324) (by decide +kernel), List.mem_of_getElem? (i := 1325) (by decide +kernel)⟩
theorem lw_p43 : lw_okq (⟨"HeavyPairs$Saying", "put", "(III)Z"⟩, 7) := ⟨⟨by decide +kernel, by decide +kernel⟩, List.mem_of_getElem? (i := 344) (by decide +kernel), List.mem_of_getElem? (i := 1331) (by decide +kernel), List.mem_of_getElem? (i := 1332) (by decide +kernel)⟩
theorem lw_p44 : lw_okq (⟨"HeavyPairs$Saying", "putIfRead", "(III)Z"⟩, 7) := ⟨⟨by decide +kernel, by decide +kernel⟩, List.mem_of_getElem? (i := 344) (by decide +kernel), List.mem_of_getElem? (i := 1337) (by decide +kernel), List.mem_of_getElem? (i := 1338) (by decide +kernel)⟩
theorem lw_p45 : lw_okq (⟨"HeavyPairs", "pictureAt", "(I)LHeavyPairs$Picture;"⟩, 19) := ⟨⟨by decide +kernel, by decide +kernel⟩, List.mem_of_getElem? (i := 26) (by decide +kernel), List.mem_of_getElem? (i := 1393) (by decide +kernel), List.mem_of_getElem? (i := 1394) (by decide +kernel)⟩
theorem lw_p46 : lw_okq (⟨"java/lang/Throwable", "fillInStackTrace", "(I)Ljava/lang/Throwable;"⟩, 6) := ⟨⟨by decide +kernel, by decide +kernel⟩, List.mem_of_getElem? (i := 1462) (by decide +kernel), List.mem_of_getElem? (i := 1460) (by decide +kernel), List.mem_of_getElem? (i := 1461) (by decide +kernel)⟩
theorem lw_p47 : lw_okq (⟨"HeavyPairsModel", "come", "(I)V"⟩, 62) := ⟨⟨by decide +kernel, by decide +kernel⟩, List.mem_of_getElem? (i := 1531) (by decide +kernel), List.mem_of_getElem? (i := 1529) (by decide +kernel), List.mem_of_getElem? (i := 1530) (by decide +kernel)⟩
def lw_privs_3 : List (MethodName × Nat) := [(⟨"HeavyPairs$Draws", "weighOne", "(LHeavyPairs$Network;)Z"⟩, 1), (⟨"HeavyPairs$Draws", "crownOne", "(LHeavyPairs$Network;)Z"⟩, 1), (⟨"HeavyPairs$Book", "readLine", "(LHeavyPairs$Tape;LHeavyPairs$Network;)Z"⟩, 10), (⟨"HeavyPairs$Book", "readTwo", "(LHeavyPairs$Tape;LHeavyPairs$Network;)Z"⟩, 10), (⟨"HeavyPairs$Book", "readFirst", "(LHeavyPairs$Tape;LHeavyPairs$Network;)Z"⟩, 10), (⟨"HeavyPairs$Book", "readThird", "(LHeavyPairs$Tape;II)Z"⟩, 10), (⟨"HeavyPairs$Book", "readNumber", "(LHeavyPairs$Tape;)Z"⟩, 10), (⟨"HeavyPairs$Book", "live", "(ILHeavyPairs$Network;LHeavyPairs$Search;)I"⟩, 10), (⟨"HeavyPairs$Saying", "readCond", "(LHeavyPairs$Tape;LHeavyPairs$Network;I)Z"⟩, 7), (⟨"HeavyPairs$Saying", "readAll", "(LHeavyPairs$Tape;LHeavyPairs$Network;I)Z"⟩, 7), (⟨"HeavyPairs$Saying", "readOne", "(LHeavyPairs$Tape;LHeavyPairs$Network;I)Z"⟩, 7), (⟨"HeavyPairs$Saying", "put", "(III)Z"⟩, 7), (⟨"HeavyPairs$Saying", "putIfRead", "(III)Z"⟩, 7), (⟨"HeavyPairs", "pictureAt", "(I)LHeavyPairs$Picture;"⟩, 19), (⟨"java/lang/Throwable", "fillInStackTrace", "(I)Ljava/lang/Throwable;"⟩, 6), (⟨"HeavyPairsModel", "come", "(I)V"⟩, 62)]
theorem lw_r3 : ∀ q ∈ lw_privs_3, lw_okq q := List.forall_mem_cons.mpr ⟨lw_p32, List.forall_mem_cons.mpr ⟨lw_p33, List.forall_mem_cons.mpr ⟨lw_p34, List.forall_mem_cons.mpr ⟨lw_p35, List.forall_mem_cons.mpr ⟨lw_p36, List.forall_mem_cons.mpr ⟨lw_p37, List.forall_mem_cons.mpr ⟨lw_p38, List.forall_mem_cons.mpr ⟨lw_p39, List.forall_mem_cons.mpr ⟨lw_p40, List.forall_mem_cons.mpr ⟨lw_p41, List.forall_mem_cons.mpr ⟨lw_p42, List.forall_mem_cons.mpr ⟨lw_p43, List.forall_mem_cons.mpr ⟨lw_p44, List.forall_mem_cons.mpr ⟨lw_p45, List.forall_mem_cons.mpr ⟨lw_p46, List.forall_mem_cons.mpr ⟨lw_p47, fun _ h => absurd h List.not_mem_nil⟩⟩⟩⟩⟩⟩⟩⟩⟩⟩⟩⟩⟩⟩⟩⟩
theorem lw_p48 : lw_okq (⟨"HeavyPairsModel", "startSo", "()V"⟩, 62) := ⟨⟨by decide +kernel, by decide +kernel⟩, List.mem_of_getElem? (i := 1531) (by decide +kernel), List.mem_of_getElem? (i := 1543) (by decide +kernel), List.mem_of_getElem? (i := 1544) (by decide +kernel)⟩
theorem lw_p49 : lw_okq (⟨"HeavyPairsModel", "begin", "(I)V"⟩, 62) := ⟨⟨by decide +kernel, by decide +kernel⟩, List.mem_of_getElem? (i := 1531) (by decide +kernel), List.mem_of_getElem? (i := 1739) (by decide +kernel), List.mem_of_getElem? (i := 1740) (by decide +kernel)⟩
theorem lw_p50 : lw_okq (⟨"HeavyPairsModel", "take", "()I"⟩, 62) := ⟨⟨by decide +kernel, by decide +kernel⟩, List.mem_of_getElem? (i := 1531) (by decide +kernel), List.mem_of_getElem? (i := 1743) (by decide +kernel), List.mem_of_getElem? (i := 1744) (by decide +kernel)⟩
theorem lw_p51 : lw_okq (⟨"HeavyPairsModel", "go", "()V"⟩, 62) := ⟨⟨by decide +kernel, by decide +kernel⟩, List.mem_of_getElem? (i := 1531) (by decide +kernel), List.mem_of_getElem? (i := 1747) (by decide +kernel), List.mem_of_getElem? (i := 1748) (by decide +kernel)⟩
theorem lw_p52 : lw_okq (⟨"HeavyPairsModel", "tapeAt", "(I)I"⟩, 62) := ⟨⟨by decide +kernel, by decide +kernel⟩, List.mem_of_getElem? (i := 1531) (by decide +kernel), List.mem_of_getElem? (i := 1757) (by decide +kernel), List.mem_of_getElem? (i := 1758) (by decide +kernel)⟩
theorem lw_p53 : lw_okq (⟨"HeavyPairsModel", "readLine", "()Z"⟩, 62) := ⟨⟨by decide +kernel, by decide +kernel⟩, List.mem_of_getElem? (i := 1531) (by decide +kernel), List.mem_of_getElem? (i := 1763) (by decide +kernel), List.mem_of_getElem? (i := 1764) (by decide +kernel)⟩
theorem lw_p54 : lw_okq (⟨"HeavyPairsModel", "isWord", "(I)Z"⟩, 62) := ⟨⟨by decide +kernel, by decide +kernel⟩, List.mem_of_getElem? (i := 1531) (by decide +kernel), List.mem_of_getElem? (i := 1767) (by decide +kernel), List.mem_of_getElem? (i := 1768) (by decide +kernel)⟩
theorem lw_p55 : lw_okq (⟨"HeavyPairsModel", "readPoint", "()Z"⟩, 62) := ⟨⟨by decide +kernel, by decide +kernel⟩, List.mem_of_getElem? (i := 1531) (by decide +kernel), List.mem_of_getElem? (i := 1777) (by decide +kernel), List.mem_of_getElem? (i := 1778) (by decide +kernel)⟩
theorem lw_p56 : lw_okq (⟨"HeavyPairsModel", "readFirst", "(II)Z"⟩, 62) := ⟨⟨by decide +kernel, by decide +kernel⟩, List.mem_of_getElem? (i := 1531) (by decide +kernel), List.mem_of_getElem? (i := 1781) (by decide +kernel), List.mem_of_getElem? (i := 1782) (by decide +kernel)⟩
theorem lw_p57 : lw_okq (⟨"HeavyPairsModel", "bad", "(I)Z"⟩, 62) := ⟨⟨by decide +kernel, by decide +kernel⟩, List.mem_of_getElem? (i := 1531) (by decide +kernel), List.mem_of_getElem? (i := 1785) (by decide +kernel), List.mem_of_getElem? (i := 1786) (by decide +kernel)⟩
theorem lw_p58 : lw_okq (⟨"HeavyPairsModel", "isName", "()Z"⟩, 62) := ⟨⟨by decide +kernel, by decide +kernel⟩, List.mem_of_getElem? (i := 1531) (by decide +kernel), List.mem_of_getElem? (i := 1789) (by decide +kernel), List.mem_of_getElem? (i := 1790) (by decide +kernel)⟩
theorem lw_p59 : lw_okq (⟨"HeavyPairsModel", "readLink", "()Z"⟩, 62) := ⟨⟨by decide +kernel, by decide +kernel⟩, List.mem_of_getElem? (i := 1531) (by decide +kernel), List.mem_of_getElem? (i := 1796) (by decide +kernel), List.mem_of_getElem? (i := 1797) (by decide +kernel)⟩
theorem lw_p60 : lw_okq (⟨"HeavyPairsModel", "isHere", "()Z"⟩, 62) := ⟨⟨by decide +kernel, by decide +kernel⟩, List.mem_of_getElem? (i := 1531) (by decide +kernel), List.mem_of_getElem? (i := 1800) (by decide +kernel), List.mem_of_getElem? (i := 1801) (by decide +kernel)⟩
theorem lw_p61 : lw_okq (⟨"HeavyPairsModel", "readNumber", "(II)Z"⟩, 62) := ⟨⟨by decide +kernel, by decide +kernel⟩, List.mem_of_getElem? (i := 1531) (by decide +kernel), List.mem_of_getElem? (i := 1807) (by decide +kernel), List.mem_of_getElem? (i := 1808) (by decide +kernel)⟩
theorem lw_p62 : lw_okq (⟨"HeavyPairsModel", "noted", "(IZ)Z"⟩, 62) := ⟨⟨by decide +kernel, by decide +kernel⟩, List.mem_of_getElem? (i := 1531) (by decide +kernel), List.mem_of_getElem? (i := 1814) (by decide +kernel), List.mem_of_getElem? (i := 1815) (by decide +kernel)⟩
theorem lw_p63 : lw_okq (⟨"HeavyPairsModel", "readPair", "()Z"⟩, 62) := ⟨⟨by decide +kernel, by decide +kernel⟩, List.mem_of_getElem? (i := 1531) (by decide +kernel), List.mem_of_getElem? (i := 1818) (by decide +kernel), List.mem_of_getElem? (i := 1819) (by decide +kernel)⟩
def lw_privs_4 : List (MethodName × Nat) := [(⟨"HeavyPairsModel", "startSo", "()V"⟩, 62), (⟨"HeavyPairsModel", "begin", "(I)V"⟩, 62), (⟨"HeavyPairsModel", "take", "()I"⟩, 62), (⟨"HeavyPairsModel", "go", "()V"⟩, 62), (⟨"HeavyPairsModel", "tapeAt", "(I)I"⟩, 62), (⟨"HeavyPairsModel", "readLine", "()Z"⟩, 62), (⟨"HeavyPairsModel", "isWord", "(I)Z"⟩, 62), (⟨"HeavyPairsModel", "readPoint", "()Z"⟩, 62), (⟨"HeavyPairsModel", "readFirst", "(II)Z"⟩, 62), (⟨"HeavyPairsModel", "bad", "(I)Z"⟩, 62), (⟨"HeavyPairsModel", "isName", "()Z"⟩, 62), (⟨"HeavyPairsModel", "readLink", "()Z"⟩, 62), (⟨"HeavyPairsModel", "isHere", "()Z"⟩, 62), (⟨"HeavyPairsModel", "readNumber", "(II)Z"⟩, 62), (⟨"HeavyPairsModel", "noted", "(IZ)Z"⟩, 62), (⟨"HeavyPairsModel", "readPair", "()Z"⟩, 62)]
theorem lw_r4 : ∀ q ∈ lw_privs_4, lw_okq q := List.forall_mem_cons.mpr ⟨lw_p48, List.forall_mem_cons.mpr ⟨lw_p49, List.forall_mem_cons.mpr ⟨lw_p50, List.forall_mem_cons.mpr ⟨lw_p51, List.forall_mem_cons.mpr ⟨lw_p52, List.forall_mem_cons.mpr ⟨lw_p53, List.forall_mem_cons.mpr ⟨lw_p54, List.forall_mem_cons.mpr ⟨lw_p55, List.forall_mem_cons.mpr ⟨lw_p56, List.forall_mem_cons.mpr ⟨lw_p57, List.forall_mem_cons.mpr ⟨lw_p58, List.forall_mem_cons.mpr ⟨lw_p59, List.forall_mem_cons.mpr ⟨lw_p60, List.forall_mem_cons.mpr ⟨lw_p61, List.forall_mem_cons.mpr ⟨lw_p62, List.forall_mem_cons.mpr ⟨lw_p63, fun _ h => absurd h List.not_mem_nil⟩⟩⟩⟩⟩⟩⟩⟩⟩⟩⟩⟩⟩⟩⟩⟩
theorem lw_p64 : lw_okq (⟨"HeavyPairsModel", "readPrice", "()Z"⟩, 62) := ⟨⟨by decide +kernel, by decide +kernel⟩, List.mem_of_getElem? (i := 1531) (by decide +kernel), List.mem_of_getElem? (i := 1822) (by decide +kernel), List.mem_of_getElem? (i := 1823) (by decide +kernel)⟩
theorem lw_p65 : lw_okq (⟨"HeavyPairsModel", "readOdd", "()Z"⟩, 62) := ⟨⟨by decide +kernel, by decide +kernel⟩, List.mem_of_getElem? (i := 1531) (by decide +kernel), List.mem_of_getElem? (i := 1826) (by decide +kernel), List.mem_of_getElem? (i := 1827) (by decide +kernel)⟩
theorem lw_p66 : lw_okq (⟨"HeavyPairsModel", "isSign", "(I)Z"⟩, 62) := ⟨⟨by decide +kernel, by decide +kernel⟩, List.mem_of_getElem? (i := 1531) (by decide +kernel), List.mem_of_getElem? (i := 1833) (by decide +kernel), List.mem_of_getElem? (i := 1834) (by decide +kernel)⟩
theorem lw_p67 : lw_okq (⟨"HeavyPairsModel", "isOddIn", "([IIII)Z"⟩, 62) := ⟨⟨by decide +kernel, by decide +kernel⟩, List.mem_of_getElem? (i := 1531) (by decide +kernel), List.mem_of_getElem? (i := 1837) (by decide +kernel), List.mem_of_getElem? (i := 1838) (by decide +kernel)⟩
theorem lw_p68 : lw_okq (⟨"HeavyPairsModel", "readEnd", "()Z"⟩, 62) := ⟨⟨by decide +kernel, by decide +kernel⟩, List.mem_of_getElem? (i := 1531) (by decide +kernel), List.mem_of_getElem? (i := 1841) (by decide +kernel), List.mem_of_getElem? (i := 1842) (by decide +kernel)⟩
theorem lw_p69 : lw_okq (⟨"HeavyPairsModel", "isPoint", "(I)Z"⟩, 62) := ⟨⟨by decide +kernel, by decide +kernel⟩, List.mem_of_getElem? (i := 1531) (by decide +kernel), List.mem_of_getElem? (i := 1853) (by decide +kernel), List.mem_of_getElem? (i := 1854) (by decide +kernel)⟩
theorem lw_p70 : lw_okq (⟨"HeavyPairsModel", "refuse", "()I"⟩, 62) := ⟨⟨by decide +kernel, by decide +kernel⟩, List.mem_of_getElem? (i := 1531) (by decide +kernel), List.mem_of_getElem? (i := 1857) (by decide +kernel), List.mem_of_getElem? (i := 1858) (by decide +kernel)⟩
theorem lw_p71 : lw_okq (⟨"HeavyPairsModel", "partners", "(IZ)I"⟩, 62) := ⟨⟨by decide +kernel, by decide +kernel⟩, List.mem_of_getElem? (i := 1531) (by decide +kernel), List.mem_of_getElem? (i := 1861) (by decide +kernel), List.mem_of_getElem? (i := 1862) (by decide +kernel)⟩
theorem lw_p72 : lw_okq (⟨"HeavyPairsModel", "isAt", "(II)Z"⟩, 62) := ⟨⟨by decide +kernel, by decide +kernel⟩, List.mem_of_getElem? (i := 1531) (by decide +kernel), List.mem_of_getElem? (i := 1865) (by decide +kernel), List.mem_of_getElem? (i := 1866) (by decide +kernel)⟩
theorem lw_p73 : lw_okq (⟨"HeavyPairsModel", "slackOf", "(I)I"⟩, 62) := ⟨⟨by decide +kernel, by decide +kernel⟩, List.mem_of_getElem? (i := 1531) (by decide +kernel), List.mem_of_getElem? (i := 1869) (by decide +kernel), List.mem_of_getElem? (i := 1870) (by decide +kernel)⟩
theorem lw_p74 : lw_okq (⟨"HeavyPairsModel", "isLink", "(I)Z"⟩, 62) := ⟨⟨by decide +kernel, by decide +kernel⟩, List.mem_of_getElem? (i := 1531) (by decide +kernel), List.mem_of_getElem? (i := 1877) (by decide +kernel), List.mem_of_getElem? (i := 1878) (by decide +kernel)⟩
theorem lw_p75 : lw_okq (⟨"HeavyPairsModel", "isOfPair", "(I)Z"⟩, 62) := ⟨⟨by decide +kernel, by decide +kernel⟩, List.mem_of_getElem? (i := 1531) (by decide +kernel), List.mem_of_getElem? (i := 1881) (by decide +kernel), List.mem_of_getElem? (i := 1882) (by decide +kernel)⟩
theorem lw_p76 : lw_okq (⟨"HeavyPairsModel", "arePaired", "(II)Z"⟩, 62) := ⟨⟨by decide +kernel, by decide +kernel⟩, List.mem_of_getElem? (i := 1531) (by decide +kernel), List.mem_of_getElem? (i := 1885) (by decide +kernel), List.mem_of_getElem? (i := 1886) (by decide +kernel)⟩
theorem lw_p77 : lw_okq (⟨"HeavyPairsModel", "fateOf", "(I)I"⟩, 62) := ⟨⟨by decide +kernel, by decide +kernel⟩, List.mem_of_getElem? (i := 1531) (by decide +kernel), List.mem_of_getElem? (i := 1889) (by decide +kernel), List.mem_of_getElem? (i := 1890) (by decide +kernel)⟩
theorem lw_p78 : lw_okq (⟨"HeavyPairsModel", "surveyMost", "()V"⟩, 62) := ⟨⟨by decide +kernel, by decide +kernel⟩, List.mem_of_getElem? (i := 1531) (by decide +kernel), List.mem_of_getElem? (i := 1893) (by decide +kernel), List.mem_of_getElem? (i := 1894) (by decide +kernel)⟩
theorem lw_p79 : lw_okq (⟨"HeavyPairsModel", "survey", "()V"⟩, 62) := ⟨⟨by decide +kernel, by decide +kernel⟩, List.mem_of_getElem? (i := 1531) (by decide +kernel), List.mem_of_getElem? (i := 1897) (by decide +kernel), List.mem_of_getElem? (i := 1898) (by decide +kernel)⟩
def lw_privs_5 : List (MethodName × Nat) := [(⟨"HeavyPairsModel", "readPrice", "()Z"⟩, 62), (⟨"HeavyPairsModel", "readOdd", "()Z"⟩, 62), (⟨"HeavyPairsModel", "isSign", "(I)Z"⟩, 62), (⟨"HeavyPairsModel", "isOddIn", "([IIII)Z"⟩, 62), (⟨"HeavyPairsModel", "readEnd", "()Z"⟩, 62), (⟨"HeavyPairsModel", "isPoint", "(I)Z"⟩, 62), (⟨"HeavyPairsModel", "refuse", "()I"⟩, 62), (⟨"HeavyPairsModel", "partners", "(IZ)I"⟩, 62), (⟨"HeavyPairsModel", "isAt", "(II)Z"⟩, 62), (⟨"HeavyPairsModel", "slackOf", "(I)I"⟩, 62), (⟨"HeavyPairsModel", "isLink", "(I)Z"⟩, 62), (⟨"HeavyPairsModel", "isOfPair", "(I)Z"⟩, 62), (⟨"HeavyPairsModel", "arePaired", "(II)Z"⟩, 62), (⟨"HeavyPairsModel", "fateOf", "(I)I"⟩, 62), (⟨"HeavyPairsModel", "surveyMost", "()V"⟩, 62), (⟨"HeavyPairsModel", "survey", "()V"⟩, 62)]
theorem lw_r5 : ∀ q ∈ lw_privs_5, lw_okq q := List.forall_mem_cons.mpr ⟨lw_p64, List.forall_mem_cons.mpr ⟨lw_p65, List.forall_mem_cons.mpr ⟨lw_p66, List.forall_mem_cons.mpr ⟨lw_p67, List.forall_mem_cons.mpr ⟨lw_p68, List.forall_mem_cons.mpr ⟨lw_p69, List.forall_mem_cons.mpr ⟨lw_p70, List.forall_mem_cons.mpr ⟨lw_p71, List.forall_mem_cons.mpr ⟨lw_p72, List.forall_mem_cons.mpr ⟨lw_p73, List.forall_mem_cons.mpr ⟨lw_p74, List.forall_mem_cons.mpr ⟨lw_p75, List.forall_mem_cons.mpr ⟨lw_p76, List.forall_mem_cons.mpr ⟨lw_p77, List.forall_mem_cons.mpr ⟨lw_p78, List.forall_mem_cons.mpr ⟨lw_p79, fun _ h => absurd h List.not_mem_nil⟩⟩⟩⟩⟩⟩⟩⟩⟩⟩⟩⟩⟩⟩⟩⟩
theorem lw_p80 : lw_okq (⟨"HeavyPairsModel", "walk", "(III)V"⟩, 62) := ⟨⟨by decide +kernel, by decide +kernel⟩, List.mem_of_getElem? (i := 1531) (by decide +kernel), List.mem_of_getElem? (i := 1901) (by decide +kernel), List.mem_of_getElem? (i := 1902) (by decide +kernel)⟩
theorem lw_p81 : lw_okq (⟨"HeavyPairsModel", "leaf", "(II)V"⟩, 62) := ⟨⟨by decide +kernel, by decide +kernel⟩, List.mem_of_getElem? (i := 1531) (by decide +kernel), List.mem_of_getElem? (i := 1905) (by decide +kernel), List.mem_of_getElem? (i := 1906) (by decide +kernel)⟩
theorem lw_p82 : lw_okq (⟨"HeavyPairsModel", "isAsked", "()Z"⟩, 62) := ⟨⟨by decide +kernel, by decide +kernel⟩, List.mem_of_getElem? (i := 1531) (by decide +kernel), List.mem_of_getElem? (i := 1909) (by decide +kernel), List.mem_of_getElem? (i := 1910) (by decide +kernel)⟩
theorem lw_p83 : lw_okq (⟨"HeavyPairsModel", "areLinked", "(II)Z"⟩, 62) := ⟨⟨by decide +kernel, by decide +kernel⟩, List.mem_of_getElem? (i := 1531) (by decide +kernel), List.mem_of_getElem? (i := 1913) (by decide +kernel), List.mem_of_getElem? (i := 1914) (by decide +kernel)⟩
theorem lw_p84 : lw_okq (⟨"HeavyPairsModel", "between", "(II)I"⟩, 62) := ⟨⟨by decide +kernel, by decide +kernel⟩, List.mem_of_getElem? (i := 1531) (by decide +kernel), List.mem_of_getElem? (i := 1917) (by decide +kernel), List.mem_of_getElem? (i := 1918) (by decide +kernel)⟩
theorem lw_p85 : lw_okq (⟨"HeavyPairsModel", "isOdd", "(I)Z"⟩, 62) := ⟨⟨by decide +kernel, by decide +kernel⟩, List.mem_of_getElem? (i := 1531) (by decide +kernel), List.mem_of_getElem? (i := 1929) (by decide +kernel), List.mem_of_getElem? (i := 1930) (by decide +kernel)⟩
theorem lw_p86 : lw_okq (⟨"HeavyPairsModel", "pairsIn", "(I)I"⟩, 62) := ⟨⟨by decide +kernel, by decide +kernel⟩, List.mem_of_getElem? (i := 1531) (by decide +kernel), List.mem_of_getElem? (i := 1933) (by decide +kernel), List.mem_of_getElem? (i := 1934) (by decide +kernel)⟩
theorem lw_p87 : lw_okq (⟨"HeavyPairsModel", "totalNow", "()I"⟩, 62) := ⟨⟨by decide +kernel, by decide +kernel⟩, List.mem_of_getElem? (i := 1531) (by decide +kernel), List.mem_of_getElem? (i := 1941) (by decide +kernel), List.mem_of_getElem? (i := 1942) (by decide +kernel)⟩
theorem lw_p88 : lw_okq (⟨"HeavyPairsModel", "pairMany", "()I"⟩, 62) := ⟨⟨by decide +kernel, by decide +kernel⟩, List.mem_of_getElem? (i := 1531) (by decide +kernel), List.mem_of_getElem? (i := 1945) (by decide +kernel), List.mem_of_getElem? (i := 1946) (by decide +kernel)⟩
theorem lw_p89 : lw_okq (⟨"HeavyPairsModel", "isLone", "(I)Z"⟩, 62) := ⟨⟨by decide +kernel, by decide +kernel⟩, List.mem_of_getElem? (i := 1531) (by decide +kernel), List.mem_of_getElem? (i := 1949) (by decide +kernel), List.mem_of_getElem? (i := 1950) (by decide +kernel)⟩
theorem lw_p90 : lw_okq (⟨"HeavyPairsModel", "boundNow", "()I"⟩, 62) := ⟨⟨by decide +kernel, by decide +kernel⟩, List.mem_of_getElem? (i := 1531) (by decide +kernel), List.mem_of_getElem? (i := 1953) (by decide +kernel), List.mem_of_getElem? (i := 1954) (by decide +kernel)⟩
theorem lw_p91 : lw_okq (⟨"HeavyPairsModel", "layPath", "(I)I"⟩, 62) := ⟨⟨by decide +kernel, by decide +kernel⟩, List.mem_of_getElem? (i := 1531) (by decide +kernel), List.mem_of_getElem? (i := 1964) (by decide +kernel), List.mem_of_getElem? (i := 1965) (by decide +kernel)⟩
theorem lw_p92 : lw_okq (⟨"HeavyPairsModel", "goesOn", "(III)Z"⟩, 62) := ⟨⟨by decide +kernel, by decide +kernel⟩, List.mem_of_getElem? (i := 1531) (by decide +kernel), List.mem_of_getElem? (i := 1968) (by decide +kernel), List.mem_of_getElem? (i := 1969) (by decide +kernel)⟩
theorem lw_p93 : lw_okq (⟨"HeavyPairsModel", "flowers", "(III)Z"⟩, 62) := ⟨⟨by decide +kernel, by decide +kernel⟩, List.mem_of_getElem? (i := 1531) (by decide +kernel), List.mem_of_getElem? (i := 1980) (by decide +kernel), List.mem_of_getElem? (i := 1981) (by decide +kernel)⟩
theorem lw_p94 : lw_okq (⟨"HeavyPairsModel", "areTwo", "(II)Z"⟩, 62) := ⟨⟨by decide +kernel, by decide +kernel⟩, List.mem_of_getElem? (i := 1531) (by decide +kernel), List.mem_of_getElem? (i := 1992) (by decide +kernel), List.mem_of_getElem? (i := 1993) (by decide +kernel)⟩
theorem lw_p95 : lw_okq (⟨"HeavyPairsModel", "act", "(IIIIZ)I"⟩, 62) := ⟨⟨by decide +kernel, by decide +kernel⟩, List.mem_of_getElem? (i := 1531) (by decide +kernel), List.mem_of_getElem? (i := 1996) (by decide +kernel), List.mem_of_getElem? (i := 1997) (by decide +kernel)⟩
def lw_privs_6 : List (MethodName × Nat) := [(⟨"HeavyPairsModel", "walk", "(III)V"⟩, 62), (⟨"HeavyPairsModel", "leaf", "(II)V"⟩, 62), (⟨"HeavyPairsModel", "isAsked", "()Z"⟩, 62), (⟨"HeavyPairsModel", "areLinked", "(II)Z"⟩, 62), (⟨"HeavyPairsModel", "between", "(II)I"⟩, 62), (⟨"HeavyPairsModel", "isOdd", "(I)Z"⟩, 62), (⟨"HeavyPairsModel", "pairsIn", "(I)I"⟩, 62), (⟨"HeavyPairsModel", "totalNow", "()I"⟩, 62), (⟨"HeavyPairsModel", "pairMany", "()I"⟩, 62), (⟨"HeavyPairsModel", "isLone", "(I)Z"⟩, 62), (⟨"HeavyPairsModel", "boundNow", "()I"⟩, 62), (⟨"HeavyPairsModel", "layPath", "(I)I"⟩, 62), (⟨"HeavyPairsModel", "goesOn", "(III)Z"⟩, 62), (⟨"HeavyPairsModel", "flowers", "(III)Z"⟩, 62), (⟨"HeavyPairsModel", "areTwo", "(II)Z"⟩, 62), (⟨"HeavyPairsModel", "act", "(IIIIZ)I"⟩, 62)]
theorem lw_r6 : ∀ q ∈ lw_privs_6, lw_okq q := List.forall_mem_cons.mpr ⟨lw_p80, List.forall_mem_cons.mpr ⟨lw_p81, List.forall_mem_cons.mpr ⟨lw_p82, List.forall_mem_cons.mpr ⟨lw_p83, List.forall_mem_cons.mpr ⟨lw_p84, List.forall_mem_cons.mpr ⟨lw_p85, List.forall_mem_cons.mpr ⟨lw_p86, List.forall_mem_cons.mpr ⟨lw_p87, List.forall_mem_cons.mpr ⟨lw_p88, List.forall_mem_cons.mpr ⟨lw_p89, List.forall_mem_cons.mpr ⟨lw_p90, List.forall_mem_cons.mpr ⟨lw_p91, List.forall_mem_cons.mpr ⟨lw_p92, List.forall_mem_cons.mpr ⟨lw_p93, List.forall_mem_cons.mpr ⟨lw_p94, List.forall_mem_cons.mpr ⟨lw_p95, fun _ h => absurd h List.not_mem_nil⟩⟩⟩⟩⟩⟩⟩⟩⟩⟩⟩⟩⟩⟩⟩⟩
theorem lw_p96 : lw_okq (⟨"HeavyPairsModel", "refusal", "(IIII)I"⟩, 62) := ⟨⟨by decide +kernel, by decide +kernel⟩, List.mem_of_getElem? (i := 1531) (by decide +kernel), List.mem_of_getElem? (i := 2000) (by decide +kernel), List.mem_of_getElem? (i := 2001) (by decide +kernel)⟩
theorem lw_p97 : lw_okq (⟨"HeavyPairsModel", "snap", "()V"⟩, 62) := ⟨⟨by decide +kernel, by decide +kernel⟩, List.mem_of_getElem? (i := 1531) (by decide +kernel), List.mem_of_getElem? (i := 2004) (by decide +kernel), List.mem_of_getElem? (i := 2005) (by decide +kernel)⟩
theorem lw_p98 : lw_okq (⟨"HeavyPairsModel", "save", "([II)V"⟩, 62) := ⟨⟨by decide +kernel, by decide +kernel⟩, List.mem_of_getElem? (i := 1531) (by decide +kernel), List.mem_of_getElem? (i := 2008) (by decide +kernel), List.mem_of_getElem? (i := 2009) (by decide +kernel)⟩
theorem lw_p99 : lw_okq (⟨"HeavyPairsModel", "live", "(IIII)V"⟩, 62) := ⟨⟨by decide +kernel, by decide +kernel⟩, List.mem_of_getElem? (i := 1531) (by decide +kernel), List.mem_of_getElem? (i := 2012) (by decide +kernel), List.mem_of_getElem? (i := 2013) (by decide +kernel)⟩
theorem lw_p100 : lw_okq (⟨"HeavyPairsModel", "openOdd", "(I)V"⟩, 62) := ⟨⟨by decide +kernel, by decide +kernel⟩, List.mem_of_getElem? (i := 1531) (by decide +kernel), List.mem_of_getElem? (i := 2016) (by decide +kernel), List.mem_of_getElem? (i := 2017) (by decide +kernel)⟩
theorem lw_p101 : lw_okq (⟨"HeavyPairsModel", "turnPath", "([II)V"⟩, 62) := ⟨⟨by decide +kernel, by decide +kernel⟩, List.mem_of_getElem? (i := 1531) (by decide +kernel), List.mem_of_getElem? (i := 2020) (by decide +kernel), List.mem_of_getElem? (i := 2021) (by decide +kernel)⟩
theorem lw_p102 : lw_okq (⟨"HeavyPairsModel", "isPath", "([II)Z"⟩, 62) := ⟨⟨by decide +kernel, by decide +kernel⟩, List.mem_of_getElem? (i := 1531) (by decide +kernel), List.mem_of_getElem? (i := 2048) (by decide +kernel), List.mem_of_getElem? (i := 2049) (by decide +kernel)⟩
theorem lw_p103 : lw_okq (⟨"HeavyPairsModel", "isFlower", "()Z"⟩, 62) := ⟨⟨by decide +kernel, by decide +kernel⟩, List.mem_of_getElem? (i := 1531) (by decide +kernel), List.mem_of_getElem? (i := 2056) (by decide +kernel), List.mem_of_getElem? (i := 2057) (by decide +kernel)⟩
theorem lw_p104 : lw_okq (⟨"HeavyPairsModel", "comeBack", "([II)V"⟩, 62) := ⟨⟨by decide +kernel, by decide +kernel⟩, List.mem_of_getElem? (i := 1531) (by decide +kernel), List.mem_of_getElem? (i := 2064) (by decide +kernel), List.mem_of_getElem? (i := 2065) (by decide +kernel)⟩
theorem lw_p105 : lw_okq (⟨"HeavyPairsModel", "breaks", "(I)I"⟩, 62) := ⟨⟨by decide +kernel, by decide +kernel⟩, List.mem_of_getElem? (i := 1531) (by decide +kernel), List.mem_of_getElem? (i := 2072) (by decide +kernel), List.mem_of_getElem? (i := 2073) (by decide +kernel)⟩
theorem lw_p106 : lw_okq (⟨"HeavyPairsModel", "stroke", "(IIIZZII)V"⟩, 62) := ⟨⟨by decide +kernel, by decide +kernel⟩, List.mem_of_getElem? (i := 1531) (by decide +kernel), List.mem_of_getElem? (i := 2120) (by decide +kernel), List.mem_of_getElem? (i := 2121) (by decide +kernel)⟩
theorem lw_p107 : lw_okq (⟨"HeavyPairsModel", "fraction", "(III)I"⟩, 62) := ⟨⟨by decide +kernel, by decide +kernel⟩, List.mem_of_getElem? (i := 1531) (by decide +kernel), List.mem_of_getElem? (i := 2128) (by decide +kernel), List.mem_of_getElem? (i := 2129) (by decide +kernel)⟩
theorem lw_p108 : lw_okq (⟨"HeavyPairsModel", "writeWord", "(J)V"⟩, 62) := ⟨⟨by decide +kernel, by decide +kernel⟩, List.mem_of_getElem? (i := 1531) (by decide +kernel), List.mem_of_getElem? (i := 2139) (by decide +kernel), List.mem_of_getElem? (i := 2140) (by decide +kernel)⟩
theorem lw_p109 : lw_okq (⟨"HeavyPairsModel", "write", "(I)V"⟩, 62) := ⟨⟨by decide +kernel, by decide +kernel⟩, List.mem_of_getElem? (i := 1531) (by decide +kernel), List.mem_of_getElem? (i := 2143) (by decide +kernel), List.mem_of_getElem? (i := 2144) (by decide +kernel)⟩
theorem lw_p110 : lw_okq (⟨"HeavyPairsModel", "writeNext", "(J)V"⟩, 62) := ⟨⟨by decide +kernel, by decide +kernel⟩, List.mem_of_getElem? (i := 1531) (by decide +kernel), List.mem_of_getElem? (i := 2147) (by decide +kernel), List.mem_of_getElem? (i := 2148) (by decide +kernel)⟩
theorem lw_p111 : lw_okq (⟨"HeavyPairsModel", "writeNumber", "(I)V"⟩, 62) := ⟨⟨by decide +kernel, by decide +kernel⟩, List.mem_of_getElem? (i := 1531) (by decide +kernel), List.mem_of_getElem? (i := 2151) (by decide +kernel), List.mem_of_getElem? (i := 2152) (by decide +kernel)⟩
def lw_privs_7 : List (MethodName × Nat) := [(⟨"HeavyPairsModel", "refusal", "(IIII)I"⟩, 62), (⟨"HeavyPairsModel", "snap", "()V"⟩, 62), (⟨"HeavyPairsModel", "save", "([II)V"⟩, 62), (⟨"HeavyPairsModel", "live", "(IIII)V"⟩, 62), (⟨"HeavyPairsModel", "openOdd", "(I)V"⟩, 62), (⟨"HeavyPairsModel", "turnPath", "([II)V"⟩, 62), (⟨"HeavyPairsModel", "isPath", "([II)Z"⟩, 62), (⟨"HeavyPairsModel", "isFlower", "()Z"⟩, 62), (⟨"HeavyPairsModel", "comeBack", "([II)V"⟩, 62), (⟨"HeavyPairsModel", "breaks", "(I)I"⟩, 62), (⟨"HeavyPairsModel", "stroke", "(IIIZZII)V"⟩, 62), (⟨"HeavyPairsModel", "fraction", "(III)I"⟩, 62), (⟨"HeavyPairsModel", "writeWord", "(J)V"⟩, 62), (⟨"HeavyPairsModel", "write", "(I)V"⟩, 62), (⟨"HeavyPairsModel", "writeNext", "(J)V"⟩, 62), (⟨"HeavyPairsModel", "writeNumber", "(I)V"⟩, 62)]
theorem lw_r7 : ∀ q ∈ lw_privs_7, lw_okq q := List.forall_mem_cons.mpr ⟨lw_p96, List.forall_mem_cons.mpr ⟨lw_p97, List.forall_mem_cons.mpr ⟨lw_p98, List.forall_mem_cons.mpr ⟨lw_p99, List.forall_mem_cons.mpr ⟨lw_p100, List.forall_mem_cons.mpr ⟨lw_p101, List.forall_mem_cons.mpr ⟨lw_p102, List.forall_mem_cons.mpr ⟨lw_p103, List.forall_mem_cons.mpr ⟨lw_p104, List.forall_mem_cons.mpr ⟨lw_p105, List.forall_mem_cons.mpr ⟨lw_p106, List.forall_mem_cons.mpr ⟨lw_p107, List.forall_mem_cons.mpr ⟨lw_p108, List.forall_mem_cons.mpr ⟨lw_p109, List.forall_mem_cons.mpr ⟨lw_p110, List.forall_mem_cons.mpr ⟨lw_p111, fun _ h => absurd h List.not_mem_nil⟩⟩⟩⟩⟩⟩⟩⟩⟩⟩⟩⟩⟩⟩⟩⟩
theorem lw_p112 : lw_okq (⟨"HeavyPairsModel", "drawDeeds", "(II)I"⟩, 62) := ⟨⟨by decide +kernel, by decide +kernel⟩, List.mem_of_getElem? (i := 1531) (by decide +kernel), List.mem_of_getElem? (i := 2163) (by decide +kernel), List.mem_of_getElem? (i := 2164) (by decide +kernel)⟩
theorem lw_p113 : lw_okq (⟨"HeavyPairsModel", "drawsDeed", "()Z"⟩, 62) := ⟨⟨by decide +kernel, by decide +kernel⟩, List.mem_of_getElem? (i := 1531) (by decide +kernel), List.mem_of_getElem? (i := 2167) (by decide +kernel), List.mem_of_getElem? (i := 2168) (by decide +kernel)⟩
theorem lw_p114 : lw_okq (⟨"HeavyPairsModel", "draw", "(I)I"⟩, 62) := ⟨⟨by decide +kernel, by decide +kernel⟩, List.mem_of_getElem? (i := 1531) (by decide +kernel), List.mem_of_getElem? (i := 2171) (by decide +kernel), List.mem_of_getElem? (i := 2172) (by decide +kernel)⟩
theorem lw_p115 : lw_okq (⟨"HeavyPairsModel", "drawPoint", "()I"⟩, 62) := ⟨⟨by decide +kernel, by decide +kernel⟩, List.mem_of_getElem? (i := 1531) (by decide +kernel), List.mem_of_getElem? (i := 2176) (by decide +kernel), List.mem_of_getElem? (i := 2177) (by decide +kernel)⟩
theorem lw_p116 : lw_okq (⟨"HeavyPairsModel", "doIf", "(IIII)Z"⟩, 62) := ⟨⟨by decide +kernel, by decide +kernel⟩, List.mem_of_getElem? (i := 1531) (by decide +kernel), List.mem_of_getElem? (i := 2180) (by decide +kernel), List.mem_of_getElem? (i := 2181) (by decide +kernel)⟩
theorem lw_p117 : lw_okq (⟨"HeavyPairsModel", "stay", "(Z)V"⟩, 62) := ⟨⟨by decide +kernel, by decide +kernel⟩, List.mem_of_getElem? (i := 1531) (by decide +kernel), List.mem_of_getElem? (i := 2184) (by decide +kernel), List.mem_of_getElem? (i := 2185) (by decide +kernel)⟩
theorem lw_p118 : lw_okq (⟨"HeavyPairsModel", "readBookLine", "()Z"⟩, 62) := ⟨⟨by decide +kernel, by decide +kernel⟩, List.mem_of_getElem? (i := 1531) (by decide +kernel), List.mem_of_getElem? (i := 2196) (by decide +kernel), List.mem_of_getElem? (i := 2197) (by decide +kernel)⟩
theorem lw_p119 : lw_okq (⟨"HeavyPairsModel", "readPointName", "()Z"⟩, 62) := ⟨⟨by decide +kernel, by decide +kernel⟩, List.mem_of_getElem? (i := 1531) (by decide +kernel), List.mem_of_getElem? (i := 2200) (by decide +kernel), List.mem_of_getElem? (i := 2201) (by decide +kernel)⟩
theorem lw_p120 : lw_okq (⟨"HeavyPairsModel", "keep", "(IZ)Z"⟩, 62) := ⟨⟨by decide +kernel, by decide +kernel⟩, List.mem_of_getElem? (i := 1531) (by decide +kernel), List.mem_of_getElem? (i := 2204) (by decide +kernel), List.mem_of_getElem? (i := 2205) (by decide +kernel)⟩
theorem lw_p121 : lw_okq (⟨"HeavyPairsModel", "readOther", "(I)Z"⟩, 62) := ⟨⟨by decide +kernel, by decide +kernel⟩, List.mem_of_getElem? (i := 1531) (by decide +kernel), List.mem_of_getElem? (i := 2208) (by decide +kernel), List.mem_of_getElem? (i := 2209) (by decide +kernel)⟩
theorem lw_p122 : lw_okq (⟨"HeavyPairsModel", "goBy", "(I)I"⟩, 62) := ⟨⟨by decide +kernel, by decide +kernel⟩, List.mem_of_getElem? (i := 1531) (by decide +kernel), List.mem_of_getElem? (i := 2212) (by decide +kernel), List.mem_of_getElem? (i := 2213) (by decide +kernel)⟩
theorem lw_p123 : lw_okq (⟨"HeavyPairsModel", "readOr", "()Z"⟩, 62) := ⟨⟨by decide +kernel, by decide +kernel⟩, List.mem_of_getElem? (i := 1531) (by decide +kernel), List.mem_of_getElem? (i := 2224) (by decide +kernel), List.mem_of_getElem? (i := 2225) (by decide +kernel)⟩
theorem lw_p124 : lw_okq (⟨"HeavyPairsModel", "readAnd", "()Z"⟩, 62) := ⟨⟨by decide +kernel, by decide +kernel⟩, List.mem_of_getElem? (i := 1531) (by decide +kernel), List.mem_of_getElem? (i := 2228) (by decide +kernel), List.mem_of_getElem? (i := 2229) (by decide +kernel)⟩
theorem lw_p125 : lw_okq (⟨"HeavyPairsModel", "readSaid", "()Z"⟩, 62) := ⟨⟨by decide +kernel, by decide +kernel⟩, List.mem_of_getElem? (i := 1531) (by decide +kernel), List.mem_of_getElem? (i := 2232) (by decide +kernel), List.mem_of_getElem? (i := 2233) (by decide +kernel)⟩
theorem lw_p126 : lw_okq (⟨"HeavyPairsModel", "readBracket", "()Z"⟩, 62) := ⟨⟨by decide +kernel, by decide +kernel⟩, List.mem_of_getElem? (i := 1531) (by decide +kernel), List.mem_of_getElem? (i := 2236) (by decide +kernel), List.mem_of_getElem? (i := 2237) (by decide +kernel)⟩
theorem lw_p127 : lw_okq (⟨"HeavyPairsModel", "readNot", "()Z"⟩, 62) := ⟨⟨by decide +kernel, by decide +kernel⟩, List.mem_of_getElem? (i := 1531) (by decide +kernel), List.mem_of_getElem? (i := 2240) (by decide +kernel), List.mem_of_getElem? (i := 2241) (by decide +kernel)⟩
def lw_privs_8 : List (MethodName × Nat) := [(⟨"HeavyPairsModel", "drawDeeds", "(II)I"⟩, 62), (⟨"HeavyPairsModel", "drawsDeed", "()Z"⟩, 62), (⟨"HeavyPairsModel", "draw", "(I)I"⟩, 62), (⟨"HeavyPairsModel", "drawPoint", "()I"⟩, 62), (⟨"HeavyPairsModel", "doIf", "(IIII)Z"⟩, 62), (⟨"HeavyPairsModel", "stay", "(Z)V"⟩, 62), (⟨"HeavyPairsModel", "readBookLine", "()Z"⟩, 62), (⟨"HeavyPairsModel", "readPointName", "()Z"⟩, 62), (⟨"HeavyPairsModel", "keep", "(IZ)Z"⟩, 62), (⟨"HeavyPairsModel", "readOther", "(I)Z"⟩, 62), (⟨"HeavyPairsModel", "goBy", "(I)I"⟩, 62), (⟨"HeavyPairsModel", "readOr", "()Z"⟩, 62), (⟨"HeavyPairsModel", "readAnd", "()Z"⟩, 62), (⟨"HeavyPairsModel", "readSaid", "()Z"⟩, 62), (⟨"HeavyPairsModel", "readBracket", "()Z"⟩, 62), (⟨"HeavyPairsModel", "readNot", "()Z"⟩, 62)]
theorem lw_r8 : ∀ q ∈ lw_privs_8, lw_okq q := List.forall_mem_cons.mpr ⟨lw_p112, List.forall_mem_cons.mpr ⟨lw_p113, List.forall_mem_cons.mpr ⟨lw_p114, List.forall_mem_cons.mpr ⟨lw_p115, List.forall_mem_cons.mpr ⟨lw_p116, List.forall_mem_cons.mpr ⟨lw_p117, List.forall_mem_cons.mpr ⟨lw_p118, List.forall_mem_cons.mpr ⟨lw_p119, List.forall_mem_cons.mpr ⟨lw_p120, List.forall_mem_cons.mpr ⟨lw_p121, List.forall_mem_cons.mpr ⟨lw_p122, List.forall_mem_cons.mpr ⟨lw_p123, List.forall_mem_cons.mpr ⟨lw_p124, List.forall_mem_cons.mpr ⟨lw_p125, List.forall_mem_cons.mpr ⟨lw_p126, List.forall_mem_cons.mpr ⟨lw_p127, fun _ h => absurd h List.not_mem_nil⟩⟩⟩⟩⟩⟩⟩⟩⟩⟩⟩⟩⟩⟩⟩⟩
theorem lw_p128 : lw_okq (⟨"HeavyPairsModel", "saysOne", "(IIII)I"⟩, 62) := ⟨⟨by decide +kernel, by decide +kernel⟩, List.mem_of_getElem? (i := 1531) (by decide +kernel), List.mem_of_getElem? (i := 2244) (by decide +kernel), List.mem_of_getElem? (i := 2245) (by decide +kernel)⟩
theorem lw_p129 : lw_okq (⟨"HeavyPairsModel", "readOf", "(I)Z"⟩, 62) := ⟨⟨by decide +kernel, by decide +kernel⟩, List.mem_of_getElem? (i := 1531) (by decide +kernel), List.mem_of_getElem? (i := 2248) (by decide +kernel), List.mem_of_getElem? (i := 2249) (by decide +kernel)⟩
theorem lw_p130 : lw_okq (⟨"HeavyPairsModel", "readThat", "(I)Z"⟩, 62) := ⟨⟨by decide +kernel, by decide +kernel⟩, List.mem_of_getElem? (i := 1531) (by decide +kernel), List.mem_of_getElem? (i := 2252) (by decide +kernel), List.mem_of_getElem? (i := 2253) (by decide +kernel)⟩
theorem lw_p131 : lw_okq (⟨"HeavyPairsModel", "readCompare", "(I)Z"⟩, 62) := ⟨⟨by decide +kernel, by decide +kernel⟩, List.mem_of_getElem? (i := 1531) (by decide +kernel), List.mem_of_getElem? (i := 2256) (by decide +kernel), List.mem_of_getElem? (i := 2257) (by decide +kernel)⟩
theorem lw_p132 : lw_okq (⟨"HeavyPairsModel", "holds", "(II)Z"⟩, 62) := ⟨⟨by decide +kernel, by decide +kernel⟩, List.mem_of_getElem? (i := 1531) (by decide +kernel), List.mem_of_getElem? (i := 2264) (by decide +kernel), List.mem_of_getElem? (i := 2265) (by decide +kernel)⟩
theorem lw_p133 : lw_okq (⟨"HeavyPairsModel", "weightOf", "(I)I"⟩, 62) := ⟨⟨by decide +kernel, by decide +kernel⟩, List.mem_of_getElem? (i := 1531) (by decide +kernel), List.mem_of_getElem? (i := 2268) (by decide +kernel), List.mem_of_getElem? (i := 2269) (by decide +kernel)⟩
def lw_privs_9 : List (MethodName × Nat) := [(⟨"HeavyPairsModel", "saysOne", "(IIII)I"⟩, 62), (⟨"HeavyPairsModel", "readOf", "(I)Z"⟩, 62), (⟨"HeavyPairsModel", "readThat", "(I)Z"⟩, 62), (⟨"HeavyPairsModel", "readCompare", "(I)Z"⟩, 62), (⟨"HeavyPairsModel", "holds", "(II)Z"⟩, 62), (⟨"HeavyPairsModel", "weightOf", "(I)I"⟩, 62)]
theorem lw_r9 : ∀ q ∈ lw_privs_9, lw_okq q := List.forall_mem_cons.mpr ⟨lw_p128, List.forall_mem_cons.mpr ⟨lw_p129, List.forall_mem_cons.mpr ⟨lw_p130, List.forall_mem_cons.mpr ⟨lw_p131, List.forall_mem_cons.mpr ⟨lw_p132, List.forall_mem_cons.mpr ⟨lw_p133, fun _ h => absurd h List.not_mem_nil⟩⟩⟩⟩⟩⟩
def lw_privs : List (MethodName × Nat) := lw_privs_1 ++ (lw_privs_2 ++ (lw_privs_3 ++ (lw_privs_4 ++ (lw_privs_5 ++ (lw_privs_6 ++ (lw_privs_7 ++ (lw_privs_8 ++ (lw_privs_9))))))))
def lw_tbl : List Cond := k2_sels lw_privs ++ tables_1
theorem lw_privs_ok : ∀ q ∈ lw_privs, lw_okq q := by
  show ∀ q ∈ lw_privs_1 ++ (lw_privs_2 ++ (lw_privs_3 ++ (lw_privs_4 ++ (lw_privs_5 ++ (lw_privs_6 ++ (lw_privs_7 ++ (lw_privs_8 ++ (lw_privs_9)))))))), lw_okq q
  exact List.forall_mem_append.mpr ⟨lw_r1, List.forall_mem_append.mpr ⟨lw_r2, List.forall_mem_append.mpr ⟨lw_r3, List.forall_mem_append.mpr ⟨lw_r4, List.forall_mem_append.mpr ⟨lw_r5, List.forall_mem_append.mpr ⟨lw_r6, List.forall_mem_append.mpr ⟨lw_r7, List.forall_mem_append.mpr ⟨lw_r8, lw_r9⟩⟩⟩⟩⟩⟩⟩⟩
-- ===== end of PART A; then your names; then what follows =====
end
section
def RX0 : String := "HeavyPairs$Book"
def TX0 : u_T := fun k => match k with
  | 0 => ("HeavyPairs$Book", "kind", "[I", true)
  | 1 => ("HeavyPairs$Book", "first", "[I", true)
  | 2 => ("HeavyPairs$Book", "second", "[I", true)
  | 3 => ("HeavyPairs$Book", "third", "[I", true)
  | 4 => ("HeavyPairs$Book", "lines", "I", false)
  | 5 => ("HeavyPairs$Book", "judged", "Z", false)
  | 6 => ("HeavyPairs$Book", "why", "I", false)
  | 7 => ("HeavyPairs$Book", "right", "I", false)
  | 8 => ("HeavyPairs$Book", "total", "I", false)
  | _ => ("HeavyPairs$Book", "bound", "I", false)
def tyX0 : Nat → FieldType := fun k => match k with
  | 0 => .array .int
  | 1 => .array .int
  | 2 => .array .int
  | 3 => .array .int
  | 4 => .int
  | 5 => .boolean
  | 6 => .int
  | 7 => .int
  | 8 => .int
  | _ => .int
abbrev wsX00 : List Cond := u_ws RX0 TX0 10
theorem nmX0 : ∀ a, a < 10 → ∀ b, b < 10 → a ≠ b → (TX0 a).2.1 ≠ (TX0 b).2.1 := by decide +kernel
theorem tyX0_ok : ∀ k, k < 10 → parseFieldDescriptor (TX0 k).2.2.1 = some (tyX0 k) := by decide +kernel
abbrev cX0_init : ByteArray := prog_2_method_1_code
def yX0_init : MethodName := ⟨RX0, "<init>", "()V"⟩
abbrev cX0_toldOf : ByteArray := prog_2_method_2_code
def yX0_toldOf : MethodName := ⟨RX0, "toldOf", "(I)I"⟩
abbrev cX0_read : ByteArray := prog_2_method_3_code
def yX0_read : MethodName := ⟨RX0, "read", "(LHeavyPairs$Tape;LHeavyPairs$Network;)Z"⟩
abbrev cX0_readLine : ByteArray := prog_2_method_4_code
def yX0_readLine : MethodName := ⟨RX0, "readLine", "(LHeavyPairs$Tape;LHeavyPairs$Network;)Z"⟩
abbrev cX0_isDeed : ByteArray := prog_2_method_5_code
def yX0_isDeed : MethodName := ⟨RX0, "isDeed", "(I)Z"⟩
abbrev cX0_readFirst : ByteArray := prog_2_method_6_code
def yX0_readFirst : MethodName := ⟨RX0, "readFirst", "(LHeavyPairs$Tape;LHeavyPairs$Network;)Z"⟩
abbrev cX0_readTwo : ByteArray := prog_2_method_7_code
def yX0_readTwo : MethodName := ⟨RX0, "readTwo", "(LHeavyPairs$Tape;LHeavyPairs$Network;)Z"⟩
abbrev cX0_readNumber : ByteArray := prog_2_method_8_code
def yX0_readNumber : MethodName := ⟨RX0, "readNumber", "(LHeavyPairs$Tape;)Z"⟩
abbrev cX0_readThird : ByteArray := prog_2_method_9_code
def yX0_readThird : MethodName := ⟨RX0, "readThird", "(LHeavyPairs$Tape;II)Z"⟩
abbrev cX0_judge : ByteArray := prog_2_method_10_code
def yX0_judge : MethodName := ⟨RX0, "judge", "(LHeavyPairs$Network;LHeavyPairs$Search;)I"⟩
abbrev cX0_live : ByteArray := prog_2_method_11_code
def yX0_live : MethodName := ⟨RX0, "live", "(ILHeavyPairs$Network;LHeavyPairs$Search;)I"⟩
abbrev cX0_behind : ByteArray := prog_2_method_12_code
def yX0_behind : MethodName := ⟨RX0, "behind", "(II)I"⟩
def RX1 : String := "HeavyPairs$Draws"
def TX1 : u_T := fun k => match k with
  | _ => ("HeavyPairs$Draws", "x", "I", false)
def tyX1 : Nat → FieldType := fun k => match k with
  | _ => .int
abbrev wsX10 : List Cond := u_ws RX1 TX1 1
theorem nmX1 : ∀ a, a < 1 → ∀ b, b < 1 → a ≠ b → (TX1 a).2.1 ≠ (TX1 b).2.1 := by decide +kernel
theorem tyX1_ok : ∀ k, k < 1 → parseFieldDescriptor (TX1 k).2.2.1 = some (tyX1 k) := by decide +kernel
abbrev cX1_init : ByteArray := prog_3_method_1_code
def yX1_init : MethodName := ⟨RX1, "<init>", "()V"⟩
abbrev cX1_run : ByteArray := prog_3_method_2_code
def yX1_run : MethodName := ⟨RX1, "run", "(LHeavyPairs$Network;LHeavyPairs$Search;II)I"⟩
abbrev cX1_draw : ByteArray := prog_3_method_3_code
def yX1_draw : MethodName := ⟨RX1, "draw", "(I)I"⟩
abbrev cX1_isDone : ByteArray := prog_3_method_4_code
def yX1_isDone : MethodName := ⟨RX1, "isDone", "(LHeavyPairs$Network;LHeavyPairs$Search;)Z"⟩
abbrev cX1_pairTwo : ByteArray := prog_3_method_5_code
def yX1_pairTwo : MethodName := ⟨RX1, "pairTwo", "(LHeavyPairs$Network;II)Z"⟩
abbrev cX1_weighOne : ByteArray := prog_3_method_6_code
def yX1_weighOne : MethodName := ⟨RX1, "weighOne", "(LHeavyPairs$Network;)Z"⟩
abbrev cX1_crownOne : ByteArray := prog_3_method_7_code
def yX1_crownOne : MethodName := ⟨RX1, "crownOne", "(LHeavyPairs$Network;)Z"⟩
def RX2 : String := "HeavyPairs$Heaviest"
def TX2 : u_T := fun k => match k with
  | 0 => ("HeavyPairs$Heaviest", "known", "LHeavyPairs$Network;", true)
  | 1 => ("HeavyPairs$Heaviest", "ready", "Z", false)
  | 2 => ("HeavyPairs$Heaviest", "fatesReady", "Z", false)
  | 3 => ("HeavyPairs$Heaviest", "all", "I", false)
  | 4 => ("HeavyPairs$Heaviest", "slotOf", "[I", true)
  | 5 => ("HeavyPairs$Heaviest", "slots", "I", false)
  | 6 => ("HeavyPairs$Heaviest", "tops", "[I", true)
  | 7 => ("HeavyPairs$Heaviest", "seconds", "[I", true)
  | 8 => ("HeavyPairs$Heaviest", "ways", "[I", true)
  | 9 => ("HeavyPairs$Heaviest", "heavies", "[I", true)
  | 10 => ("HeavyPairs$Heaviest", "wanted", "[I", true)
  | 11 => ("HeavyPairs$Heaviest", "contradicted", "Z", false)
  | 12 => ("HeavyPairs$Heaviest", "chosen", "[I", true)
  | 13 => ("HeavyPairs$Heaviest", "tally", "[I", true)
  | 14 => ("HeavyPairs$Heaviest", "fate", "[I", true)
  | _ => ("HeavyPairs$Heaviest", "matching", "I", false)
def tyX2 : Nat → FieldType := fun k => match k with
  | 0 => .object "HeavyPairs$Network"
  | 1 => .boolean
  | 2 => .boolean
  | 3 => .int
  | 4 => .array .int
  | 5 => .int
  | 6 => .array .int
  | 7 => .array .int
  | 8 => .array .int
  | 9 => .array .int
  | 10 => .array .int
  | 11 => .boolean
  | 12 => .array .int
  | 13 => .array .int
  | 14 => .array .int
  | _ => .int
abbrev wsX20 : List Cond := u_ws RX2 TX2 16
theorem nmX2 : ∀ a, a < 16 → ∀ b, b < 16 → a ≠ b → (TX2 a).2.1 ≠ (TX2 b).2.1 := by decide +kernel
theorem tyX2_ok : ∀ k, k < 16 → parseFieldDescriptor (TX2 k).2.2.1 = some (tyX2 k) := by decide +kernel
abbrev cX2_init : ByteArray := prog_4_method_1_code
def yX2_init : MethodName := ⟨RX2, "<init>", "()V"⟩
abbrev cX2_lookAt : ByteArray := prog_4_method_2_code
def yX2_lookAt : MethodName := ⟨RX2, "lookAt", "(LHeavyPairs$Network;)V"⟩
abbrev cX2_top : ByteArray := prog_4_method_3_code
def yX2_top : MethodName := ⟨RX2, "top", "()I"⟩
abbrev cX2_second : ByteArray := prog_4_method_4_code
def yX2_second : MethodName := ⟨RX2, "second", "()I"⟩
abbrev cX2_heaviestOf : ByteArray := prog_4_method_5_code
def yX2_heaviestOf : MethodName := ⟨RX2, "heaviestOf", "(I)I"⟩
abbrev cX2_countOf : ByteArray := prog_4_method_6_code
def yX2_countOf : MethodName := ⟨RX2, "countOf", "(I)I"⟩
abbrev cX2_slotKnown : ByteArray := prog_4_method_7_code
def yX2_slotKnown : MethodName := ⟨RX2, "slotKnown", "(I)I"⟩
abbrev cX2_topFor : ByteArray := prog_4_method_8_code
def yX2_topFor : MethodName := ⟨RX2, "topFor", "(I)I"⟩
abbrev cX2_slotFor : ByteArray := prog_4_method_9_code
def yX2_slotFor : MethodName := ⟨RX2, "slotFor", "(II)I"⟩
abbrev cX2_leastOf : ByteArray := prog_4_method_10_code
def yX2_leastOf : MethodName := ⟨RX2, "leastOf", "(I)I"⟩
abbrev cX2_startSlot : ByteArray := prog_4_method_11_code
def yX2_startSlot : MethodName := ⟨RX2, "startSlot", "(IZ)V"⟩
abbrev cX2_addWays : ByteArray := prog_4_method_12_code
def yX2_addWays : MethodName := ⟨RX2, "addWays", "(IIII)V"⟩
abbrev cX2_addTotal : ByteArray := prog_4_method_13_code
def yX2_addTotal : MethodName := ⟨RX2, "addTotal", "(II)V"⟩
abbrev cX2_bestInto : ByteArray := prog_4_method_14_code
def yX2_bestInto : MethodName := ⟨RX2, "bestInto", "(LHeavyPairs$Row;)V"⟩
abbrev cX2_firstBestPartner : ByteArray := prog_4_method_15_code
def yX2_firstBestPartner : MethodName := ⟨RX2, "firstBestPartner", "(II)I"⟩
abbrev cX2_keepsTop : ByteArray := prog_4_method_16_code
def yX2_keepsTop : MethodName := ⟨RX2, "keepsTop", "(III)Z"⟩
abbrev cX2_choose : ByteArray := prog_4_method_17_code
def yX2_choose : MethodName := ⟨RX2, "choose", "(II)V"⟩
abbrev cX2_fateOf : ByteArray := prog_4_method_18_code
def yX2_fateOf : MethodName := ⟨RX2, "fateOf", "(I)I"⟩
abbrev cX2_wantNothing : ByteArray := prog_4_method_19_code
def yX2_wantNothing : MethodName := ⟨RX2, "wantNothing", "()V"⟩
abbrev cX2_want : ByteArray := prog_4_method_20_code
def yX2_want : MethodName := ⟨RX2, "want", "(II)V"⟩
abbrev cX2_countWanted : ByteArray := prog_4_method_21_code
def yX2_countWanted : MethodName := ⟨RX2, "countWanted", "()I"⟩
abbrev cX2_walkBest : ByteArray := prog_4_method_22_code
def yX2_walkBest : MethodName := ⟨RX2, "walkBest", "(II)V"⟩
abbrev cX2_mayBe : ByteArray := prog_4_method_23_code
def yX2_mayBe : MethodName := ⟨RX2, "mayBe", "(II)Z"⟩
abbrev cX2_tallyChosen : ByteArray := prog_4_method_24_code
def yX2_tallyChosen : MethodName := ⟨RX2, "tallyChosen", "()V"⟩
abbrev cX2_tallyAt : ByteArray := prog_4_method_25_code
def yX2_tallyAt : MethodName := ⟨RX2, "tallyAt", "(II)I"⟩
abbrev cX2_mostTelling : ByteArray := prog_4_method_26_code
def yX2_mostTelling : MethodName := ⟨RX2, "mostTelling", "()I"⟩
def RX3 : String := "HeavyPairs$History"
def TX3 : u_T := fun k => match k with
  | 0 => ("HeavyPairs$History", "before", "[LHeavyPairs$Network;", true)
  | 1 => ("HeavyPairs$History", "at", "I", false)
  | _ => ("HeavyPairs$History", "kept", "I", false)
def tyX3 : Nat → FieldType := fun k => match k with
  | 0 => .array (.object "HeavyPairs$Network")
  | 1 => .int
  | _ => .int
abbrev wsX30 : List Cond := u_ws RX3 TX3 3
theorem nmX3 : ∀ a, a < 3 → ∀ b, b < 3 → a ≠ b → (TX3 a).2.1 ≠ (TX3 b).2.1 := by decide +kernel
theorem tyX3_ok : ∀ k, k < 3 → parseFieldDescriptor (TX3 k).2.2.1 = some (tyX3 k) := by decide +kernel
abbrev cX3_init : ByteArray := prog_5_method_1_code
def yX3_init : MethodName := ⟨RX3, "<init>", "()V"⟩
abbrev cX3_forget : ByteArray := prog_5_method_2_code
def yX3_forget : MethodName := ⟨RX3, "forget", "()V"⟩
abbrev cX3_mark : ByteArray := prog_5_method_3_code
def yX3_mark : MethodName := ⟨RX3, "mark", "(LHeavyPairs$Network;)V"⟩
abbrev cX3_keep : ByteArray := prog_5_method_4_code
def yX3_keep : MethodName := ⟨RX3, "keep", "()V"⟩
abbrev cX3_takeBack : ByteArray := prog_5_method_5_code
def yX3_takeBack : MethodName := ⟨RX3, "takeBack", "(LHeavyPairs$Network;)I"⟩
def RX4 : String := "HeavyPairs$Network"
def TX4 : u_T := fun k => match k with
  | 0 => ("HeavyPairs$Network", "points", "I", false)
  | 1 => ("HeavyPairs$Network", "links", "I", false)
  | 2 => ("HeavyPairs$Network", "sets", "I", false)
  | 3 => ("HeavyPairs$Network", "turned", "I", false)
  | 4 => ("HeavyPairs$Network", "shrunk", "I", false)
  | 5 => ("HeavyPairs$Network", "name", "[J", true)
  | 6 => ("HeavyPairs$Network", "near", "[I", true)
  | 7 => ("HeavyPairs$Network", "partner", "[I", true)
  | 8 => ("HeavyPairs$Network", "price", "[I", true)
  | 9 => ("HeavyPairs$Network", "from", "[I", true)
  | 10 => ("HeavyPairs$Network", "to", "[I", true)
  | 11 => ("HeavyPairs$Network", "weight", "[I", true)
  | 12 => ("HeavyPairs$Network", "linkAt", "[I", true)
  | 13 => ("HeavyPairs$Network", "members", "[I", true)
  | _ => ("HeavyPairs$Network", "crowns", "[I", true)
def tyX4 : Nat → FieldType := fun k => match k with
  | 0 => .int
  | 1 => .int
  | 2 => .int
  | 3 => .int
  | 4 => .int
  | 5 => .array .long
  | 6 => .array .int
  | 7 => .array .int
  | 8 => .array .int
  | 9 => .array .int
  | 10 => .array .int
  | 11 => .array .int
  | 12 => .array .int
  | 13 => .array .int
  | _ => .array .int
abbrev wsX40 : List Cond := u_ws RX4 TX4 15
theorem nmX4 : ∀ a, a < 15 → ∀ b, b < 15 → a ≠ b → (TX4 a).2.1 ≠ (TX4 b).2.1 := by decide +kernel
theorem tyX4_ok : ∀ k, k < 15 → parseFieldDescriptor (TX4 k).2.2.1 = some (tyX4 k) := by decide +kernel
abbrev cX4_init : ByteArray := prog_6_method_1_code
def yX4_init : MethodName := ⟨RX4, "<init>", "()V"⟩
abbrev cX4_clear : ByteArray := prog_6_method_2_code
def yX4_clear : MethodName := ⟨RX4, "clear", "()V"⟩
abbrev cX4_copyFrom : ByteArray := prog_6_method_3_code
def yX4_copyFrom : MethodName := ⟨RX4, "copyFrom", "(LHeavyPairs$Network;)V"⟩
abbrev cX4_copyLinksFrom : ByteArray := prog_6_method_4_code
def yX4_copyLinksFrom : MethodName := ⟨RX4, "copyLinksFrom", "(LHeavyPairs$Network;)V"⟩
abbrev cX4_hasLinksOf : ByteArray := prog_6_method_5_code
def yX4_hasLinksOf : MethodName := ⟨RX4, "hasLinksOf", "(LHeavyPairs$Network;)Z"⟩
abbrev cX4_points : ByteArray := prog_6_method_6_code
def yX4_points : MethodName := ⟨RX4, "points", "()I"⟩
abbrev cX4_links : ByteArray := prog_6_method_7_code
def yX4_links : MethodName := ⟨RX4, "links", "()I"⟩
abbrev cX4_sets : ByteArray := prog_6_method_8_code
def yX4_sets : MethodName := ⟨RX4, "sets", "()I"⟩
abbrev cX4_turned : ByteArray := prog_6_method_9_code
def yX4_turned : MethodName := ⟨RX4, "turned", "()I"⟩
abbrev cX4_shrunk : ByteArray := prog_6_method_10_code
def yX4_shrunk : MethodName := ⟨RX4, "shrunk", "()I"⟩
abbrev cX4_hasPoint : ByteArray := prog_6_method_11_code
def yX4_hasPoint : MethodName := ⟨RX4, "hasPoint", "(I)Z"⟩
abbrev cX4_hasLink : ByteArray := prog_6_method_12_code
def yX4_hasLink : MethodName := ⟨RX4, "hasLink", "(I)Z"⟩
abbrev cX4_hasSet : ByteArray := prog_6_method_13_code
def yX4_hasSet : MethodName := ⟨RX4, "hasSet", "(I)Z"⟩
abbrev cX4_addPoint : ByteArray := prog_6_method_14_code
def yX4_addPoint : MethodName := ⟨RX4, "addPoint", "(J)V"⟩
abbrev cX4_addLink : ByteArray := prog_6_method_15_code
def yX4_addLink : MethodName := ⟨RX4, "addLink", "(III)V"⟩
abbrev cX4_addSet : ByteArray := prog_6_method_16_code
def yX4_addSet : MethodName := ⟨RX4, "addSet", "(II)V"⟩
abbrev cX4_pointNamed : ByteArray := prog_6_method_17_code
def yX4_pointNamed : MethodName := ⟨RX4, "pointNamed", "(J)I"⟩
abbrev cX4_nameOf : ByteArray := prog_6_method_18_code
def yX4_nameOf : MethodName := ⟨RX4, "nameOf", "(I)J"⟩
abbrev cX4_nearTo : ByteArray := prog_6_method_19_code
def yX4_nearTo : MethodName := ⟨RX4, "nearTo", "(I)I"⟩
abbrev cX4_partnerOf : ByteArray := prog_6_method_20_code
def yX4_partnerOf : MethodName := ⟨RX4, "partnerOf", "(I)I"⟩
abbrev cX4_isLone : ByteArray := prog_6_method_21_code
def yX4_isLone : MethodName := ⟨RX4, "isLone", "(I)Z"⟩
abbrev cX4_priceOf : ByteArray := prog_6_method_22_code
def yX4_priceOf : MethodName := ⟨RX4, "priceOf", "(I)I"⟩
abbrev cX4_fromOf : ByteArray := prog_6_method_23_code
def yX4_fromOf : MethodName := ⟨RX4, "fromOf", "(I)I"⟩
abbrev cX4_toOf : ByteArray := prog_6_method_24_code
def yX4_toOf : MethodName := ⟨RX4, "toOf", "(I)I"⟩
abbrev cX4_weightAt : ByteArray := prog_6_method_25_code
def yX4_weightAt : MethodName := ⟨RX4, "weightAt", "(I)I"⟩
abbrev cX4_isPair : ByteArray := prog_6_method_26_code
def yX4_isPair : MethodName := ⟨RX4, "isPair", "(I)Z"⟩
abbrev cX4_membersOf : ByteArray := prog_6_method_27_code
def yX4_membersOf : MethodName := ⟨RX4, "membersOf", "(I)I"⟩
abbrev cX4_crownOf : ByteArray := prog_6_method_28_code
def yX4_crownOf : MethodName := ⟨RX4, "crownOf", "(I)I"⟩
abbrev cX4_areLinked : ByteArray := prog_6_method_29_code
def yX4_areLinked : MethodName := ⟨RX4, "areLinked", "(II)Z"⟩
abbrev cX4_linkOf : ByteArray := prog_6_method_30_code
def yX4_linkOf : MethodName := ⟨RX4, "linkOf", "(II)I"⟩
abbrev cX4_weightOf : ByteArray := prog_6_method_31_code
def yX4_weightOf : MethodName := ⟨RX4, "weightOf", "(II)I"⟩
abbrev cX4_setOf : ByteArray := prog_6_method_32_code
def yX4_setOf : MethodName := ⟨RX4, "setOf", "(I)I"⟩
abbrev cX4_setsWith : ByteArray := prog_6_method_33_code
def yX4_setsWith : MethodName := ⟨RX4, "setsWith", "(I)I"⟩
abbrev cX4_slackOf : ByteArray := prog_6_method_34_code
def yX4_slackOf : MethodName := ⟨RX4, "slackOf", "(I)I"⟩
abbrev cX4_tightLinks : ByteArray := prog_6_method_35_code
def yX4_tightLinks : MethodName := ⟨RX4, "tightLinks", "()I"⟩
abbrev cX4_tightTo : ByteArray := prog_6_method_36_code
def yX4_tightTo : MethodName := ⟨RX4, "tightTo", "(I)I"⟩
abbrev cX4_otherEnd : ByteArray := prog_6_method_37_code
def yX4_otherEnd : MethodName := ⟨RX4, "otherEnd", "(II)I"⟩
abbrev cX4_tightPoints : ByteArray := prog_6_method_38_code
def yX4_tightPoints : MethodName := ⟨RX4, "tightPoints", "()I"⟩
abbrev cX4_lonePoints : ByteArray := prog_6_method_39_code
def yX4_lonePoints : MethodName := ⟨RX4, "lonePoints", "()I"⟩
abbrev cX4_pairs : ByteArray := prog_6_method_40_code
def yX4_pairs : MethodName := ⟨RX4, "pairs", "()I"⟩
abbrev cX4_total : ByteArray := prog_6_method_41_code
def yX4_total : MethodName := ⟨RX4, "total", "()I"⟩
abbrev cX4_pairsWithin : ByteArray := prog_6_method_42_code
def yX4_pairsWithin : MethodName := ⟨RX4, "pairsWithin", "(I)I"⟩
abbrev cX4_fullPairs : ByteArray := prog_6_method_43_code
def yX4_fullPairs : MethodName := ⟨RX4, "fullPairs", "(I)I"⟩
abbrev cX4_bound : ByteArray := prog_6_method_44_code
def yX4_bound : MethodName := ⟨RX4, "bound", "()I"⟩
abbrev cX4_roomOf : ByteArray := prog_6_method_45_code
def yX4_roomOf : MethodName := ⟨RX4, "roomOf", "(I)I"⟩
abbrev cX4_firstLinkBelow : ByteArray := prog_6_method_46_code
def yX4_firstLinkBelow : MethodName := ⟨RX4, "firstLinkBelow", "()I"⟩
abbrev cX4_firstLoosePair : ByteArray := prog_6_method_47_code
def yX4_firstLoosePair : MethodName := ⟨RX4, "firstLoosePair", "()I"⟩
abbrev cX4_firstPricedLone : ByteArray := prog_6_method_48_code
def yX4_firstPricedLone : MethodName := ⟨RX4, "firstPricedLone", "()I"⟩
abbrev cX4_firstCrownedUnfilled : ByteArray := prog_6_method_49_code
def yX4_firstCrownedUnfilled : MethodName := ⟨RX4, "firstCrownedUnfilled", "()I"⟩
abbrev cX4_pairUp : ByteArray := prog_6_method_50_code
def yX4_pairUp : MethodName := ⟨RX4, "pairUp", "(II)I"⟩
abbrev cX4_partFrom : ByteArray := prog_6_method_51_code
def yX4_partFrom : MethodName := ⟨RX4, "partFrom", "(I)I"⟩
abbrev cX4_weighAnew : ByteArray := prog_6_method_52_code
def yX4_weighAnew : MethodName := ⟨RX4, "weighAnew", "(III)I"⟩
abbrev cX4_priceAt : ByteArray := prog_6_method_53_code
def yX4_priceAt : MethodName := ⟨RX4, "priceAt", "(II)I"⟩
abbrev cX4_crownAt : ByteArray := prog_6_method_54_code
def yX4_crownAt : MethodName := ⟨RX4, "crownAt", "(II)I"⟩
abbrev cX4_openSet : ByteArray := prog_6_method_55_code
def yX4_openSet : MethodName := ⟨RX4, "openSet", "(I)I"⟩
abbrev cX4_turnAlong : ByteArray := prog_6_method_56_code
def yX4_turnAlong : MethodName := ⟨RX4, "turnAlong", "(LHeavyPairs$Row;)I"⟩
abbrev cX4_shrinkAlong : ByteArray := prog_6_method_57_code
def yX4_shrinkAlong : MethodName := ⟨RX4, "shrinkAlong", "(LHeavyPairs$Row;)I"⟩
abbrev cX4_goesByPairs : ByteArray := prog_6_method_58_code
def yX4_goesByPairs : MethodName := ⟨RX4, "goesByPairs", "(LHeavyPairs$Row;)Z"⟩
def RX5 : String := "HeavyPairs$NetworkText"
def TX5 : u_T := fun k => match k with
  | 0 => ("HeavyPairs$NetworkText", "told", "LHeavyPairs$Network;", true)
  | 1 => ("HeavyPairs$NetworkText", "lines", "I", false)
  | _ => ("HeavyPairs$NetworkText", "priced", "I", false)
def tyX5 : Nat → FieldType := fun k => match k with
  | 0 => .object "HeavyPairs$Network"
  | 1 => .int
  | _ => .int
abbrev wsX50 : List Cond := u_ws RX5 TX5 3
theorem nmX5 : ∀ a, a < 3 → ∀ b, b < 3 → a ≠ b → (TX5 a).2.1 ≠ (TX5 b).2.1 := by decide +kernel
theorem tyX5_ok : ∀ k, k < 3 → parseFieldDescriptor (TX5 k).2.2.1 = some (tyX5 k) := by decide +kernel
abbrev cX5_init : ByteArray := prog_7_method_1_code
def yX5_init : MethodName := ⟨RX5, "<init>", "()V"⟩
abbrev cX5_result : ByteArray := prog_7_method_2_code
def yX5_result : MethodName := ⟨RX5, "result", "()LHeavyPairs$Network;"⟩
abbrev cX5_lines : ByteArray := prog_7_method_3_code
def yX5_lines : MethodName := ⟨RX5, "lines", "()I"⟩
abbrev cX5_read : ByteArray := prog_7_method_4_code
def yX5_read : MethodName := ⟨RX5, "read", "(LHeavyPairs$Tape;)Z"⟩
abbrev cX5_readLine : ByteArray := prog_7_method_5_code
def yX5_readLine : MethodName := ⟨RX5, "readLine", "(LHeavyPairs$Tape;)Z"⟩
abbrev cX5_readPoint : ByteArray := prog_7_method_6_code
def yX5_readPoint : MethodName := ⟨RX5, "readPoint", "(LHeavyPairs$Tape;)Z"⟩
abbrev cX5_readLink : ByteArray := prog_7_method_7_code
def yX5_readLink : MethodName := ⟨RX5, "readLink", "(LHeavyPairs$Tape;)Z"⟩
abbrev cX5_readPair : ByteArray := prog_7_method_8_code
def yX5_readPair : MethodName := ⟨RX5, "readPair", "(LHeavyPairs$Tape;)Z"⟩
abbrev cX5_readPrice : ByteArray := prog_7_method_9_code
def yX5_readPrice : MethodName := ⟨RX5, "readPrice", "(LHeavyPairs$Tape;)Z"⟩
abbrev cX5_readSet : ByteArray := prog_7_method_10_code
def yX5_readSet : MethodName := ⟨RX5, "readSet", "(LHeavyPairs$Tape;)Z"⟩
def RX6 : String := "HeavyPairs$Picture"
def TX6 : u_T := fun k => match k with
  | 0 => ("HeavyPairs$Picture", "kept", "LHeavyPairs$Network;", true)
  | 1 => ("HeavyPairs$Picture", "keptSaying", "LHeavyPairs$Saying;", true)
  | _ => ("HeavyPairs$Picture", "filled", "Z", false)
def tyX6 : Nat → FieldType := fun k => match k with
  | 0 => .object "HeavyPairs$Network"
  | 1 => .object "HeavyPairs$Saying"
  | _ => .boolean
abbrev wsX60 : List Cond := u_ws RX6 TX6 3
theorem nmX6 : ∀ a, a < 3 → ∀ b, b < 3 → a ≠ b → (TX6 a).2.1 ≠ (TX6 b).2.1 := by decide +kernel
theorem tyX6_ok : ∀ k, k < 3 → parseFieldDescriptor (TX6 k).2.2.1 = some (tyX6 k) := by decide +kernel
abbrev cX6_init : ByteArray := prog_8_method_1_code
def yX6_init : MethodName := ⟨RX6, "<init>", "()V"⟩
abbrev cX6_take : ByteArray := prog_8_method_2_code
def yX6_take : MethodName := ⟨RX6, "take", "(LHeavyPairs$Network;LHeavyPairs$Saying;)V"⟩
abbrev cX6_giveBack : ByteArray := prog_8_method_3_code
def yX6_giveBack : MethodName := ⟨RX6, "giveBack", "(LHeavyPairs$Network;LHeavyPairs$Saying;)Z"⟩
def RX7 : String := "HeavyPairs$Row"
def TX7 : u_T := fun k => match k with
  | 0 => ("HeavyPairs$Row", "items", "[I", true)
  | _ => ("HeavyPairs$Row", "length", "I", false)
def tyX7 : Nat → FieldType := fun k => match k with
  | 0 => .array .int
  | _ => .int
abbrev wsX70 : List Cond := u_ws RX7 TX7 2
theorem nmX7 : ∀ a, a < 2 → ∀ b, b < 2 → a ≠ b → (TX7 a).2.1 ≠ (TX7 b).2.1 := by decide +kernel
theorem tyX7_ok : ∀ k, k < 2 → parseFieldDescriptor (TX7 k).2.2.1 = some (tyX7 k) := by decide +kernel
abbrev cX7_init : ByteArray := prog_9_method_1_code
def yX7_init : MethodName := ⟨RX7, "<init>", "(I)V"⟩
abbrev cX7_size : ByteArray := prog_9_method_2_code
def yX7_size : MethodName := ⟨RX7, "size", "()I"⟩
abbrev cX7_at : ByteArray := prog_9_method_3_code
def yX7_at : MethodName := ⟨RX7, "at", "(I)I"⟩
abbrev cX7_clear : ByteArray := prog_9_method_4_code
def yX7_clear : MethodName := ⟨RX7, "clear", "()V"⟩
abbrev cX7_add : ByteArray := prog_9_method_5_code
def yX7_add : MethodName := ⟨RX7, "add", "(I)V"⟩
abbrev cX7_dropTwo : ByteArray := prog_9_method_6_code
def yX7_dropTwo : MethodName := ⟨RX7, "dropTwo", "()V"⟩
abbrev cX7_copyFrom : ByteArray := prog_9_method_7_code
def yX7_copyFrom : MethodName := ⟨RX7, "copyFrom", "(LHeavyPairs$Row;)V"⟩
abbrev cX7_addText : ByteArray := prog_9_method_8_code
def yX7_addText : MethodName := ⟨RX7, "addText", "(Ljava/lang/String;)V"⟩
abbrev cX7_addName : ByteArray := prog_9_method_9_code
def yX7_addName : MethodName := ⟨RX7, "addName", "(J)V"⟩
abbrev cX7_addDigits : ByteArray := prog_9_method_10_code
def yX7_addDigits : MethodName := ⟨RX7, "addDigits", "(I)V"⟩
def RX8 : String := "HeavyPairs$Saying"
def TX8 : u_T := fun k => match k with
  | 0 => ("HeavyPairs$Saying", "part", "[I", true)
  | 1 => ("HeavyPairs$Saying", "sign", "[I", true)
  | 2 => ("HeavyPairs$Saying", "value", "[I", true)
  | 3 => ("HeavyPairs$Saying", "pile", "[I", true)
  | 4 => ("HeavyPairs$Saying", "parts", "I", false)
  | 5 => ("HeavyPairs$Saying", "ones", "I", false)
  | _ => ("HeavyPairs$Saying", "stands", "Z", false)
def tyX8 : Nat → FieldType := fun k => match k with
  | 0 => .array .int
  | 1 => .array .int
  | 2 => .array .int
  | 3 => .array .int
  | 4 => .int
  | 5 => .int
  | _ => .boolean
abbrev wsX80 : List Cond := u_ws RX8 TX8 7
theorem nmX8 : ∀ a, a < 7 → ∀ b, b < 7 → a ≠ b → (TX8 a).2.1 ≠ (TX8 b).2.1 := by decide +kernel
theorem tyX8_ok : ∀ k, k < 7 → parseFieldDescriptor (TX8 k).2.2.1 = some (tyX8 k) := by decide +kernel
abbrev cX8_init : ByteArray := prog_10_method_1_code
def yX8_init : MethodName := ⟨RX8, "<init>", "()V"⟩
abbrev cX8_stands : ByteArray := prog_10_method_2_code
def yX8_stands : MethodName := ⟨RX8, "stands", "()Z"⟩
abbrev cX8_ones : ByteArray := prog_10_method_3_code
def yX8_ones : MethodName := ⟨RX8, "ones", "()I"⟩
abbrev cX8_clear : ByteArray := prog_10_method_4_code
def yX8_clear : MethodName := ⟨RX8, "clear", "()V"⟩
abbrev cX8_copyFrom : ByteArray := prog_10_method_5_code
def yX8_copyFrom : MethodName := ⟨RX8, "copyFrom", "(LHeavyPairs$Saying;)V"⟩
abbrev cX8_read : ByteArray := prog_10_method_6_code
def yX8_read : MethodName := ⟨RX8, "read", "(LHeavyPairs$Tape;LHeavyPairs$Network;)Z"⟩
abbrev cX8_readCond : ByteArray := prog_10_method_7_code
def yX8_readCond : MethodName := ⟨RX8, "readCond", "(LHeavyPairs$Tape;LHeavyPairs$Network;I)Z"⟩
abbrev cX8_readAll : ByteArray := prog_10_method_8_code
def yX8_readAll : MethodName := ⟨RX8, "readAll", "(LHeavyPairs$Tape;LHeavyPairs$Network;I)Z"⟩
abbrev cX8_readOne : ByteArray := prog_10_method_9_code
def yX8_readOne : MethodName := ⟨RX8, "readOne", "(LHeavyPairs$Tape;LHeavyPairs$Network;I)Z"⟩
abbrev cX8_putIfRead : ByteArray := prog_10_method_10_code
def yX8_putIfRead : MethodName := ⟨RX8, "putIfRead", "(III)Z"⟩
abbrev cX8_put : ByteArray := prog_10_method_11_code
def yX8_put : MethodName := ⟨RX8, "put", "(III)Z"⟩
abbrev cX8_pointsOf : ByteArray := prog_10_method_12_code
def yX8_pointsOf : MethodName := ⟨RX8, "pointsOf", "(LHeavyPairs$Network;)I"⟩
abbrev cX8_pointsOfOne : ByteArray := prog_10_method_13_code
def yX8_pointsOfOne : MethodName := ⟨RX8, "pointsOfOne", "(LHeavyPairs$Network;III)I"⟩
abbrev cX8_pointsCompared : ByteArray := prog_10_method_14_code
def yX8_pointsCompared : MethodName := ⟨RX8, "pointsCompared", "(LHeavyPairs$Network;III)I"⟩
abbrev cX8_measureOf : ByteArray := prog_10_method_15_code
def yX8_measureOf : MethodName := ⟨RX8, "measureOf", "(LHeavyPairs$Network;II)I"⟩
def RX9 : String := "HeavyPairs$Search"
def TX9 : u_T := fun k => match k with
  | 0 => ("HeavyPairs$Search", "row", "LHeavyPairs$Row;", true)
  | _ => ("HeavyPairs$Search", "greatest", "I", false)
def tyX9 : Nat → FieldType := fun k => match k with
  | 0 => .object "HeavyPairs$Row"
  | _ => .int
abbrev wsX90 : List Cond := u_ws RX9 TX9 2
theorem nmX9 : ∀ a, a < 2 → ∀ b, b < 2 → a ≠ b → (TX9 a).2.1 ≠ (TX9 b).2.1 := by decide +kernel
theorem tyX9_ok : ∀ k, k < 2 → parseFieldDescriptor (TX9 k).2.2.1 = some (tyX9 k) := by decide +kernel
abbrev cX9_init : ByteArray := prog_11_method_1_code
def yX9_init : MethodName := ⟨RX9, "<init>", "()V"⟩
abbrev cX9_row : ByteArray := prog_11_method_2_code
def yX9_row : MethodName := ⟨RX9, "row", "()LHeavyPairs$Row;"⟩
abbrev cX9_findPath : ByteArray := prog_11_method_3_code
def yX9_findPath : MethodName := ⟨RX9, "findPath", "(LHeavyPairs$Network;I)Z"⟩
abbrev cX9_findFlower : ByteArray := prog_11_method_4_code
def yX9_findFlower : MethodName := ⟨RX9, "findFlower", "(LHeavyPairs$Network;I)Z"⟩
abbrev cX9_findRow : ByteArray := prog_11_method_5_code
def yX9_findRow : MethodName := ⟨RX9, "findRow", "(LHeavyPairs$Network;IIZ)Z"⟩
abbrev cX9_goOn : ByteArray := prog_11_method_6_code
def yX9_goOn : MethodName := ⟨RX9, "goOn", "(LHeavyPairs$Network;IIZ)Z"⟩
abbrev cX9_growFrom : ByteArray := prog_11_method_7_code
def yX9_growFrom : MethodName := ⟨RX9, "growFrom", "(LHeavyPairs$Network;I)I"⟩
abbrev cX9_greatestGain : ByteArray := prog_11_method_8_code
def yX9_greatestGain : MethodName := ⟨RX9, "greatestGain", "(LHeavyPairs$Network;)I"⟩
abbrev cX9_strokeOn : ByteArray := prog_11_method_9_code
def yX9_strokeOn : MethodName := ⟨RX9, "strokeOn", "(LHeavyPairs$Network;IIIII)V"⟩
def RX10 : String := "HeavyPairs$Tape"
def TX10 : u_T := fun k => match k with
  | 0 => ("HeavyPairs$Tape", "bytes", "[I", true)
  | 1 => ("HeavyPairs$Tape", "toldWords", "[J", true)
  | 2 => ("HeavyPairs$Tape", "length", "I", false)
  | 3 => ("HeavyPairs$Tape", "most", "I", false)
  | 4 => ("HeavyPairs$Tape", "place", "I", false)
  | 5 => ("HeavyPairs$Tape", "overlong", "Z", false)
  | 6 => ("HeavyPairs$Tape", "kind", "I", false)
  | 7 => ("HeavyPairs$Tape", "start", "I", false)
  | 8 => ("HeavyPairs$Tape", "number", "I", false)
  | 9 => ("HeavyPairs$Tape", "word", "J", false)
  | 10 => ("HeavyPairs$Tape", "faultKind", "I", false)
  | _ => ("HeavyPairs$Tape", "faultAt", "I", false)
def tyX10 : Nat → FieldType := fun k => match k with
  | 0 => .array .int
  | 1 => .array .long
  | 2 => .int
  | 3 => .int
  | 4 => .int
  | 5 => .boolean
  | 6 => .int
  | 7 => .int
  | 8 => .int
  | 9 => .long
  | 10 => .int
  | _ => .int
abbrev wsX100 : List Cond := u_ws RX10 TX10 12
theorem nmX10 : ∀ a, a < 12 → ∀ b, b < 12 → a ≠ b → (TX10 a).2.1 ≠ (TX10 b).2.1 := by decide +kernel
theorem tyX10_ok : ∀ k, k < 12 → parseFieldDescriptor (TX10 k).2.2.1 = some (tyX10 k) := by decide +kernel
abbrev cX10_init : ByteArray := prog_12_method_1_code
def yX10_init : MethodName := ⟨RX10, "<init>", "()V"⟩
abbrev cX10_length : ByteArray := prog_12_method_2_code
def yX10_length : MethodName := ⟨RX10, "length", "()I"⟩
abbrev cX10_signAt : ByteArray := prog_12_method_3_code
def yX10_signAt : MethodName := ⟨RX10, "signAt", "(I)I"⟩
abbrev cX10_putFour : ByteArray := prog_12_method_4_code
def yX10_putFour : MethodName := ⟨RX10, "putFour", "(I)V"⟩
abbrev cX10_cut : ByteArray := prog_12_method_5_code
def yX10_cut : MethodName := ⟨RX10, "cut", "(I)V"⟩
abbrev cX10_faultKind : ByteArray := prog_12_method_6_code
def yX10_faultKind : MethodName := ⟨RX10, "faultKind", "()I"⟩
abbrev cX10_faultAt : ByteArray := prog_12_method_7_code
def yX10_faultAt : MethodName := ⟨RX10, "faultAt", "()I"⟩
abbrev cX10_kind : ByteArray := prog_12_method_8_code
def yX10_kind : MethodName := ⟨RX10, "kind", "()I"⟩
abbrev cX10_word : ByteArray := prog_12_method_9_code
def yX10_word : MethodName := ⟨RX10, "word", "()J"⟩
abbrev cX10_begin : ByteArray := prog_12_method_10_code
def yX10_begin : MethodName := ⟨RX10, "begin", "(I)V"⟩
abbrev cX10_advance : ByteArray := prog_12_method_11_code
def yX10_advance : MethodName := ⟨RX10, "advance", "()V"⟩
abbrev cX10_readChunk : ByteArray := prog_12_method_12_code
def yX10_readChunk : MethodName := ⟨RX10, "readChunk", "()V"⟩
abbrev cX10_fail : ByteArray := prog_12_method_13_code
def yX10_fail : MethodName := ⟨RX10, "fail", "(I)Z"⟩
abbrev cX10_take : ByteArray := prog_12_method_14_code
def yX10_take : MethodName := ⟨RX10, "take", "(I)Z"⟩
abbrev cX10_takeNumber : ByteArray := prog_12_method_15_code
def yX10_takeNumber : MethodName := ⟨RX10, "takeNumber", "(II)I"⟩
abbrev cX10_pointHere : ByteArray := prog_12_method_16_code
def yX10_pointHere : MethodName := ⟨RX10, "pointHere", "(LHeavyPairs$Network;)I"⟩
abbrev cX10_takePoint : ByteArray := prog_12_method_17_code
def yX10_takePoint : MethodName := ⟨RX10, "takePoint", "(LHeavyPairs$Network;)I"⟩
abbrev cX10_endsHere : ByteArray := prog_12_method_18_code
def yX10_endsHere : MethodName := ⟨RX10, "endsHere", "()Z"⟩
def RX11 : String := "HeavyPairs"
def TX11 : u_T := fun k => match k with
  | 0 => ("HeavyPairs", "tape", "LHeavyPairs$Tape;", true)
  | 1 => ("HeavyPairs", "net", "LHeavyPairs$Network;", true)
  | 2 => ("HeavyPairs", "trial", "LHeavyPairs$Network;", true)
  | 3 => ("HeavyPairs", "networkText", "LHeavyPairs$NetworkText;", true)
  | 4 => ("HeavyPairs", "search", "LHeavyPairs$Search;", true)
  | 5 => ("HeavyPairs", "path", "LHeavyPairs$Row;", true)
  | 6 => ("HeavyPairs", "blossom", "LHeavyPairs$Row;", true)
  | 7 => ("HeavyPairs", "heaviest", "LHeavyPairs$Heaviest;", true)
  | 8 => ("HeavyPairs", "bestPartners", "LHeavyPairs$Row;", true)
  | 9 => ("HeavyPairs", "history", "LHeavyPairs$History;", true)
  | 10 => ("HeavyPairs", "latestBook", "LHeavyPairs$Book;", true)
  | 11 => ("HeavyPairs", "saying", "LHeavyPairs$Saying;", true)
  | 12 => ("HeavyPairs", "newSaying", "LHeavyPairs$Saying;", true)
  | 13 => ("HeavyPairs", "pictures", "[LHeavyPairs$Picture;", true)
  | 14 => ("HeavyPairs", "draws", "LHeavyPairs$Draws;", true)
  | 15 => ("HeavyPairs", "label", "LHeavyPairs$Row;", true)
  | 16 => ("HeavyPairs", "flawAt", "I", false)
  | 17 => ("HeavyPairs", "flawBy", "I", false)
  | _ => ("HeavyPairs", "asked", "I", false)
def tyX11 : Nat → FieldType := fun k => match k with
  | 0 => .object "HeavyPairs$Tape"
  | 1 => .object "HeavyPairs$Network"
  | 2 => .object "HeavyPairs$Network"
  | 3 => .object "HeavyPairs$NetworkText"
  | 4 => .object "HeavyPairs$Search"
  | 5 => .object "HeavyPairs$Row"
  | 6 => .object "HeavyPairs$Row"
  | 7 => .object "HeavyPairs$Heaviest"
  | 8 => .object "HeavyPairs$Row"
  | 9 => .object "HeavyPairs$History"
  | 10 => .object "HeavyPairs$Book"
  | 11 => .object "HeavyPairs$Saying"
  | 12 => .object "HeavyPairs$Saying"
  | 13 => .array (.object "HeavyPairs$Picture")
  | 14 => .object "HeavyPairs$Draws"
  | 15 => .object "HeavyPairs$Row"
  | 16 => .int
  | 17 => .int
  | _ => .int
abbrev wsX110 : List Cond := u_ws RX11 TX11 19
theorem nmX11 : ∀ a, a < 19 → ∀ b, b < 19 → a ≠ b → (TX11 a).2.1 ≠ (TX11 b).2.1 := by decide +kernel
theorem tyX11_ok : ∀ k, k < 19 → parseFieldDescriptor (TX11 k).2.2.1 = some (tyX11 k) := by decide +kernel
abbrev cX11_init : ByteArray := prog_1_method_1_code
def yX11_init : MethodName := ⟨RX11, "<init>", "()V"⟩
abbrev cX11_feed : ByteArray := prog_1_method_2_code
def yX11_feed : MethodName := ⟨RX11, "feed", "(IIIII)I"⟩
abbrev cX11_end : ByteArray := prog_1_method_3_code
def yX11_end : MethodName := ⟨RX11, "end", "(I)Z"⟩
abbrev cX11_network : ByteArray := prog_1_method_4_code
def yX11_network : MethodName := ⟨RX11, "network", "()I"⟩
abbrev cX11_fault : ByteArray := prog_1_method_5_code
def yX11_fault : MethodName := ⟨RX11, "fault", "()I"⟩
abbrev cX11_point : ByteArray := prog_1_method_6_code
def yX11_point : MethodName := ⟨RX11, "point", "(II)I"⟩
abbrev cX11_link : ByteArray := prog_1_method_7_code
def yX11_link : MethodName := ⟨RX11, "link", "(II)I"⟩
abbrev cX11_slack : ByteArray := prog_1_method_8_code
def yX11_slack : MethodName := ⟨RX11, "slack", "(I)I"⟩
abbrev cX11_odd : ByteArray := prog_1_method_9_code
def yX11_odd : MethodName := ⟨RX11, "odd", "(II)I"⟩
abbrev cX11_now : ByteArray := prog_1_method_10_code
def yX11_now : MethodName := ⟨RX11, "now", "(I)I"⟩
abbrev cX11_pair : ByteArray := prog_1_method_11_code
def yX11_pair : MethodName := ⟨RX11, "pair", "(II)I"⟩
abbrev cX11_part : ByteArray := prog_1_method_12_code
def yX11_part : MethodName := ⟨RX11, "part", "(I)I"⟩
abbrev cX11_weigh : ByteArray := prog_1_method_13_code
def yX11_weigh : MethodName := ⟨RX11, "weigh", "(III)I"⟩
abbrev cX11_price : ByteArray := prog_1_method_14_code
def yX11_price : MethodName := ⟨RX11, "price", "(II)I"⟩
abbrev cX11_crown : ByteArray := prog_1_method_15_code
def yX11_crown : MethodName := ⟨RX11, "crown", "(II)I"⟩
abbrev cX11_open : ByteArray := prog_1_method_16_code
def yX11_open : MethodName := ⟨RX11, "open", "(I)I"⟩
abbrev cX11_grow : ByteArray := prog_1_method_17_code
def yX11_grow : MethodName := ⟨RX11, "grow", "(I)I"⟩
abbrev cX11_growAt : ByteArray := prog_1_method_18_code
def yX11_growAt : MethodName := ⟨RX11, "growAt", "(I)I"⟩
abbrev cX11_turn : ByteArray := prog_1_method_19_code
def yX11_turn : MethodName := ⟨RX11, "turn", "()I"⟩
abbrev cX11_flower : ByteArray := prog_1_method_20_code
def yX11_flower : MethodName := ⟨RX11, "flower", "(I)I"⟩
abbrev cX11_flowerAt : ByteArray := prog_1_method_21_code
def yX11_flowerAt : MethodName := ⟨RX11, "flowerAt", "(I)I"⟩
abbrev cX11_shrink : ByteArray := prog_1_method_22_code
def yX11_shrink : MethodName := ⟨RX11, "shrink", "()I"⟩
abbrev cX11_undo : ByteArray := prog_1_method_23_code
def yX11_undo : MethodName := ⟨RX11, "undo", "()I"⟩
abbrev cX11_proof : ByteArray := prog_1_method_24_code
def yX11_proof : MethodName := ⟨RX11, "proof", "()I"⟩
abbrev cX11_proofAt : ByteArray := prog_1_method_25_code
def yX11_proofAt : MethodName := ⟨RX11, "proofAt", "()I"⟩
abbrev cX11_proofBy : ByteArray := prog_1_method_26_code
def yX11_proofBy : MethodName := ⟨RX11, "proofBy", "()I"⟩
abbrev cX11_room : ByteArray := prog_1_method_27_code
def yX11_room : MethodName := ⟨RX11, "room", "(I)I"⟩
abbrev cX11_best : ByteArray := prog_1_method_28_code
def yX11_best : MethodName := ⟨RX11, "best", "()I"⟩
abbrev cX11_bestOf : ByteArray := prog_1_method_29_code
def yX11_bestOf : MethodName := ⟨RX11, "bestOf", "(I)I"⟩
abbrev cX11_next : ByteArray := prog_1_method_30_code
def yX11_next : MethodName := ⟨RX11, "next", "()I"⟩
abbrev cX11_heavy : ByteArray := prog_1_method_31_code
def yX11_heavy : MethodName := ⟨RX11, "heavy", "(I)I"⟩
abbrev cX11_ways : ByteArray := prog_1_method_32_code
def yX11_ways : MethodName := ⟨RX11, "ways", "(I)I"⟩
abbrev cX11_gain : ByteArray := prog_1_method_33_code
def yX11_gain : MethodName := ⟨RX11, "gain", "()I"⟩
abbrev cX11_who : ByteArray := prog_1_method_34_code
def yX11_who : MethodName := ⟨RX11, "who", "()I"⟩
abbrev cX11_ask : ByteArray := prog_1_method_35_code
def yX11_ask : MethodName := ⟨RX11, "ask", "()I"⟩
abbrev cX11_mean : ByteArray := prog_1_method_36_code
def yX11_mean : MethodName := ⟨RX11, "mean", "(I)I"⟩
abbrev cX11_tag : ByteArray := prog_1_method_37_code
def yX11_tag : MethodName := ⟨RX11, "tag", "(I)I"⟩
abbrev cX11_byteAt : ByteArray := prog_1_method_38_code
def yX11_byteAt : MethodName := ⟨RX11, "byteAt", "(I)I"⟩
abbrev cX11_drawn : ByteArray := prog_1_method_39_code
def yX11_drawn : MethodName := ⟨RX11, "drawn", "(II)I"⟩
abbrev cX11_odds : ByteArray := prog_1_method_40_code
def yX11_odds : MethodName := ⟨RX11, "odds", "(III)I"⟩
abbrev cX11_book : ByteArray := prog_1_method_41_code
def yX11_book : MethodName := ⟨RX11, "book", "(I)I"⟩
abbrev cX11_told : ByteArray := prog_1_method_42_code
def yX11_told : MethodName := ⟨RX11, "told", "(I)I"⟩
abbrev cX11_sentence : ByteArray := prog_1_method_43_code
def yX11_sentence : MethodName := ⟨RX11, "sentence", "()I"⟩
abbrev cX11_said : ByteArray := prog_1_method_44_code
def yX11_said : MethodName := ⟨RX11, "said", "(I)I"⟩
abbrev cX11_image : ByteArray := prog_1_method_45_code
def yX11_image : MethodName := ⟨RX11, "image", "(I)Z"⟩
abbrev cX11_restore : ByteArray := prog_1_method_46_code
def yX11_restore : MethodName := ⟨RX11, "restore", "(I)Z"⟩
abbrev cX11_count : ByteArray := prog_1_method_47_code
def yX11_count : MethodName := ⟨RX11, "count", "(I)I"⟩
abbrev cX11_pictureAt : ByteArray := prog_1_method_48_code
def yX11_pictureAt : MethodName := ⟨RX11, "pictureAt", "(I)LHeavyPairs$Picture;"⟩
abbrev cX11_areTwo : ByteArray := prog_1_method_49_code
def yX11_areTwo : MethodName := ⟨RX11, "areTwo", "(II)Z"⟩
abbrev cX11_isPrice : ByteArray := prog_1_method_50_code
def yX11_isPrice : MethodName := ⟨RX11, "isPrice", "(I)Z"⟩
abbrev cX11_keepIfDone : ByteArray := prog_1_method_51_code
def yX11_keepIfDone : MethodName := ⟨RX11, "keepIfDone", "(I)I"⟩
abbrev cX11_noteFlaw : ByteArray := prog_1_method_52_code
def yX11_noteFlaw : MethodName := ⟨RX11, "noteFlaw", "(III)I"⟩
abbrev cX11_isAsking : ByteArray := prog_1_method_53_code
def yX11_isAsking : MethodName := ⟨RX11, "isAsking", "()Z"⟩
abbrev cX11_commonDivisor : ByteArray := prog_1_method_54_code
def yX11_commonDivisor : MethodName := ⟨RX11, "commonDivisor", "(II)I"⟩
abbrev cX11_bitNumbered : ByteArray := prog_1_method_55_code
def yX11_bitNumbered : MethodName := ⟨RX11, "bitNumbered", "(II)I"⟩
def RX12 : String := "HeavyPairsModel"
def TX12 : u_T := fun k => match k with
  | 0 => ("HeavyPairsModel", "thrown", "I", false)
  | 1 => ("HeavyPairsModel", "tape", "[I", true)
  | 2 => ("HeavyPairsModel", "taped", "I", false)
  | 3 => ("HeavyPairsModel", "size", "I", false)
  | 4 => ("HeavyPairsModel", "limit", "I", false)
  | 5 => ("HeavyPairsModel", "to", "I", false)
  | 6 => ("HeavyPairsModel", "from", "I", false)
  | 7 => ("HeavyPairsModel", "kind", "I", false)
  | 8 => ("HeavyPairsModel", "number", "I", false)
  | 9 => ("HeavyPairsModel", "sign", "I", false)
  | 10 => ("HeavyPairsModel", "fault", "I", false)
  | 11 => ("HeavyPairsModel", "place", "I", false)
  | 12 => ("HeavyPairsModel", "word", "J", false)
  | 13 => ("HeavyPairsModel", "told", "I", false)
  | 14 => ("HeavyPairsModel", "now", "[I", true)
  | 15 => ("HeavyPairsModel", "read", "[I", true)
  | 16 => ("HeavyPairsModel", "kept", "[I", true)
  | 17 => ("HeavyPairsModel", "snaps", "[I", true)
  | 18 => ("HeavyPairsModel", "aside", "[I", true)
  | 19 => ("HeavyPairsModel", "then", "[I", true)
  | 20 => ("HeavyPairsModel", "name", "[J", true)
  | 21 => ("HeavyPairsModel", "readName", "[J", true)
  | 22 => ("HeavyPairsModel", "keptName", "[J", true)
  | 23 => ("HeavyPairsModel", "isKept", "[Z", true)
  | 24 => ("HeavyPairsModel", "isPriced", "[Z", true)
  | 25 => ("HeavyPairsModel", "snapMany", "I", false)
  | 26 => ("HeavyPairsModel", "way", "[I", true)
  | 27 => ("HeavyPairsModel", "grown", "[I", true)
  | 28 => ("HeavyPairsModel", "flowered", "[I", true)
  | 29 => ("HeavyPairsModel", "grownMany", "I", false)
  | 30 => ("HeavyPairsModel", "floweredMany", "I", false)
  | 31 => ("HeavyPairsModel", "proven", "I", false)
  | 32 => ("HeavyPairsModel", "provenAt", "I", false)
  | 33 => ("HeavyPairsModel", "provenBy", "I", false)
  | 34 => ("HeavyPairsModel", "mate", "[I", true)
  | 35 => ("HeavyPairsModel", "bestMate", "[I", true)
  | 36 => ("HeavyPairsModel", "toldMate", "[I", true)
  | 37 => ("HeavyPairsModel", "heavyBy", "[I", true)
  | 38 => ("HeavyPairsModel", "waysBy", "[I", true)
  | 39 => ("HeavyPairsModel", "mostOf", "[I", true)
  | 40 => ("HeavyPairsModel", "partnerOf", "[I", true)
  | 41 => ("HeavyPairsModel", "most", "I", false)
  | 42 => ("HeavyPairsModel", "nextMost", "I", false)
  | 43 => ("HeavyPairsModel", "mostWays", "I", false)
  | 44 => ("HeavyPairsModel", "askedWays", "I", false)
  | 45 => ("HeavyPairsModel", "toldMany", "I", false)
  | 46 => ("HeavyPairsModel", "isSecond", "Z", false)
  | 47 => ("HeavyPairsModel", "askMany", "I", false)
  | 48 => ("HeavyPairsModel", "asked", "I", false)
  | 49 => ("HeavyPairsModel", "gained", "I", false)
  | 50 => ("HeavyPairsModel", "text", "[I", true)
  | 51 => ("HeavyPairsModel", "texts", "I", false)
  | 52 => ("HeavyPairsModel", "seed", "I", false)
  | 53 => ("HeavyPairsModel", "line", "[I", true)
  | 54 => ("HeavyPairsModel", "written", "[I", true)
  | 55 => ("HeavyPairsModel", "lineMany", "I", false)
  | 56 => ("HeavyPairsModel", "hasWritten", "Z", false)
  | 57 => ("HeavyPairsModel", "node", "[I", true)
  | 58 => ("HeavyPairsModel", "nodes", "I", false)
  | 59 => ("HeavyPairsModel", "onesMany", "I", false)
  | 60 => ("HeavyPairsModel", "within", "I", false)
  | _ => ("HeavyPairsModel", "top", "I", false)
def tyX12 : Nat → FieldType := fun k => match k with
  | 0 => .int
  | 1 => .array .int
  | 2 => .int
  | 3 => .int
  | 4 => .int
  | 5 => .int
  | 6 => .int
  | 7 => .int
  | 8 => .int
  | 9 => .int
  | 10 => .int
  | 11 => .int
  | 12 => .long
  | 13 => .int
  | 14 => .array .int
  | 15 => .array .int
  | 16 => .array .int
  | 17 => .array .int
  | 18 => .array .int
  | 19 => .array .int
  | 20 => .array .long
  | 21 => .array .long
  | 22 => .array .long
  | 23 => .array .boolean
  | 24 => .array .boolean
  | 25 => .int
  | 26 => .array .int
  | 27 => .array .int
  | 28 => .array .int
  | 29 => .int
  | 30 => .int
  | 31 => .int
  | 32 => .int
  | 33 => .int
  | 34 => .array .int
  | 35 => .array .int
  | 36 => .array .int
  | 37 => .array .int
  | 38 => .array .int
  | 39 => .array .int
  | 40 => .array .int
  | 41 => .int
  | 42 => .int
  | 43 => .int
  | 44 => .int
  | 45 => .int
  | 46 => .boolean
  | 47 => .int
  | 48 => .int
  | 49 => .int
  | 50 => .array .int
  | 51 => .int
  | 52 => .int
  | 53 => .array .int
  | 54 => .array .int
  | 55 => .int
  | 56 => .boolean
  | 57 => .array .int
  | 58 => .int
  | 59 => .int
  | 60 => .int
  | _ => .int
abbrev wsX120 : List Cond := u_ws RX12 TX12 62
theorem nmX12 : ∀ a, a < 62 → ∀ b, b < 62 → a ≠ b → (TX12 a).2.1 ≠ (TX12 b).2.1 := by decide +kernel
theorem tyX12_ok : ∀ k, k < 62 → parseFieldDescriptor (TX12 k).2.2.1 = some (tyX12 k) := by decide +kernel
abbrev cX12_thrown : ByteArray := prog_14_method_1_code
def yX12_thrown : MethodName := ⟨RX12, "thrown", "()I"⟩
abbrev cX12_refuse : ByteArray := prog_14_method_2_code
def yX12_refuse : MethodName := ⟨RX12, "refuse", "()I"⟩
abbrev cX12_come : ByteArray := prog_14_method_3_code
def yX12_come : MethodName := ⟨RX12, "come", "(I)V"⟩
abbrev cX12_feed : ByteArray := prog_14_method_4_code
def yX12_feed : MethodName := ⟨RX12, "feed", "(IIIII)I"⟩
abbrev cX12_end : ByteArray := prog_14_method_5_code
def yX12_end : MethodName := ⟨RX12, "end", "(I)Z"⟩
abbrev cX12_take : ByteArray := prog_14_method_6_code
def yX12_take : MethodName := ⟨RX12, "take", "()I"⟩
abbrev cX12_isIn : ByteArray := prog_14_method_7_code
def yX12_isIn : MethodName := ⟨RX12, "isIn", "(III)Z"⟩
abbrev cX12_has : ByteArray := prog_14_method_8_code
def yX12_has : MethodName := ⟨RX12, "has", "(II)Z"⟩
abbrev cX12_bits : ByteArray := prog_14_method_9_code
def yX12_bits : MethodName := ⟨RX12, "bits", "(I)I"⟩
abbrev cX12_common : ByteArray := prog_14_method_12_code
def yX12_common : MethodName := ⟨RX12, "common", "(II)I"⟩
abbrev cX12_tapeAt : ByteArray := prog_14_method_13_code
def yX12_tapeAt : MethodName := ⟨RX12, "tapeAt", "(I)I"⟩
abbrev cX12_isDigit : ByteArray := prog_14_method_14_code
def yX12_isDigit : MethodName := ⟨RX12, "isDigit", "(I)Z"⟩
abbrev cX12_isLetter : ByteArray := prog_14_method_15_code
def yX12_isLetter : MethodName := ⟨RX12, "isLetter", "(I)Z"⟩
abbrev cX12_go : ByteArray := prog_14_method_16_code
def yX12_go : MethodName := ⟨RX12, "go", "()V"⟩
abbrev cX12_spelt : ByteArray := prog_14_method_17_code
def yX12_spelt : MethodName := ⟨RX12, "spelt", "(IIIIII)J"⟩
abbrev cX12_wordOf : ByteArray := prog_14_method_18_code
def yX12_wordOf : MethodName := ⟨RX12, "wordOf", "(I)J"⟩
abbrev cX12_isWord : ByteArray := prog_14_method_19_code
def yX12_isWord : MethodName := ⟨RX12, "isWord", "(I)Z"⟩
abbrev cX12_isSign : ByteArray := prog_14_method_20_code
def yX12_isSign : MethodName := ⟨RX12, "isSign", "(I)Z"⟩
abbrev cX12_isName : ByteArray := prog_14_method_21_code
def yX12_isName : MethodName := ⟨RX12, "isName", "()Z"⟩
abbrev cX12_bad : ByteArray := prog_14_method_22_code
def yX12_bad : MethodName := ⟨RX12, "bad", "(I)Z"⟩
abbrev cX12_readNumber : ByteArray := prog_14_method_23_code
def yX12_readNumber : MethodName := ⟨RX12, "readNumber", "(II)Z"⟩
abbrev cX12_readEnd : ByteArray := prog_14_method_24_code
def yX12_readEnd : MethodName := ⟨RX12, "readEnd", "()Z"⟩
abbrev cX12_begin : ByteArray := prog_14_method_25_code
def yX12_begin : MethodName := ⟨RX12, "begin", "(I)V"⟩
abbrev cX12_init : ByteArray := prog_14_method_26_code
def yX12_init : MethodName := ⟨RX12, "<init>", "()V"⟩
abbrev cX12_startSo : ByteArray := prog_14_method_27_code
def yX12_startSo : MethodName := ⟨RX12, "startSo", "()V"⟩
abbrev cX12_findIn : ByteArray := prog_14_method_28_code
def yX12_findIn : MethodName := ⟨RX12, "findIn", "([JIIJ)I"⟩
abbrev cX12_readFirst : ByteArray := prog_14_method_29_code
def yX12_readFirst : MethodName := ⟨RX12, "readFirst", "(II)Z"⟩
abbrev cX12_noted : ByteArray := prog_14_method_30_code
def yX12_noted : MethodName := ⟨RX12, "noted", "(IZ)Z"⟩
abbrev cX12_readPoint : ByteArray := prog_14_method_31_code
def yX12_readPoint : MethodName := ⟨RX12, "readPoint", "()Z"⟩
abbrev cX12_isHere : ByteArray := prog_14_method_32_code
def yX12_isHere : MethodName := ⟨RX12, "isHere", "()Z"⟩
abbrev cX12_linkIn : ByteArray := prog_14_method_33_code
def yX12_linkIn : MethodName := ⟨RX12, "linkIn", "([III)I"⟩
abbrev cX12_readLink : ByteArray := prog_14_method_34_code
def yX12_readLink : MethodName := ⟨RX12, "readLink", "()Z"⟩
abbrev cX12_readPair : ByteArray := prog_14_method_35_code
def yX12_readPair : MethodName := ⟨RX12, "readPair", "()Z"⟩
abbrev cX12_readPrice : ByteArray := prog_14_method_36_code
def yX12_readPrice : MethodName := ⟨RX12, "readPrice", "()Z"⟩
abbrev cX12_isOddIn : ByteArray := prog_14_method_37_code
def yX12_isOddIn : MethodName := ⟨RX12, "isOddIn", "([IIII)Z"⟩
abbrev cX12_readOdd : ByteArray := prog_14_method_38_code
def yX12_readOdd : MethodName := ⟨RX12, "readOdd", "()Z"⟩
abbrev cX12_readLine : ByteArray := prog_14_method_39_code
def yX12_readLine : MethodName := ⟨RX12, "readLine", "()Z"⟩
abbrev cX12_network : ByteArray := prog_14_method_40_code
def yX12_network : MethodName := ⟨RX12, "network", "()I"⟩
abbrev cX12_fault : ByteArray := prog_14_method_41_code
def yX12_fault : MethodName := ⟨RX12, "fault", "()I"⟩
abbrev cX12_isPoint : ByteArray := prog_14_method_42_code
def yX12_isPoint : MethodName := ⟨RX12, "isPoint", "(I)Z"⟩
abbrev cX12_areTwo : ByteArray := prog_14_method_43_code
def yX12_areTwo : MethodName := ⟨RX12, "areTwo", "(II)Z"⟩
abbrev cX12_isLink : ByteArray := prog_14_method_44_code
def yX12_isLink : MethodName := ⟨RX12, "isLink", "(I)Z"⟩
abbrev cX12_isOdd : ByteArray := prog_14_method_45_code
def yX12_isOdd : MethodName := ⟨RX12, "isOdd", "(I)Z"⟩
abbrev cX12_between : ByteArray := prog_14_method_46_code
def yX12_between : MethodName := ⟨RX12, "between", "(II)I"⟩
abbrev cX12_areLinked : ByteArray := prog_14_method_47_code
def yX12_areLinked : MethodName := ⟨RX12, "areLinked", "(II)Z"⟩
abbrev cX12_isLone : ByteArray := prog_14_method_48_code
def yX12_isLone : MethodName := ⟨RX12, "isLone", "(I)Z"⟩
abbrev cX12_arePaired : ByteArray := prog_14_method_49_code
def yX12_arePaired : MethodName := ⟨RX12, "arePaired", "(II)Z"⟩
abbrev cX12_isOfPair : ByteArray := prog_14_method_50_code
def yX12_isOfPair : MethodName := ⟨RX12, "isOfPair", "(I)Z"⟩
abbrev cX12_isAt : ByteArray := prog_14_method_51_code
def yX12_isAt : MethodName := ⟨RX12, "isAt", "(II)Z"⟩
abbrev cX12_slackOf : ByteArray := prog_14_method_52_code
def yX12_slackOf : MethodName := ⟨RX12, "slackOf", "(I)I"⟩
abbrev cX12_pairsIn : ByteArray := prog_14_method_53_code
def yX12_pairsIn : MethodName := ⟨RX12, "pairsIn", "(I)I"⟩
abbrev cX12_pairMany : ByteArray := prog_14_method_54_code
def yX12_pairMany : MethodName := ⟨RX12, "pairMany", "()I"⟩
abbrev cX12_totalNow : ByteArray := prog_14_method_55_code
def yX12_totalNow : MethodName := ⟨RX12, "totalNow", "()I"⟩
abbrev cX12_boundNow : ByteArray := prog_14_method_56_code
def yX12_boundNow : MethodName := ⟨RX12, "boundNow", "()I"⟩
abbrev cX12_partners : ByteArray := prog_14_method_57_code
def yX12_partners : MethodName := ⟨RX12, "partners", "(IZ)I"⟩
abbrev cX12_point : ByteArray := prog_14_method_58_code
def yX12_point : MethodName := ⟨RX12, "point", "(II)I"⟩
abbrev cX12_link : ByteArray := prog_14_method_59_code
def yX12_link : MethodName := ⟨RX12, "link", "(II)I"⟩
abbrev cX12_slack : ByteArray := prog_14_method_60_code
def yX12_slack : MethodName := ⟨RX12, "slack", "(I)I"⟩
abbrev cX12_odd : ByteArray := prog_14_method_61_code
def yX12_odd : MethodName := ⟨RX12, "odd", "(II)I"⟩
abbrev cX12_now : ByteArray := prog_14_method_62_code
def yX12_now : MethodName := ⟨RX12, "now", "(I)I"⟩
abbrev cX12_goesOn : ByteArray := prog_14_method_63_code
def yX12_goesOn : MethodName := ⟨RX12, "goesOn", "(III)Z"⟩
abbrev cX12_layPath : ByteArray := prog_14_method_64_code
def yX12_layPath : MethodName := ⟨RX12, "layPath", "(I)I"⟩
abbrev cX12_isPath : ByteArray := prog_14_method_65_code
def yX12_isPath : MethodName := ⟨RX12, "isPath", "([II)Z"⟩
abbrev cX12_turnPath : ByteArray := prog_14_method_66_code
def yX12_turnPath : MethodName := ⟨RX12, "turnPath", "([II)V"⟩
abbrev cX12_flowers : ByteArray := prog_14_method_67_code
def yX12_flowers : MethodName := ⟨RX12, "flowers", "(III)Z"⟩
abbrev cX12_isFlower : ByteArray := prog_14_method_68_code
def yX12_isFlower : MethodName := ⟨RX12, "isFlower", "()Z"⟩
abbrev cX12_grow : ByteArray := prog_14_method_69_code
def yX12_grow : MethodName := ⟨RX12, "grow", "(I)I"⟩
abbrev cX12_growAt : ByteArray := prog_14_method_70_code
def yX12_growAt : MethodName := ⟨RX12, "growAt", "(I)I"⟩
abbrev cX12_flower : ByteArray := prog_14_method_71_code
def yX12_flower : MethodName := ⟨RX12, "flower", "(I)I"⟩
abbrev cX12_flowerAt : ByteArray := prog_14_method_72_code
def yX12_flowerAt : MethodName := ⟨RX12, "flowerAt", "(I)I"⟩
abbrev cX12_save : ByteArray := prog_14_method_73_code
def yX12_save : MethodName := ⟨RX12, "save", "([II)V"⟩
abbrev cX12_comeBack : ByteArray := prog_14_method_74_code
def yX12_comeBack : MethodName := ⟨RX12, "comeBack", "([II)V"⟩
abbrev cX12_snap : ByteArray := prog_14_method_75_code
def yX12_snap : MethodName := ⟨RX12, "snap", "()V"⟩
abbrev cX12_refusal : ByteArray := prog_14_method_76_code
def yX12_refusal : MethodName := ⟨RX12, "refusal", "(IIII)I"⟩
abbrev cX12_live : ByteArray := prog_14_method_77_code
def yX12_live : MethodName := ⟨RX12, "live", "(IIII)V"⟩
abbrev cX12_openOdd : ByteArray := prog_14_method_78_code
def yX12_openOdd : MethodName := ⟨RX12, "openOdd", "(I)V"⟩
abbrev cX12_act : ByteArray := prog_14_method_79_code
def yX12_act : MethodName := ⟨RX12, "act", "(IIIIZ)I"⟩
abbrev cX12_pair : ByteArray := prog_14_method_80_code
def yX12_pair : MethodName := ⟨RX12, "pair", "(II)I"⟩
abbrev cX12_part : ByteArray := prog_14_method_81_code
def yX12_part : MethodName := ⟨RX12, "part", "(I)I"⟩
abbrev cX12_weigh : ByteArray := prog_14_method_82_code
def yX12_weigh : MethodName := ⟨RX12, "weigh", "(III)I"⟩
abbrev cX12_price : ByteArray := prog_14_method_83_code
def yX12_price : MethodName := ⟨RX12, "price", "(II)I"⟩
abbrev cX12_crown : ByteArray := prog_14_method_84_code
def yX12_crown : MethodName := ⟨RX12, "crown", "(II)I"⟩
abbrev cX12_open : ByteArray := prog_14_method_85_code
def yX12_open : MethodName := ⟨RX12, "open", "(I)I"⟩
abbrev cX12_turn : ByteArray := prog_14_method_86_code
def yX12_turn : MethodName := ⟨RX12, "turn", "()I"⟩
abbrev cX12_shrink : ByteArray := prog_14_method_87_code
def yX12_shrink : MethodName := ⟨RX12, "shrink", "()I"⟩
abbrev cX12_undo : ByteArray := prog_14_method_88_code
def yX12_undo : MethodName := ⟨RX12, "undo", "()I"⟩
abbrev cX12_breaks : ByteArray := prog_14_method_89_code
def yX12_breaks : MethodName := ⟨RX12, "breaks", "(I)I"⟩
abbrev cX12_proof : ByteArray := prog_14_method_90_code
def yX12_proof : MethodName := ⟨RX12, "proof", "()I"⟩
abbrev cX12_proofAt : ByteArray := prog_14_method_91_code
def yX12_proofAt : MethodName := ⟨RX12, "proofAt", "()I"⟩
abbrev cX12_proofBy : ByteArray := prog_14_method_92_code
def yX12_proofBy : MethodName := ⟨RX12, "proofBy", "()I"⟩
abbrev cX12_room : ByteArray := prog_14_method_93_code
def yX12_room : MethodName := ⟨RX12, "room", "(I)I"⟩
abbrev cX12_leaf : ByteArray := prog_14_method_94_code
def yX12_leaf : MethodName := ⟨RX12, "leaf", "(II)V"⟩
abbrev cX12_walk : ByteArray := prog_14_method_95_code
def yX12_walk : MethodName := ⟨RX12, "walk", "(III)V"⟩
abbrev cX12_survey : ByteArray := prog_14_method_96_code
def yX12_survey : MethodName := ⟨RX12, "survey", "()V"⟩
abbrev cX12_isAsked : ByteArray := prog_14_method_97_code
def yX12_isAsked : MethodName := ⟨RX12, "isAsked", "()Z"⟩
abbrev cX12_surveyMost : ByteArray := prog_14_method_98_code
def yX12_surveyMost : MethodName := ⟨RX12, "surveyMost", "()V"⟩
abbrev cX12_fateOf : ByteArray := prog_14_method_99_code
def yX12_fateOf : MethodName := ⟨RX12, "fateOf", "(I)I"⟩
abbrev cX12_best : ByteArray := prog_14_method_100_code
def yX12_best : MethodName := ⟨RX12, "best", "()I"⟩
abbrev cX12_bestOf : ByteArray := prog_14_method_101_code
def yX12_bestOf : MethodName := ⟨RX12, "bestOf", "(I)I"⟩
abbrev cX12_next : ByteArray := prog_14_method_102_code
def yX12_next : MethodName := ⟨RX12, "next", "()I"⟩
abbrev cX12_heavy : ByteArray := prog_14_method_103_code
def yX12_heavy : MethodName := ⟨RX12, "heavy", "(I)I"⟩
abbrev cX12_ways : ByteArray := prog_14_method_104_code
def yX12_ways : MethodName := ⟨RX12, "ways", "(I)I"⟩
abbrev cX12_who : ByteArray := prog_14_method_105_code
def yX12_who : MethodName := ⟨RX12, "who", "()I"⟩
abbrev cX12_ask : ByteArray := prog_14_method_106_code
def yX12_ask : MethodName := ⟨RX12, "ask", "()I"⟩
abbrev cX12_stroke : ByteArray := prog_14_method_107_code
def yX12_stroke : MethodName := ⟨RX12, "stroke", "(IIIZZII)V"⟩
abbrev cX12_gain : ByteArray := prog_14_method_108_code
def yX12_gain : MethodName := ⟨RX12, "gain", "()I"⟩
abbrev cX12_fraction : ByteArray := prog_14_method_109_code
def yX12_fraction : MethodName := ⟨RX12, "fraction", "(III)I"⟩
abbrev cX12_mean : ByteArray := prog_14_method_110_code
def yX12_mean : MethodName := ⟨RX12, "mean", "(I)I"⟩
abbrev cX12_write : ByteArray := prog_14_method_111_code
def yX12_write : MethodName := ⟨RX12, "write", "(I)V"⟩
abbrev cX12_writeWord : ByteArray := prog_14_method_112_code
def yX12_writeWord : MethodName := ⟨RX12, "writeWord", "(J)V"⟩
abbrev cX12_writeNext : ByteArray := prog_14_method_113_code
def yX12_writeNext : MethodName := ⟨RX12, "writeNext", "(J)V"⟩
abbrev cX12_writeNumber : ByteArray := prog_14_method_114_code
def yX12_writeNumber : MethodName := ⟨RX12, "writeNumber", "(I)V"⟩
abbrev cX12_tag : ByteArray := prog_14_method_115_code
def yX12_tag : MethodName := ⟨RX12, "tag", "(I)I"⟩
abbrev cX12_byteAt : ByteArray := prog_14_method_116_code
def yX12_byteAt : MethodName := ⟨RX12, "byteAt", "(I)I"⟩
abbrev cX12_draw : ByteArray := prog_14_method_117_code
def yX12_draw : MethodName := ⟨RX12, "draw", "(I)I"⟩
abbrev cX12_drawPoint : ByteArray := prog_14_method_118_code
def yX12_drawPoint : MethodName := ⟨RX12, "drawPoint", "()I"⟩
abbrev cX12_doIf : ByteArray := prog_14_method_119_code
def yX12_doIf : MethodName := ⟨RX12, "doIf", "(IIII)Z"⟩
abbrev cX12_drawsDeed : ByteArray := prog_14_method_120_code
def yX12_drawsDeed : MethodName := ⟨RX12, "drawsDeed", "()Z"⟩
abbrev cX12_drawDeeds : ByteArray := prog_14_method_121_code
def yX12_drawDeeds : MethodName := ⟨RX12, "drawDeeds", "(II)I"⟩
abbrev cX12_drawn : ByteArray := prog_14_method_122_code
def yX12_drawn : MethodName := ⟨RX12, "drawn", "(II)I"⟩
abbrev cX12_odds : ByteArray := prog_14_method_123_code
def yX12_odds : MethodName := ⟨RX12, "odds", "(III)I"⟩
abbrev cX12_keep : ByteArray := prog_14_method_124_code
def yX12_keep : MethodName := ⟨RX12, "keep", "(IZ)Z"⟩
abbrev cX12_readPointName : ByteArray := prog_14_method_125_code
def yX12_readPointName : MethodName := ⟨RX12, "readPointName", "()Z"⟩
abbrev cX12_readOther : ByteArray := prog_14_method_126_code
def yX12_readOther : MethodName := ⟨RX12, "readOther", "(I)Z"⟩
abbrev cX12_readBookLine : ByteArray := prog_14_method_127_code
def yX12_readBookLine : MethodName := ⟨RX12, "readBookLine", "()Z"⟩
abbrev cX12_goBy : ByteArray := prog_14_method_128_code
def yX12_goBy : MethodName := ⟨RX12, "goBy", "(I)I"⟩
abbrev cX12_book : ByteArray := prog_14_method_129_code
def yX12_book : MethodName := ⟨RX12, "book", "(I)I"⟩
abbrev cX12_stay : ByteArray := prog_14_method_130_code
def yX12_stay : MethodName := ⟨RX12, "stay", "(Z)V"⟩
abbrev cX12_told : ByteArray := prog_14_method_131_code
def yX12_told : MethodName := ⟨RX12, "told", "(I)I"⟩
abbrev cX12_readThat : ByteArray := prog_14_method_132_code
def yX12_readThat : MethodName := ⟨RX12, "readThat", "(I)Z"⟩
abbrev cX12_weightOf : ByteArray := prog_14_method_133_code
def yX12_weightOf : MethodName := ⟨RX12, "weightOf", "(I)I"⟩
abbrev cX12_saysOne : ByteArray := prog_14_method_134_code
def yX12_saysOne : MethodName := ⟨RX12, "saysOne", "(IIII)I"⟩
abbrev cX12_readOr : ByteArray := prog_14_method_135_code
def yX12_readOr : MethodName := ⟨RX12, "readOr", "()Z"⟩
abbrev cX12_readAnd : ByteArray := prog_14_method_136_code
def yX12_readAnd : MethodName := ⟨RX12, "readAnd", "()Z"⟩
abbrev cX12_readSaid : ByteArray := prog_14_method_137_code
def yX12_readSaid : MethodName := ⟨RX12, "readSaid", "()Z"⟩
abbrev cX12_readNot : ByteArray := prog_14_method_138_code
def yX12_readNot : MethodName := ⟨RX12, "readNot", "()Z"⟩
abbrev cX12_readBracket : ByteArray := prog_14_method_139_code
def yX12_readBracket : MethodName := ⟨RX12, "readBracket", "()Z"⟩
abbrev cX12_readOf : ByteArray := prog_14_method_140_code
def yX12_readOf : MethodName := ⟨RX12, "readOf", "(I)Z"⟩
abbrev cX12_readCompare : ByteArray := prog_14_method_141_code
def yX12_readCompare : MethodName := ⟨RX12, "readCompare", "(I)Z"⟩
abbrev cX12_sentence : ByteArray := prog_14_method_142_code
def yX12_sentence : MethodName := ⟨RX12, "sentence", "()I"⟩
abbrev cX12_holds : ByteArray := prog_14_method_143_code
def yX12_holds : MethodName := ⟨RX12, "holds", "(II)Z"⟩
abbrev cX12_said : ByteArray := prog_14_method_144_code
def yX12_said : MethodName := ⟨RX12, "said", "(I)I"⟩
abbrev cX12_image : ByteArray := prog_14_method_145_code
def yX12_image : MethodName := ⟨RX12, "image", "(I)Z"⟩
abbrev cX12_restore : ByteArray := prog_14_method_146_code
def yX12_restore : MethodName := ⟨RX12, "restore", "(I)Z"⟩
abbrev cX12_count : ByteArray := prog_14_method_147_code
def yX12_count : MethodName := ⟨RX12, "count", "(I)I"⟩
def RJ6 : String := "java/lang/Integer"
def TJ6 : u_T := fun k => match k with
  | _ => ("", "", "", false)
def tyJ6 : Nat → FieldType := fun k => match k with
  | _ => .int
abbrev wsJ60 : List Cond := u_ws RJ6 TJ6 0
theorem nmJ6 : ∀ a, a < 0 → ∀ b, b < 0 → a ≠ b → (TJ6 a).2.1 ≠ (TJ6 b).2.1 := by decide +kernel
theorem tyJ6_ok : ∀ k, k < 0 → parseFieldDescriptor (TJ6 k).2.2.1 = some (tyJ6 k) := by decide +kernel
abbrev cJ6_bitCount_0f7a4 : ByteArray := prog_19_method_49_code
def yJ6_bitCount_0f7a4 : MethodName := ⟨RJ6, "bitCount", "(I)I"⟩
def RJ9 : String := "java/lang/Math"
def TJ9 : u_T := fun k => match k with
  | _ => ("", "", "", false)
def tyJ9 : Nat → FieldType := fun k => match k with
  | _ => .int
abbrev wsJ90 : List Cond := u_ws RJ9 TJ9 0
theorem nmJ9 : ∀ a, a < 0 → ∀ b, b < 0 → a ≠ b → (TJ9 a).2.1 ≠ (TJ9 b).2.1 := by decide +kernel
theorem tyJ9_ok : ∀ k, k < 0 → parseFieldDescriptor (TJ9 k).2.2.1 = some (tyJ9 k) := by decide +kernel
abbrev cJ9_floorMod_7cf53 : ByteArray := prog_20_method_50_code
def yJ9_floorMod_7cf53 : MethodName := ⟨RJ9, "floorMod", "(II)I"⟩
abbrev cJ9_max_7cf53 : ByteArray := prog_20_method_65_code
def yJ9_max_7cf53 : MethodName := ⟨RJ9, "max", "(II)I"⟩
abbrev cJ9_min_7cf53 : ByteArray := prog_20_method_69_code
def yJ9_min_7cf53 : MethodName := ⟨RJ9, "min", "(II)I"⟩
def RJ0 : String := "java/lang/String"
def TJ0 : u_T := fun k => match k with
  | _ => ("", "", "", false)
def tyJ0 : Nat → FieldType := fun k => match k with
  | _ => .int
abbrev wsJ00 : List Cond := u_ws RJ0 TJ0 0
theorem nmJ0 : ∀ a, a < 0 → ∀ b, b < 0 → a ≠ b → (TJ0 a).2.1 ≠ (TJ0 b).2.1 := by decide +kernel
theorem tyJ0_ok : ∀ k, k < 0 → parseFieldDescriptor (TJ0 k).2.2.1 = some (tyJ0 k) := by decide +kernel
abbrev cJ0_length_8abf5 : ByteArray := prog_22_method_54_code
def yJ0_length_8abf5 : MethodName := ⟨RJ0, "length", "()I"⟩
abbrev cJ0_charAt_5068e : ByteArray := prog_22_method_56_code
def yJ0_charAt_5068e : MethodName := ⟨RJ0, "charAt", "(I)C"⟩
abbrev cJ0_coder_7d493 : ByteArray := prog_22_method_152_code
def yJ0_coder_7d493 : MethodName := ⟨RJ0, "coder", "()B"⟩
abbrev cJ0_isLatin1_aae02 : ByteArray := prog_22_method_154_code
def yJ0_isLatin1_aae02 : MethodName := ⟨RJ0, "isLatin1", "()Z"⟩
abbrev cJ0_checkIndex_df160 : ByteArray := prog_22_method_155_code
def yJ0_checkIndex_df160 : MethodName := ⟨RJ0, "checkIndex", "(II)V"⟩
def RJ1 : String := "java/lang/StringLatin1"
def TJ1 : u_T := fun k => match k with
  | _ => ("", "", "", false)
def tyJ1 : Nat → FieldType := fun k => match k with
  | _ => .int
abbrev wsJ10 : List Cond := u_ws RJ1 TJ1 0
theorem nmJ1 : ∀ a, a < 0 → ∀ b, b < 0 → a ≠ b → (TJ1 a).2.1 ≠ (TJ1 b).2.1 := by decide +kernel
theorem tyJ1_ok : ∀ k, k < 0 → parseFieldDescriptor (TJ1 k).2.2.1 = some (tyJ1 k) := by decide +kernel
abbrev cJ1_charAt_3b067 : ByteArray := prog_23_method_2_code
def yJ1_charAt_3b067 : MethodName := ⟨RJ1, "charAt", "([BI)C"⟩
def RJ2 : String := "java/lang/StringUTF16"
def TJ2 : u_T := fun k => match k with
  | _ => ("", "", "", false)
def tyJ2 : Nat → FieldType := fun k => match k with
  | _ => .int
abbrev wsJ20 : List Cond := u_ws RJ2 TJ2 0
theorem nmJ2 : ∀ a, a < 0 → ∀ b, b < 0 → a ≠ b → (TJ2 a).2.1 ≠ (TJ2 b).2.1 := by decide +kernel
theorem tyJ2_ok : ∀ k, k < 0 → parseFieldDescriptor (TJ2 k).2.2.1 = some (tyJ2 k) := by decide +kernel
abbrev cJ2_getChar_3b067 : ByteArray := prog_24_method_5_code
def yJ2_getChar_3b067 : MethodName := ⟨RJ2, "getChar", "([BI)C"⟩
abbrev cJ2_length_9d52b : ByteArray := prog_24_method_6_code
def yJ2_length_9d52b : MethodName := ⟨RJ2, "length", "([B)I"⟩
abbrev cJ2_charAt_3b067 : ByteArray := prog_24_method_83_code
def yJ2_charAt_3b067 : MethodName := ⟨RJ2, "charAt", "([BI)C"⟩
abbrev cJ2_checkIndex_2214a : ByteArray := prog_24_method_91_code
def yJ2_checkIndex_2214a : MethodName := ⟨RJ2, "checkIndex", "(I[B)V"⟩
def RJ10 : String := "java/lang/System"
def TJ10 : u_T := fun k => match k with
  | _ => ("", "", "", false)
def tyJ10 : Nat → FieldType := fun k => match k with
  | _ => .int
abbrev wsJ100 : List Cond := u_ws RJ10 TJ10 0
theorem nmJ10 : ∀ a, a < 0 → ∀ b, b < 0 → a ≠ b → (TJ10 a).2.1 ≠ (TJ10 b).2.1 := by decide +kernel
theorem tyJ10_ok : ∀ k, k < 0 → parseFieldDescriptor (TJ10 k).2.2.1 = some (tyJ10 k) := by decide +kernel
def RJ3 : String := "jdk/internal/util/Preconditions"
def TJ3 : u_T := fun k => match k with
  | _ => ("", "", "", false)
def tyJ3 : Nat → FieldType := fun k => match k with
  | _ => .int
abbrev wsJ30 : List Cond := u_ws RJ3 TJ3 0
theorem nmJ3 : ∀ a, a < 0 → ∀ b, b < 0 → a ≠ b → (TJ3 a).2.1 ≠ (TJ3 b).2.1 := by decide +kernel
theorem tyJ3_ok : ∀ k, k < 0 → parseFieldDescriptor (TJ3 k).2.2.1 = some (tyJ3 k) := by decide +kernel
abbrev cJ3_checkIndex_8e157 : ByteArray := prog_30_method_11_code
def yJ3_checkIndex_8e157 : MethodName := ⟨RJ3, "checkIndex", "(IILjava/util/function/BiFunction;)I"⟩
def RL : String := "HeavyPairsLaw"
abbrev cL_point : ByteArray := method_3_code
def yL_point : MethodName := ⟨RL, "point", "(LHeavyPairs;II[J)I"⟩
abbrev cL_slack : ByteArray := method_4_code
def yL_slack : MethodName := ⟨RL, "slack", "(LHeavyPairs;I[J)I"⟩
abbrev cL_proofBy : ByteArray := method_5_code
def yL_proofBy : MethodName := ⟨RL, "proofBy", "(LHeavyPairs;[J)I"⟩
abbrev cL_mean : ByteArray := method_6_code
def yL_mean : MethodName := ⟨RL, "mean", "(LHeavyPairs;I[J)I"⟩
abbrev cL_law : ByteArray := code
def yL_law : MethodName := ⟨RL, "law", "([I)Z"⟩
abbrev vwCl : List vw_C := [(RX0, TX0, 10), (RX1, TX1, 1), (RX2, TX2, 16), (RX3, TX3, 3), (RX4, TX4, 15), (RX5, TX5, 3), (RX6, TX6, 3), (RX7, TX7, 2), (RX8, TX8, 7), (RX9, TX9, 2), (RX10, TX10, 12), (RX11, TX11, 19), (RX12, TX12, 62)]
/-- a method: the class that holds it, its name, its code, its locals, what it returns -/
abbrev mM : Type := String × MethodName × ByteArray × Nat × Option FieldType
abbrev MX0_init : mM := (RX0, yX0_init, cX0_init, 1, none)
abbrev MX0_toldOf : mM := (RX0, yX0_toldOf, cX0_toldOf, 2, (some .int))
abbrev MX0_read : mM := (RX0, yX0_read, cX0_read, 4, (some .boolean))
abbrev MX0_readLine : mM := (RX0, yX0_readLine, cX0_readLine, 4, (some .boolean))
abbrev MX0_isDeed : mM := (RX0, yX0_isDeed, cX0_isDeed, 1, (some .boolean))
abbrev MX0_readFirst : mM := (RX0, yX0_readFirst, cX0_readFirst, 4, (some .boolean))
abbrev MX0_readTwo : mM := (RX0, yX0_readTwo, cX0_readTwo, 4, (some .boolean))
abbrev MX0_readNumber : mM := (RX0, yX0_readNumber, cX0_readNumber, 3, (some .boolean))
abbrev MX0_readThird : mM := (RX0, yX0_readThird, cX0_readThird, 5, (some .boolean))
abbrev MX0_judge : mM := (RX0, yX0_judge, cX0_judge, 4, (some .int))
abbrev MX0_live : mM := (RX0, yX0_live, cX0_live, 5, (some .int))
abbrev MX0_behind : mM := (RX0, yX0_behind, cX0_behind, 2, (some .int))
abbrev MX1_init : mM := (RX1, yX1_init, cX1_init, 1, none)
abbrev MX1_run : mM := (RX1, yX1_run, cX1_run, 7, (some .int))
abbrev MX1_draw : mM := (RX1, yX1_draw, cX1_draw, 2, (some .int))
abbrev MX1_isDone : mM := (RX1, yX1_isDone, cX1_isDone, 4, (some .boolean))
abbrev MX1_pairTwo : mM := (RX1, yX1_pairTwo, cX1_pairTwo, 3, (some .boolean))
abbrev MX1_weighOne : mM := (RX1, yX1_weighOne, cX1_weighOne, 4, (some .boolean))
abbrev MX1_crownOne : mM := (RX1, yX1_crownOne, cX1_crownOne, 2, (some .boolean))
abbrev MX2_init : mM := (RX2, yX2_init, cX2_init, 1, none)
abbrev MX2_lookAt : mM := (RX2, yX2_lookAt, cX2_lookAt, 3, none)
abbrev MX2_top : mM := (RX2, yX2_top, cX2_top, 1, (some .int))
abbrev MX2_second : mM := (RX2, yX2_second, cX2_second, 1, (some .int))
abbrev MX2_heaviestOf : mM := (RX2, yX2_heaviestOf, cX2_heaviestOf, 2, (some .int))
abbrev MX2_countOf : mM := (RX2, yX2_countOf, cX2_countOf, 2, (some .int))
abbrev MX2_slotKnown : mM := (RX2, yX2_slotKnown, cX2_slotKnown, 3, (some .int))
abbrev MX2_topFor : mM := (RX2, yX2_topFor, cX2_topFor, 2, (some .int))
abbrev MX2_slotFor : mM := (RX2, yX2_slotFor, cX2_slotFor, 8, (some .int))
abbrev MX2_leastOf : mM := (RX2, yX2_leastOf, cX2_leastOf, 2, (some .int))
abbrev MX2_startSlot : mM := (RX2, yX2_startSlot, cX2_startSlot, 4, none)
abbrev MX2_addWays : mM := (RX2, yX2_addWays, cX2_addWays, 8, none)
abbrev MX2_addTotal : mM := (RX2, yX2_addTotal, cX2_addTotal, 3, none)
abbrev MX2_bestInto : mM := (RX2, yX2_bestInto, cX2_bestInto, 5, none)
abbrev MX2_firstBestPartner : mM := (RX2, yX2_firstBestPartner, cX2_firstBestPartner, 5, (some .int))
abbrev MX2_keepsTop : mM := (RX2, yX2_keepsTop, cX2_keepsTop, 5, (some .boolean))
abbrev MX2_choose : mM := (RX2, yX2_choose, cX2_choose, 3, none)
abbrev MX2_fateOf : mM := (RX2, yX2_fateOf, cX2_fateOf, 4, (some .int))
abbrev MX2_wantNothing : mM := (RX2, yX2_wantNothing, cX2_wantNothing, 2, none)
abbrev MX2_want : mM := (RX2, yX2_want, cX2_want, 4, none)
abbrev MX2_countWanted : mM := (RX2, yX2_countWanted, cX2_countWanted, 2, (some .int))
abbrev MX2_walkBest : mM := (RX2, yX2_walkBest, cX2_walkBest, 7, none)
abbrev MX2_mayBe : mM := (RX2, yX2_mayBe, cX2_mayBe, 3, (some .boolean))
abbrev MX2_tallyChosen : mM := (RX2, yX2_tallyChosen, cX2_tallyChosen, 3, none)
abbrev MX2_tallyAt : mM := (RX2, yX2_tallyAt, cX2_tallyAt, 3, (some .int))
abbrev MX2_mostTelling : mM := (RX2, yX2_mostTelling, cX2_mostTelling, 6, (some .int))
abbrev MX3_init : mM := (RX3, yX3_init, cX3_init, 2, none)
abbrev MX3_forget : mM := (RX3, yX3_forget, cX3_forget, 1, none)
abbrev MX3_mark : mM := (RX3, yX3_mark, cX3_mark, 3, none)
abbrev MX3_keep : mM := (RX3, yX3_keep, cX3_keep, 1, none)
abbrev MX3_takeBack : mM := (RX3, yX3_takeBack, cX3_takeBack, 3, (some .int))
abbrev MX4_init : mM := (RX4, yX4_init, cX4_init, 1, none)
abbrev MX4_clear : mM := (RX4, yX4_clear, cX4_clear, 2, none)
abbrev MX4_copyFrom : mM := (RX4, yX4_copyFrom, cX4_copyFrom, 2, none)
abbrev MX4_copyLinksFrom : mM := (RX4, yX4_copyLinksFrom, cX4_copyLinksFrom, 2, none)
abbrev MX4_hasLinksOf : mM := (RX4, yX4_hasLinksOf, cX4_hasLinksOf, 3, (some .boolean))
abbrev MX4_points : mM := (RX4, yX4_points, cX4_points, 1, (some .int))
abbrev MX4_links : mM := (RX4, yX4_links, cX4_links, 1, (some .int))
abbrev MX4_sets : mM := (RX4, yX4_sets, cX4_sets, 1, (some .int))
abbrev MX4_turned : mM := (RX4, yX4_turned, cX4_turned, 1, (some .int))
abbrev MX4_shrunk : mM := (RX4, yX4_shrunk, cX4_shrunk, 1, (some .int))
abbrev MX4_hasPoint : mM := (RX4, yX4_hasPoint, cX4_hasPoint, 2, (some .boolean))
abbrev MX4_hasLink : mM := (RX4, yX4_hasLink, cX4_hasLink, 2, (some .boolean))
abbrev MX4_hasSet : mM := (RX4, yX4_hasSet, cX4_hasSet, 2, (some .boolean))
abbrev MX4_addPoint : mM := (RX4, yX4_addPoint, cX4_addPoint, 3, none)
abbrev MX4_addLink : mM := (RX4, yX4_addLink, cX4_addLink, 4, none)
abbrev MX4_addSet : mM := (RX4, yX4_addSet, cX4_addSet, 3, none)
abbrev MX4_pointNamed : mM := (RX4, yX4_pointNamed, cX4_pointNamed, 4, (some .int))
abbrev MX4_nameOf : mM := (RX4, yX4_nameOf, cX4_nameOf, 2, (some .long))
abbrev MX4_nearTo : mM := (RX4, yX4_nearTo, cX4_nearTo, 2, (some .int))
abbrev MX4_partnerOf : mM := (RX4, yX4_partnerOf, cX4_partnerOf, 2, (some .int))
abbrev MX4_isLone : mM := (RX4, yX4_isLone, cX4_isLone, 2, (some .boolean))
abbrev MX4_priceOf : mM := (RX4, yX4_priceOf, cX4_priceOf, 2, (some .int))
abbrev MX4_fromOf : mM := (RX4, yX4_fromOf, cX4_fromOf, 2, (some .int))
abbrev MX4_toOf : mM := (RX4, yX4_toOf, cX4_toOf, 2, (some .int))
abbrev MX4_weightAt : mM := (RX4, yX4_weightAt, cX4_weightAt, 2, (some .int))
abbrev MX4_isPair : mM := (RX4, yX4_isPair, cX4_isPair, 2, (some .boolean))
abbrev MX4_membersOf : mM := (RX4, yX4_membersOf, cX4_membersOf, 2, (some .int))
abbrev MX4_crownOf : mM := (RX4, yX4_crownOf, cX4_crownOf, 2, (some .int))
abbrev MX4_areLinked : mM := (RX4, yX4_areLinked, cX4_areLinked, 3, (some .boolean))
abbrev MX4_linkOf : mM := (RX4, yX4_linkOf, cX4_linkOf, 3, (some .int))
abbrev MX4_weightOf : mM := (RX4, yX4_weightOf, cX4_weightOf, 3, (some .int))
abbrev MX4_setOf : mM := (RX4, yX4_setOf, cX4_setOf, 3, (some .int))
abbrev MX4_setsWith : mM := (RX4, yX4_setsWith, cX4_setsWith, 4, (some .int))
abbrev MX4_slackOf : mM := (RX4, yX4_slackOf, cX4_slackOf, 5, (some .int))
abbrev MX4_tightLinks : mM := (RX4, yX4_tightLinks, cX4_tightLinks, 3, (some .int))
abbrev MX4_tightTo : mM := (RX4, yX4_tightTo, cX4_tightTo, 4, (some .int))
abbrev MX4_otherEnd : mM := (RX4, yX4_otherEnd, cX4_otherEnd, 3, (some .int))
abbrev MX4_tightPoints : mM := (RX4, yX4_tightPoints, cX4_tightPoints, 3, (some .int))
abbrev MX4_lonePoints : mM := (RX4, yX4_lonePoints, cX4_lonePoints, 3, (some .int))
abbrev MX4_pairs : mM := (RX4, yX4_pairs, cX4_pairs, 3, (some .int))
abbrev MX4_total : mM := (RX4, yX4_total, cX4_total, 3, (some .int))
abbrev MX4_pairsWithin : mM := (RX4, yX4_pairsWithin, cX4_pairsWithin, 5, (some .int))
abbrev MX4_fullPairs : mM := (RX4, yX4_fullPairs, cX4_fullPairs, 2, (some .int))
abbrev MX4_bound : mM := (RX4, yX4_bound, cX4_bound, 3, (some .int))
abbrev MX4_roomOf : mM := (RX4, yX4_roomOf, cX4_roomOf, 4, (some .int))
abbrev MX4_firstLinkBelow : mM := (RX4, yX4_firstLinkBelow, cX4_firstLinkBelow, 2, (some .int))
abbrev MX4_firstLoosePair : mM := (RX4, yX4_firstLoosePair, cX4_firstLoosePair, 2, (some .int))
abbrev MX4_firstPricedLone : mM := (RX4, yX4_firstPricedLone, cX4_firstPricedLone, 2, (some .int))
abbrev MX4_firstCrownedUnfilled : mM := (RX4, yX4_firstCrownedUnfilled, cX4_firstCrownedUnfilled, 2, (some .int))
abbrev MX4_pairUp : mM := (RX4, yX4_pairUp, cX4_pairUp, 3, (some .int))
abbrev MX4_partFrom : mM := (RX4, yX4_partFrom, cX4_partFrom, 3, (some .int))
abbrev MX4_weighAnew : mM := (RX4, yX4_weighAnew, cX4_weighAnew, 5, (some .int))
abbrev MX4_priceAt : mM := (RX4, yX4_priceAt, cX4_priceAt, 3, (some .int))
abbrev MX4_crownAt : mM := (RX4, yX4_crownAt, cX4_crownAt, 3, (some .int))
abbrev MX4_openSet : mM := (RX4, yX4_openSet, cX4_openSet, 3, (some .int))
abbrev MX4_turnAlong : mM := (RX4, yX4_turnAlong, cX4_turnAlong, 6, (some .int))
abbrev MX4_shrinkAlong : mM := (RX4, yX4_shrinkAlong, cX4_shrinkAlong, 5, (some .int))
abbrev MX4_goesByPairs : mM := (RX4, yX4_goesByPairs, cX4_goesByPairs, 3, (some .boolean))
abbrev MX5_init : mM := (RX5, yX5_init, cX5_init, 1, none)
abbrev MX5_result : mM := (RX5, yX5_result, cX5_result, 1, (some (.object "HeavyPairs$Network")))
abbrev MX5_lines : mM := (RX5, yX5_lines, cX5_lines, 1, (some .int))
abbrev MX5_read : mM := (RX5, yX5_read, cX5_read, 2, (some .boolean))
abbrev MX5_readLine : mM := (RX5, yX5_readLine, cX5_readLine, 2, (some .boolean))
abbrev MX5_readPoint : mM := (RX5, yX5_readPoint, cX5_readPoint, 2, (some .boolean))
abbrev MX5_readLink : mM := (RX5, yX5_readLink, cX5_readLink, 5, (some .boolean))
abbrev MX5_readPair : mM := (RX5, yX5_readPair, cX5_readPair, 4, (some .boolean))
abbrev MX5_readPrice : mM := (RX5, yX5_readPrice, cX5_readPrice, 4, (some .boolean))
abbrev MX5_readSet : mM := (RX5, yX5_readSet, cX5_readSet, 6, (some .boolean))
abbrev MX6_init : mM := (RX6, yX6_init, cX6_init, 1, none)
abbrev MX6_take : mM := (RX6, yX6_take, cX6_take, 3, none)
abbrev MX6_giveBack : mM := (RX6, yX6_giveBack, cX6_giveBack, 3, (some .boolean))
abbrev MX7_init : mM := (RX7, yX7_init, cX7_init, 2, none)
abbrev MX7_size : mM := (RX7, yX7_size, cX7_size, 1, (some .int))
abbrev MX7_at : mM := (RX7, yX7_at, cX7_at, 2, (some .int))
abbrev MX7_clear : mM := (RX7, yX7_clear, cX7_clear, 1, none)
abbrev MX7_add : mM := (RX7, yX7_add, cX7_add, 2, none)
abbrev MX7_dropTwo : mM := (RX7, yX7_dropTwo, cX7_dropTwo, 1, none)
abbrev MX7_copyFrom : mM := (RX7, yX7_copyFrom, cX7_copyFrom, 3, none)
abbrev MX7_addText : mM := (RX7, yX7_addText, cX7_addText, 3, none)
abbrev MX7_addName : mM := (RX7, yX7_addName, cX7_addName, 5, none)
abbrev MX7_addDigits : mM := (RX7, yX7_addDigits, cX7_addDigits, 2, none)
abbrev MX8_init : mM := (RX8, yX8_init, cX8_init, 1, none)
abbrev MX8_stands : mM := (RX8, yX8_stands, cX8_stands, 1, (some .boolean))
abbrev MX8_ones : mM := (RX8, yX8_ones, cX8_ones, 1, (some .int))
abbrev MX8_clear : mM := (RX8, yX8_clear, cX8_clear, 1, none)
abbrev MX8_copyFrom : mM := (RX8, yX8_copyFrom, cX8_copyFrom, 2, none)
abbrev MX8_read : mM := (RX8, yX8_read, cX8_read, 3, (some .boolean))
abbrev MX8_readCond : mM := (RX8, yX8_readCond, cX8_readCond, 5, (some .boolean))
abbrev MX8_readAll : mM := (RX8, yX8_readAll, cX8_readAll, 5, (some .boolean))
abbrev MX8_readOne : mM := (RX8, yX8_readOne, cX8_readOne, 6, (some .boolean))
abbrev MX8_putIfRead : mM := (RX8, yX8_putIfRead, cX8_putIfRead, 4, (some .boolean))
abbrev MX8_put : mM := (RX8, yX8_put, cX8_put, 4, (some .boolean))
abbrev MX8_pointsOf : mM := (RX8, yX8_pointsOf, cX8_pointsOf, 6, (some .int))
abbrev MX8_pointsOfOne : mM := (RX8, yX8_pointsOfOne, cX8_pointsOfOne, 4, (some .int))
abbrev MX8_pointsCompared : mM := (RX8, yX8_pointsCompared, cX8_pointsCompared, 7, (some .int))
abbrev MX8_measureOf : mM := (RX8, yX8_measureOf, cX8_measureOf, 3, (some .int))
abbrev MX9_init : mM := (RX9, yX9_init, cX9_init, 1, none)
abbrev MX9_row : mM := (RX9, yX9_row, cX9_row, 1, (some (.object "HeavyPairs$Row")))
abbrev MX9_findPath : mM := (RX9, yX9_findPath, cX9_findPath, 3, (some .boolean))
abbrev MX9_findFlower : mM := (RX9, yX9_findFlower, cX9_findFlower, 3, (some .boolean))
abbrev MX9_findRow : mM := (RX9, yX9_findRow, cX9_findRow, 6, (some .boolean))
abbrev MX9_goOn : mM := (RX9, yX9_goOn, cX9_goOn, 9, (some .boolean))
abbrev MX9_growFrom : mM := (RX9, yX9_growFrom, cX9_growFrom, 3, (some .int))
abbrev MX9_greatestGain : mM := (RX9, yX9_greatestGain, cX9_greatestGain, 4, (some .int))
abbrev MX9_strokeOn : mM := (RX9, yX9_strokeOn, cX9_strokeOn, 11, none)
abbrev MX10_init : mM := (RX10, yX10_init, cX10_init, 6, none)
abbrev MX10_length : mM := (RX10, yX10_length, cX10_length, 1, (some .int))
abbrev MX10_signAt : mM := (RX10, yX10_signAt, cX10_signAt, 2, (some .int))
abbrev MX10_putFour : mM := (RX10, yX10_putFour, cX10_putFour, 3, none)
abbrev MX10_cut : mM := (RX10, yX10_cut, cX10_cut, 2, none)
abbrev MX10_faultKind : mM := (RX10, yX10_faultKind, cX10_faultKind, 1, (some .int))
abbrev MX10_faultAt : mM := (RX10, yX10_faultAt, cX10_faultAt, 1, (some .int))
abbrev MX10_kind : mM := (RX10, yX10_kind, cX10_kind, 1, (some .int))
abbrev MX10_word : mM := (RX10, yX10_word, cX10_word, 1, (some .long))
abbrev MX10_begin : mM := (RX10, yX10_begin, cX10_begin, 2, none)
abbrev MX10_advance : mM := (RX10, yX10_advance, cX10_advance, 2, none)
abbrev MX10_readChunk : mM := (RX10, yX10_readChunk, cX10_readChunk, 7, none)
abbrev MX10_fail : mM := (RX10, yX10_fail, cX10_fail, 2, (some .boolean))
abbrev MX10_take : mM := (RX10, yX10_take, cX10_take, 2, (some .boolean))
abbrev MX10_takeNumber : mM := (RX10, yX10_takeNumber, cX10_takeNumber, 4, (some .int))
abbrev MX10_pointHere : mM := (RX10, yX10_pointHere, cX10_pointHere, 3, (some .int))
abbrev MX10_takePoint : mM := (RX10, yX10_takePoint, cX10_takePoint, 3, (some .int))
abbrev MX10_endsHere : mM := (RX10, yX10_endsHere, cX10_endsHere, 1, (some .boolean))
abbrev MX11_init : mM := (RX11, yX11_init, cX11_init, 2, none)
abbrev MX11_feed : mM := (RX11, yX11_feed, cX11_feed, 6, (some .int))
abbrev MX11_end : mM := (RX11, yX11_end, cX11_end, 2, (some .boolean))
abbrev MX11_network : mM := (RX11, yX11_network, cX11_network, 2, (some .int))
abbrev MX11_fault : mM := (RX11, yX11_fault, cX11_fault, 1, (some .int))
abbrev MX11_point : mM := (RX11, yX11_point, cX11_point, 3, (some .int))
abbrev MX11_link : mM := (RX11, yX11_link, cX11_link, 3, (some .int))
abbrev MX11_slack : mM := (RX11, yX11_slack, cX11_slack, 2, (some .int))
abbrev MX11_odd : mM := (RX11, yX11_odd, cX11_odd, 3, (some .int))
abbrev MX11_now : mM := (RX11, yX11_now, cX11_now, 2, (some .int))
abbrev MX11_pair : mM := (RX11, yX11_pair, cX11_pair, 3, (some .int))
abbrev MX11_part : mM := (RX11, yX11_part, cX11_part, 2, (some .int))
abbrev MX11_weigh : mM := (RX11, yX11_weigh, cX11_weigh, 4, (some .int))
abbrev MX11_price : mM := (RX11, yX11_price, cX11_price, 3, (some .int))
abbrev MX11_crown : mM := (RX11, yX11_crown, cX11_crown, 3, (some .int))
abbrev MX11_open : mM := (RX11, yX11_open, cX11_open, 2, (some .int))
abbrev MX11_grow : mM := (RX11, yX11_grow, cX11_grow, 2, (some .int))
abbrev MX11_growAt : mM := (RX11, yX11_growAt, cX11_growAt, 2, (some .int))
abbrev MX11_turn : mM := (RX11, yX11_turn, cX11_turn, 1, (some .int))
abbrev MX11_flower : mM := (RX11, yX11_flower, cX11_flower, 2, (some .int))
abbrev MX11_flowerAt : mM := (RX11, yX11_flowerAt, cX11_flowerAt, 2, (some .int))
abbrev MX11_shrink : mM := (RX11, yX11_shrink, cX11_shrink, 1, (some .int))
abbrev MX11_undo : mM := (RX11, yX11_undo, cX11_undo, 1, (some .int))
abbrev MX11_proof : mM := (RX11, yX11_proof, cX11_proof, 2, (some .int))
abbrev MX11_proofAt : mM := (RX11, yX11_proofAt, cX11_proofAt, 1, (some .int))
abbrev MX11_proofBy : mM := (RX11, yX11_proofBy, cX11_proofBy, 1, (some .int))
abbrev MX11_room : mM := (RX11, yX11_room, cX11_room, 2, (some .int))
abbrev MX11_best : mM := (RX11, yX11_best, cX11_best, 1, (some .int))
abbrev MX11_bestOf : mM := (RX11, yX11_bestOf, cX11_bestOf, 2, (some .int))
abbrev MX11_next : mM := (RX11, yX11_next, cX11_next, 1, (some .int))
abbrev MX11_heavy : mM := (RX11, yX11_heavy, cX11_heavy, 2, (some .int))
abbrev MX11_ways : mM := (RX11, yX11_ways, cX11_ways, 2, (some .int))
abbrev MX11_gain : mM := (RX11, yX11_gain, cX11_gain, 1, (some .int))
abbrev MX11_who : mM := (RX11, yX11_who, cX11_who, 3, (some .int))
abbrev MX11_ask : mM := (RX11, yX11_ask, cX11_ask, 1, (some .int))
abbrev MX11_mean : mM := (RX11, yX11_mean, cX11_mean, 5, (some .int))
abbrev MX11_tag : mM := (RX11, yX11_tag, cX11_tag, 2, (some .int))
abbrev MX11_byteAt : mM := (RX11, yX11_byteAt, cX11_byteAt, 2, (some .int))
abbrev MX11_drawn : mM := (RX11, yX11_drawn, cX11_drawn, 4, (some .int))
abbrev MX11_odds : mM := (RX11, yX11_odds, cX11_odds, 6, (some .int))
abbrev MX11_book : mM := (RX11, yX11_book, cX11_book, 4, (some .int))
abbrev MX11_told : mM := (RX11, yX11_told, cX11_told, 2, (some .int))
abbrev MX11_sentence : mM := (RX11, yX11_sentence, cX11_sentence, 2, (some .int))
abbrev MX11_said : mM := (RX11, yX11_said, cX11_said, 3, (some .int))
abbrev MX11_image : mM := (RX11, yX11_image, cX11_image, 3, (some .boolean))
abbrev MX11_restore : mM := (RX11, yX11_restore, cX11_restore, 3, (some .boolean))
abbrev MX11_count : mM := (RX11, yX11_count, cX11_count, 2, (some .int))
abbrev MX11_pictureAt : mM := (RX11, yX11_pictureAt, cX11_pictureAt, 2, (some (.object "HeavyPairs$Picture")))
abbrev MX11_areTwo : mM := (RX11, yX11_areTwo, cX11_areTwo, 3, (some .boolean))
abbrev MX11_isPrice : mM := (RX11, yX11_isPrice, cX11_isPrice, 1, (some .boolean))
abbrev MX11_keepIfDone : mM := (RX11, yX11_keepIfDone, cX11_keepIfDone, 2, (some .int))
abbrev MX11_noteFlaw : mM := (RX11, yX11_noteFlaw, cX11_noteFlaw, 4, (some .int))
abbrev MX11_isAsking : mM := (RX11, yX11_isAsking, cX11_isAsking, 4, (some .boolean))
abbrev MX11_commonDivisor : mM := (RX11, yX11_commonDivisor, cX11_commonDivisor, 6, (some .int))
abbrev MX11_bitNumbered : mM := (RX11, yX11_bitNumbered, cX11_bitNumbered, 4, (some .int))
abbrev MX12_thrown : mM := (RX12, yX12_thrown, cX12_thrown, 1, (some .int))
abbrev MX12_refuse : mM := (RX12, yX12_refuse, cX12_refuse, 1, (some .int))
abbrev MX12_come : mM := (RX12, yX12_come, cX12_come, 3, none)
abbrev MX12_feed : mM := (RX12, yX12_feed, cX12_feed, 6, (some .int))
abbrev MX12_end : mM := (RX12, yX12_end, cX12_end, 2, (some .boolean))
abbrev MX12_take : mM := (RX12, yX12_take, cX12_take, 2, (some .int))
abbrev MX12_isIn : mM := (RX12, yX12_isIn, cX12_isIn, 3, (some .boolean))
abbrev MX12_has : mM := (RX12, yX12_has, cX12_has, 2, (some .boolean))
abbrev MX12_bits : mM := (RX12, yX12_bits, cX12_bits, 3, (some .int))
abbrev MX12_common : mM := (RX12, yX12_common, cX12_common, 5, (some .int))
abbrev MX12_tapeAt : mM := (RX12, yX12_tapeAt, cX12_tapeAt, 2, (some .int))
abbrev MX12_isDigit : mM := (RX12, yX12_isDigit, cX12_isDigit, 1, (some .boolean))
abbrev MX12_isLetter : mM := (RX12, yX12_isLetter, cX12_isLetter, 1, (some .boolean))
abbrev MX12_go : mM := (RX12, yX12_go, cX12_go, 5, none)
abbrev MX12_spelt : mM := (RX12, yX12_spelt, cX12_spelt, 8, (some .long))
abbrev MX12_wordOf : mM := (RX12, yX12_wordOf, cX12_wordOf, 1, (some .long))
abbrev MX12_isWord : mM := (RX12, yX12_isWord, cX12_isWord, 2, (some .boolean))
abbrev MX12_isSign : mM := (RX12, yX12_isSign, cX12_isSign, 2, (some .boolean))
abbrev MX12_isName : mM := (RX12, yX12_isName, cX12_isName, 2, (some .boolean))
abbrev MX12_bad : mM := (RX12, yX12_bad, cX12_bad, 2, (some .boolean))
abbrev MX12_readNumber : mM := (RX12, yX12_readNumber, cX12_readNumber, 3, (some .boolean))
abbrev MX12_readEnd : mM := (RX12, yX12_readEnd, cX12_readEnd, 1, (some .boolean))
abbrev MX12_begin : mM := (RX12, yX12_begin, cX12_begin, 2, none)
abbrev MX12_init : mM := (RX12, yX12_init, cX12_init, 2, none)
abbrev MX12_startSo : mM := (RX12, yX12_startSo, cX12_startSo, 2, none)
abbrev MX12_findIn : mM := (RX12, yX12_findIn, cX12_findIn, 6, (some .int))
abbrev MX12_readFirst : mM := (RX12, yX12_readFirst, cX12_readFirst, 3, (some .boolean))
abbrev MX12_noted : mM := (RX12, yX12_noted, cX12_noted, 3, (some .boolean))
abbrev MX12_readPoint : mM := (RX12, yX12_readPoint, cX12_readPoint, 1, (some .boolean))
abbrev MX12_isHere : mM := (RX12, yX12_isHere, cX12_isHere, 1, (some .boolean))
abbrev MX12_linkIn : mM := (RX12, yX12_linkIn, cX12_linkIn, 4, (some .int))
abbrev MX12_readLink : mM := (RX12, yX12_readLink, cX12_readLink, 3, (some .boolean))
abbrev MX12_readPair : mM := (RX12, yX12_readPair, cX12_readPair, 2, (some .boolean))
abbrev MX12_readPrice : mM := (RX12, yX12_readPrice, cX12_readPrice, 2, (some .boolean))
abbrev MX12_isOddIn : mM := (RX12, yX12_isOddIn, cX12_isOddIn, 6, (some .boolean))
abbrev MX12_readOdd : mM := (RX12, yX12_readOdd, cX12_readOdd, 4, (some .boolean))
abbrev MX12_readLine : mM := (RX12, yX12_readLine, cX12_readLine, 1, (some .boolean))
abbrev MX12_network : mM := (RX12, yX12_network, cX12_network, 3, (some .int))
abbrev MX12_fault : mM := (RX12, yX12_fault, cX12_fault, 1, (some .int))
abbrev MX12_isPoint : mM := (RX12, yX12_isPoint, cX12_isPoint, 2, (some .boolean))
abbrev MX12_areTwo : mM := (RX12, yX12_areTwo, cX12_areTwo, 3, (some .boolean))
abbrev MX12_isLink : mM := (RX12, yX12_isLink, cX12_isLink, 2, (some .boolean))
abbrev MX12_isOdd : mM := (RX12, yX12_isOdd, cX12_isOdd, 2, (some .boolean))
abbrev MX12_between : mM := (RX12, yX12_between, cX12_between, 3, (some .int))
abbrev MX12_areLinked : mM := (RX12, yX12_areLinked, cX12_areLinked, 3, (some .boolean))
abbrev MX12_isLone : mM := (RX12, yX12_isLone, cX12_isLone, 2, (some .boolean))
abbrev MX12_arePaired : mM := (RX12, yX12_arePaired, cX12_arePaired, 3, (some .boolean))
abbrev MX12_isOfPair : mM := (RX12, yX12_isOfPair, cX12_isOfPair, 2, (some .boolean))
abbrev MX12_isAt : mM := (RX12, yX12_isAt, cX12_isAt, 3, (some .boolean))
abbrev MX12_slackOf : mM := (RX12, yX12_slackOf, cX12_slackOf, 6, (some .int))
abbrev MX12_pairsIn : mM := (RX12, yX12_pairsIn, cX12_pairsIn, 4, (some .int))
abbrev MX12_pairMany : mM := (RX12, yX12_pairMany, cX12_pairMany, 1, (some .int))
abbrev MX12_totalNow : mM := (RX12, yX12_totalNow, cX12_totalNow, 3, (some .int))
abbrev MX12_boundNow : mM := (RX12, yX12_boundNow, cX12_boundNow, 3, (some .int))
abbrev MX12_partners : mM := (RX12, yX12_partners, cX12_partners, 5, (some .int))
abbrev MX12_point : mM := (RX12, yX12_point, cX12_point, 5, (some .int))
abbrev MX12_link : mM := (RX12, yX12_link, cX12_link, 3, (some .int))
abbrev MX12_slack : mM := (RX12, yX12_slack, cX12_slack, 2, (some .int))
abbrev MX12_odd : mM := (RX12, yX12_odd, cX12_odd, 3, (some .int))
abbrev MX12_now : mM := (RX12, yX12_now, cX12_now, 4, (some .int))
abbrev MX12_goesOn : mM := (RX12, yX12_goesOn, cX12_goesOn, 6, (some .boolean))
abbrev MX12_layPath : mM := (RX12, yX12_layPath, cX12_layPath, 3, (some .int))
abbrev MX12_isPath : mM := (RX12, yX12_isPath, cX12_isPath, 4, (some .boolean))
abbrev MX12_turnPath : mM := (RX12, yX12_turnPath, cX12_turnPath, 4, none)
abbrev MX12_flowers : mM := (RX12, yX12_flowers, cX12_flowers, 6, (some .boolean))
abbrev MX12_isFlower : mM := (RX12, yX12_isFlower, cX12_isFlower, 2, (some .boolean))
abbrev MX12_grow : mM := (RX12, yX12_grow, cX12_grow, 4, (some .int))
abbrev MX12_growAt : mM := (RX12, yX12_growAt, cX12_growAt, 2, (some .int))
abbrev MX12_flower : mM := (RX12, yX12_flower, cX12_flower, 4, (some .int))
abbrev MX12_flowerAt : mM := (RX12, yX12_flowerAt, cX12_flowerAt, 2, (some .int))
abbrev MX12_save : mM := (RX12, yX12_save, cX12_save, 4, none)
abbrev MX12_comeBack : mM := (RX12, yX12_comeBack, cX12_comeBack, 4, none)
abbrev MX12_snap : mM := (RX12, yX12_snap, cX12_snap, 2, none)
abbrev MX12_refusal : mM := (RX12, yX12_refusal, cX12_refusal, 5, (some .int))
abbrev MX12_live : mM := (RX12, yX12_live, cX12_live, 5, none)
abbrev MX12_openOdd : mM := (RX12, yX12_openOdd, cX12_openOdd, 3, none)
abbrev MX12_act : mM := (RX12, yX12_act, cX12_act, 7, (some .int))
abbrev MX12_pair : mM := (RX12, yX12_pair, cX12_pair, 3, (some .int))
abbrev MX12_part : mM := (RX12, yX12_part, cX12_part, 2, (some .int))
abbrev MX12_weigh : mM := (RX12, yX12_weigh, cX12_weigh, 4, (some .int))
abbrev MX12_price : mM := (RX12, yX12_price, cX12_price, 3, (some .int))
abbrev MX12_crown : mM := (RX12, yX12_crown, cX12_crown, 3, (some .int))
abbrev MX12_open : mM := (RX12, yX12_open, cX12_open, 2, (some .int))
abbrev MX12_turn : mM := (RX12, yX12_turn, cX12_turn, 1, (some .int))
abbrev MX12_shrink : mM := (RX12, yX12_shrink, cX12_shrink, 3, (some .int))
abbrev MX12_undo : mM := (RX12, yX12_undo, cX12_undo, 1, (some .int))
abbrev MX12_breaks : mM := (RX12, yX12_breaks, cX12_breaks, 3, (some .int))
abbrev MX12_proof : mM := (RX12, yX12_proof, cX12_proof, 2, (some .int))
abbrev MX12_proofAt : mM := (RX12, yX12_proofAt, cX12_proofAt, 1, (some .int))
abbrev MX12_proofBy : mM := (RX12, yX12_proofBy, cX12_proofBy, 1, (some .int))
abbrev MX12_room : mM := (RX12, yX12_room, cX12_room, 4, (some .int))
abbrev MX12_leaf : mM := (RX12, yX12_leaf, cX12_leaf, 4, none)
abbrev MX12_walk : mM := (RX12, yX12_walk, cX12_walk, 6, none)
abbrev MX12_survey : mM := (RX12, yX12_survey, cX12_survey, 2, none)
abbrev MX12_isAsked : mM := (RX12, yX12_isAsked, cX12_isAsked, 2, (some .boolean))
abbrev MX12_surveyMost : mM := (RX12, yX12_surveyMost, cX12_surveyMost, 2, none)
abbrev MX12_fateOf : mM := (RX12, yX12_fateOf, cX12_fateOf, 2, (some .int))
abbrev MX12_best : mM := (RX12, yX12_best, cX12_best, 2, (some .int))
abbrev MX12_bestOf : mM := (RX12, yX12_bestOf, cX12_bestOf, 2, (some .int))
abbrev MX12_next : mM := (RX12, yX12_next, cX12_next, 1, (some .int))
abbrev MX12_heavy : mM := (RX12, yX12_heavy, cX12_heavy, 2, (some .int))
abbrev MX12_ways : mM := (RX12, yX12_ways, cX12_ways, 2, (some .int))
abbrev MX12_who : mM := (RX12, yX12_who, cX12_who, 6, (some .int))
abbrev MX12_ask : mM := (RX12, yX12_ask, cX12_ask, 1, (some .int))
abbrev MX12_stroke : mM := (RX12, yX12_stroke, cX12_stroke, 11, none)
abbrev MX12_gain : mM := (RX12, yX12_gain, cX12_gain, 5, (some .int))
abbrev MX12_fraction : mM := (RX12, yX12_fraction, cX12_fraction, 4, (some .int))
abbrev MX12_mean : mM := (RX12, yX12_mean, cX12_mean, 2, (some .int))
abbrev MX12_write : mM := (RX12, yX12_write, cX12_write, 2, none)
abbrev MX12_writeWord : mM := (RX12, yX12_writeWord, cX12_writeWord, 3, none)
abbrev MX12_writeNext : mM := (RX12, yX12_writeNext, cX12_writeNext, 3, none)
abbrev MX12_writeNumber : mM := (RX12, yX12_writeNumber, cX12_writeNumber, 2, none)
abbrev MX12_tag : mM := (RX12, yX12_tag, cX12_tag, 2, (some .int))
abbrev MX12_byteAt : mM := (RX12, yX12_byteAt, cX12_byteAt, 2, (some .int))
abbrev MX12_draw : mM := (RX12, yX12_draw, cX12_draw, 2, (some .int))
abbrev MX12_drawPoint : mM := (RX12, yX12_drawPoint, cX12_drawPoint, 1, (some .int))
abbrev MX12_doIf : mM := (RX12, yX12_doIf, cX12_doIf, 5, (some .boolean))
abbrev MX12_drawsDeed : mM := (RX12, yX12_drawsDeed, cX12_drawsDeed, 4, (some .boolean))
abbrev MX12_drawDeeds : mM := (RX12, yX12_drawDeeds, cX12_drawDeeds, 5, (some .int))
abbrev MX12_drawn : mM := (RX12, yX12_drawn, cX12_drawn, 4, (some .int))
abbrev MX12_odds : mM := (RX12, yX12_odds, cX12_odds, 6, (some .int))
abbrev MX12_keep : mM := (RX12, yX12_keep, cX12_keep, 3, (some .boolean))
abbrev MX12_readPointName : mM := (RX12, yX12_readPointName, cX12_readPointName, 1, (some .boolean))
abbrev MX12_readOther : mM := (RX12, yX12_readOther, cX12_readOther, 2, (some .boolean))
abbrev MX12_readBookLine : mM := (RX12, yX12_readBookLine, cX12_readBookLine, 4, (some .boolean))
abbrev MX12_goBy : mM := (RX12, yX12_goBy, cX12_goBy, 4, (some .int))
abbrev MX12_book : mM := (RX12, yX12_book, cX12_book, 4, (some .int))
abbrev MX12_stay : mM := (RX12, yX12_stay, cX12_stay, 2, none)
abbrev MX12_told : mM := (RX12, yX12_told, cX12_told, 2, (some .int))
abbrev MX12_readThat : mM := (RX12, yX12_readThat, cX12_readThat, 2, (some .boolean))
abbrev MX12_weightOf : mM := (RX12, yX12_weightOf, cX12_weightOf, 2, (some .int))
abbrev MX12_saysOne : mM := (RX12, yX12_saysOne, cX12_saysOne, 6, (some .int))
abbrev MX12_readOr : mM := (RX12, yX12_readOr, cX12_readOr, 2, (some .boolean))
abbrev MX12_readAnd : mM := (RX12, yX12_readAnd, cX12_readAnd, 2, (some .boolean))
abbrev MX12_readSaid : mM := (RX12, yX12_readSaid, cX12_readSaid, 4, (some .boolean))
abbrev MX12_readNot : mM := (RX12, yX12_readNot, cX12_readNot, 1, (some .boolean))
abbrev MX12_readBracket : mM := (RX12, yX12_readBracket, cX12_readBracket, 1, (some .boolean))
abbrev MX12_readOf : mM := (RX12, yX12_readOf, cX12_readOf, 2, (some .boolean))
abbrev MX12_readCompare : mM := (RX12, yX12_readCompare, cX12_readCompare, 3, (some .boolean))
abbrev MX12_sentence : mM := (RX12, yX12_sentence, cX12_sentence, 2, (some .int))
abbrev MX12_holds : mM := (RX12, yX12_holds, cX12_holds, 8, (some .boolean))
abbrev MX12_said : mM := (RX12, yX12_said, cX12_said, 4, (some .int))
abbrev MX12_image : mM := (RX12, yX12_image, cX12_image, 3, (some .boolean))
abbrev MX12_restore : mM := (RX12, yX12_restore, cX12_restore, 3, (some .boolean))
abbrev MX12_count : mM := (RX12, yX12_count, cX12_count, 2, (some .int))
abbrev MJ6_bitCount_0f7a4 : mM := (RJ6, yJ6_bitCount_0f7a4, cJ6_bitCount_0f7a4, 1, (some .int))
abbrev MJ9_floorMod_7cf53 : mM := (RJ9, yJ9_floorMod_7cf53, cJ9_floorMod_7cf53, 3, (some .int))
abbrev MJ9_max_7cf53 : mM := (RJ9, yJ9_max_7cf53, cJ9_max_7cf53, 2, (some .int))
abbrev MJ9_min_7cf53 : mM := (RJ9, yJ9_min_7cf53, cJ9_min_7cf53, 2, (some .int))
abbrev MJ0_length_8abf5 : mM := (RJ0, yJ0_length_8abf5, cJ0_length_8abf5, 1, (some .int))
abbrev MJ0_charAt_5068e : mM := (RJ0, yJ0_charAt_5068e, cJ0_charAt_5068e, 2, (some .char))
abbrev MJ0_coder_7d493 : mM := (RJ0, yJ0_coder_7d493, cJ0_coder_7d493, 1, (some .byte))
abbrev MJ0_isLatin1_aae02 : mM := (RJ0, yJ0_isLatin1_aae02, cJ0_isLatin1_aae02, 1, (some .boolean))
abbrev MJ0_checkIndex_df160 : mM := (RJ0, yJ0_checkIndex_df160, cJ0_checkIndex_df160, 2, none)
abbrev MJ1_charAt_3b067 : mM := (RJ1, yJ1_charAt_3b067, cJ1_charAt_3b067, 2, (some .char))
abbrev MJ2_getChar_3b067 : mM := (RJ2, yJ2_getChar_3b067, cJ2_getChar_3b067, 2, (some .char))
abbrev MJ2_length_9d52b : mM := (RJ2, yJ2_length_9d52b, cJ2_length_9d52b, 1, (some .int))
abbrev MJ2_charAt_3b067 : mM := (RJ2, yJ2_charAt_3b067, cJ2_charAt_3b067, 2, (some .char))
abbrev MJ2_checkIndex_2214a : mM := (RJ2, yJ2_checkIndex_2214a, cJ2_checkIndex_2214a, 2, none)
abbrev MJ3_checkIndex_8e157 : mM := (RJ3, yJ3_checkIndex_8e157, cJ3_checkIndex_8e157, 3, (some .int))
end
section
/-! ===== the machine of pictures (mx_): cells by number, their ints and longs as functions; one row an instruction, goal first ===== -/
/-- base address, classes and slots, array classes (0 int, 1 long, 2 boolean, 3 Network, 4 Picture), addresses of strings -/
abbrev mG : Type := Nat × va_G × (Nat → ClassId) × (Nat → Nat)
def mx_ad (G : mG) (i : Nat) : Nat := if i < 100000 then G.1 + i else G.2.2.2 i
def mx_tr (G : mG) : Value → Value
  | .ref a => .ref (mx_ad G a)
  | v => v
/-- how many cells, their kind and length, their references -/
abbrev mE : Type := Nat × (Nat → Nat × Nat) × (Nat → Nat → Option Nat)
abbrev mI : Type := Nat → Nat → Int32
abbrev mJ : Type := Nat → Nat → Int64
abbrev mS : Type := mE × mI × mJ
def mx_rv (G : mG) (r : Option Nat) : Value := match r with
  | none => .null
  | some a => .ref (mx_ad G a)
def mx_fv (G : mG) (z : mS) (ty : FieldType) (i k : Nat) : Value := match ty with
  | .long => .long (z.2.2 i k)
  | .object _ => mx_rv G (z.1.2.2 i k)
  | .array _ => mx_rv G (z.1.2.2 i k)
  | _ => .int (z.2.1 i k)
def mx_ty (c : Nat) : Nat → FieldType := match c with
  | 0 => tyX0 | 1 => tyX1 | 2 => tyX2 | 3 => tyX3 | 4 => tyX4 | 5 => tyX5 | 6 => tyX6 | 7 => tyX7 | 8 => tyX8 | 9 => tyX9 | 10 => tyX10 | 11 => tyX11
  | _ => tyX12
def mx_obj (G : mG) (z : mS) (c i : Nat) (H : Heap) : Prop := ∃ r : vw_C, vwCl[c]? = some r ∧ t_OB (G.1 + i) (G.2.1.1 c) r.2.2 (G.2.1.2 c) H (fun k => mx_fv G z (mx_ty c k) i k)
/-- a cell by its kind: 0 to 12 objects, 100 on arrays, 999 anything -/
def mx_cell (G : mG) (z : mS) (i : Nat) (H : Heap) : Prop :=
  if (z.1.2.1 i).1 = 100 then H[G.1 + i]? = some (arrV (G.2.2.1 0) (z.1.2.1 i).2 (fun j => .int (z.2.1 i j)))
  else if (z.1.2.1 i).1 = 101 then H[G.1 + i]? = some (arrV (G.2.2.1 1) (z.1.2.1 i).2 (fun j => .long (z.2.2 i j)))
  else if (z.1.2.1 i).1 = 102 then H[G.1 + i]? = some (arrV (G.2.2.1 2) (z.1.2.1 i).2 (fun j => .int (z.2.1 i j)))
  else if (z.1.2.1 i).1 = 103 then H[G.1 + i]? = some (arrV (G.2.2.1 3) (z.1.2.1 i).2 (fun j => mx_rv G (z.1.2.2 i j)))
  else if (z.1.2.1 i).1 = 104 then H[G.1 + i]? = some (arrV (G.2.2.1 4) (z.1.2.1 i).2 (fun j => mx_rv G (z.1.2.2 i j)))
  else if (z.1.2.1 i).1 = 999 then True
  else mx_obj G z (z.1.2.1 i).1 i H
def mx_H (G : mG) (z : mS) (H : Heap) : Prop := H.size = G.1 + z.1.1 ∧ z.1.1 ≤ 100000 ∧ ∀ i, i < z.1.1 → mx_cell G z i H
def mx_tys (G : mG) : List (ClassId × FieldType) := [(G.2.2.1 0, .int), (G.2.2.1 1, .long), (G.2.2.1 2, .boolean), (G.2.2.1 3, .object RX4), (G.2.2.1 4, .object RX6)]
def mx_K (G : mG) (U : State) : Prop := va_K G.2.1 vwCl (mx_tys G) U
theorem mx_K.moved {G : mG} {u U : State} (hvm : u.vm.Alike U.vm) (h : mx_K G u) : mx_K G U := va_K.moved hvm h
/-- the locals that are known; .float: not known -/
def mx_al (G : mG) : Nat → List Value → List (Nat × Value)
  | _, [] => []
  | i, v :: L => match v with
    | .float _ => mx_al G (i + 1) L
    | v => (i, mx_tr G v) :: mx_al G (i + 1) L
theorem mx_al_cons (G : mG) (i : Nat) (v : Value) (L : List Value) : (∃ f, v = .float f ∧ mx_al G i (v :: L) = mx_al G (i + 1) L) ∨ mx_al G i (v :: L) = (i, mx_tr G v) :: mx_al G (i + 1) L := by
  cases v with
  | float f => exact Or.inl ⟨f, rfl, rfl⟩
  | _ => exact Or.inr rfl
theorem mx_al_in {G : mG} {L : List Value} : ∀ {n i : Nat} {v : Value}, L[i]? = some v → (∀ f, v ≠ .float f) → (n + i, mx_tr G v) ∈ mx_al G n L := by
  induction L with
  | nil => intro n i v h; simp at h
  | cons a L ih =>
    intro n i v h hf
    cases i with
    | zero =>
      simp at h
      subst h
      rcases mx_al_cons G n a L with ⟨f, e, -⟩ | e
      · exact absurd e (hf f)
      · rw [e]; exact List.mem_cons_self
    | succ i =>
      have h1 : L[i]? = some v := by simpa using h
      have h2 := ih (n := n + 1) h1 hf
      have e2 : n + 1 + i = n + (i + 1) := by omega
      rw [e2] at h2
      rcases mx_al_cons G n a L with ⟨f, e, e3⟩ | e
      · rw [e3]; exact h2
      · rw [e]; exact List.mem_cons_of_mem _ h2
theorem mx_al_out {G : mG} {L : List Value} : ∀ {n : Nat} {q : Nat × Value}, q ∈ mx_al G n L → ∃ (i : Nat) (v : Value), q = (n + i, mx_tr G v) ∧ L[i]? = some v ∧ ∀ f, v ≠ .float f := by
  induction L with
  | nil => intro n q h; simp [mx_al] at h
  | cons a L ih =>
    intro n q h
    have key : q ∈ mx_al G (n + 1) L → ∃ (i : Nat) (v : Value), q = (n + i, mx_tr G v) ∧ (a :: L)[i]? = some v ∧ ∀ f, v ≠ .float f := by
      intro h
      obtain ⟨i, v, e, h1, h2⟩ := ih h
      exact ⟨i + 1, v, by rw [e, show n + 1 + i = n + (i + 1) by omega], by simpa using h1, h2⟩
    cases a with
    | float f => exact key h
    | _ =>
      rcases List.mem_cons.mp h with rfl | h
      · exact ⟨0, _, rfl, rfl, fun f q => by cases q⟩
      · exact key h
theorem mx_tr_cat (G : mG) (v : Value) : (mx_tr G v).category = v.category := by cases v <;> rfl
theorem mx_at {G : mG} {ls : Array Slot} {n i : Nat} {L : List Value} {v : Value} (h : lv_has ls n (mx_al G 0 L)) (hk : L[i]? = some v) (hf : ∀ f, v ≠ .float f) : ls[i]? = some (.val (mx_tr G v)) := by
  have h1 := h.2.2 _ (mx_al_in (n := 0) hk hf)
  simpa using h1
/-- a store of one slot: what takes two slots just below is lost -/
def mx_s1 (L : List Value) (i : Nat) (v : Value) : List Value := match i with
  | 0 => L.set 0 v
  | j + 1 => if (L[j]?.getD .null).category = 2 then (L.set j (.float 0)).set (j + 1) v else L.set (j + 1) v
/-- a store of two slots -/
def mx_s2 (L : List Value) (i : Nat) (v : Value) : List Value := (mx_s1 L i v).set (i + 1) (.float 0)
theorem mx_set_in {L : List Value} {i j : Nat} {v w : Value} (h : (L.set i v)[j]? = some w) : (j = i ∧ w = v) ∨ (j ≠ i ∧ L[j]? = some w) := by
  rw [List.getElem?_set] at h
  by_cases hij : i = j
  · rw [if_pos hij] at h
    split at h
    · cases h; exact Or.inl ⟨hij.symm, rfl⟩
    · cases h
  · rw [if_neg hij] at h
    exact Or.inr ⟨fun q => hij q.symm, h⟩
theorem mx_s1_get {L : List Value} {i j : Nat} {v w : Value} (h : (mx_s1 L i v)[j]? = some w) (hw : ∀ f, w ≠ .float f) : (j = i ∧ w = v) ∨ (j ≠ i ∧ L[j]? = some w ∧ ¬ (j + 1 = i ∧ w.category = 2)) := by
  unfold mx_s1 at h
  cases i with
  | zero =>
    rcases mx_set_in h with q | q
    · exact Or.inl q
    · exact Or.inr ⟨q.1, q.2, fun z => by omega⟩
  | succ k =>
    dsimp only at h
    split at h
    · rcases mx_set_in h with q | q
      · exact Or.inl q
      · rcases mx_set_in q.2 with r | r
        · exact absurd r.2 (hw 0)
        · exact Or.inr ⟨q.1, r.2, fun z => r.1 (by omega)⟩
    · rename_i hc
      rcases mx_set_in h with q | q
      · exact Or.inl q
      · refine Or.inr ⟨q.1, q.2, fun z => hc ?_⟩
        have : j = k := by omega
        subst this
        rw [q.2]
        exact z.2
theorem mx_s1_in {G : mG} {L : List Value} {i : Nat} {v : Value} {q : Nat × Value} (h : q ∈ mx_al G 0 (mx_s1 L i v)) :
    q ∈ (i, mx_tr G v) :: (mx_al G 0 L).filter (fun q => !(q.1 == i) && !(q.1 + 1 == i && q.2.category == 2)) := by
  obtain ⟨j, w, e, hj, hw⟩ := mx_al_out h
  rw [Nat.zero_add] at e
  subst e
  rcases mx_s1_get hj hw with ⟨rfl, rfl⟩ | ⟨hji, hL, hn⟩
  · exact List.mem_cons_self
  · refine List.mem_cons_of_mem _ (List.mem_filter.mpr ⟨by have := mx_al_in (G := G) (n := 0) hL hw; simpa using this, ?_⟩)
    simp only [Bool.and_eq_true, Bool.not_eq_true', beq_eq_false_iff_ne, ne_eq, Bool.and_eq_false_iff]
    refine ⟨hji, ?_⟩
    by_cases h1 : j + 1 = i
    · right; rw [mx_tr_cat]; exact fun q => hn ⟨h1, q⟩
    · left; exact h1
theorem mx_s2_in {G : mG} {L : List Value} {i : Nat} {v : Value} {q : Nat × Value} (h : q ∈ mx_al G 0 (mx_s2 L i v)) :
    q ∈ (i, mx_tr G v) :: (mx_al G 0 L).filter (fun q => !(q.1 == i) && (!(q.1 == i + 1) && !(q.1 + 1 == i && q.2.category == 2))) := by
  obtain ⟨j, w, e, hj, hw⟩ := mx_al_out h
  rw [Nat.zero_add] at e
  subst e
  rcases mx_set_in hj with ⟨-, rfl⟩ | ⟨hj1, hj⟩
  · exact absurd rfl (hw 0)
  rcases mx_s1_get hj hw with ⟨rfl, rfl⟩ | ⟨hji, hL, hn⟩
  · exact List.mem_cons_self
  · refine List.mem_cons_of_mem _ (List.mem_filter.mpr ⟨by have := mx_al_in (G := G) (n := 0) hL hw; simpa using this, ?_⟩)
    simp only [Bool.and_eq_true, Bool.not_eq_true', beq_eq_false_iff_ne, ne_eq, Bool.and_eq_false_iff]
    refine ⟨hji, hj1, ?_⟩
    by_cases h1 : j + 1 = i
    · right; rw [mx_tr_cat]; exact fun q => hn ⟨h1, q⟩
    · left; exact h1
theorem mx_has_mono {ls : Array Slot} {n : Nat} {l l' : List (Nat × Value)} (h : lv_has ls n l) (hs : ∀ q ∈ l', q ∈ l) : lv_has ls n l' := ⟨h.1, h.2.1, fun q hq => h.2.2 q (hs q hq)⟩
/-- fewer known locals -/
def mx_le : List Value → List Value → Prop
  | [], _ => True
  | .float _ :: L', L => mx_le L' L.tail
  | v :: L', L => L.head? = some v ∧ mx_le L' L.tail
theorem mx_le_al {G : mG} : ∀ {L' L : List Value} {n : Nat}, mx_le L' L → ∀ q ∈ mx_al G n L', q ∈ mx_al G n L := by
  intro L'
  induction L' with
  | nil => intro L n _ q hq; simp [mx_al] at hq
  | cons v L' ih =>
    intro L n h q hq
    have tl : ∀ (K : List Value), q ∈ mx_al G (n + 1) K.tail → q ∈ mx_al G n K := by
      intro K hK
      cases K with
      | nil => simpa [mx_al] using hK
      | cons a K =>
        rcases mx_al_cons G n a K with ⟨f, -, e⟩ | e
        · rw [e]; exact hK
        · rw [e]; exact List.mem_cons_of_mem _ hK
    cases v with
    | float f => exact tl L (ih h q hq)
    | _ =>
      rcases List.mem_cons.mp hq with rfl | hq
      · cases L with
        | nil => simp [mx_le] at h
        | cons a L =>
          have ha := h.1
          simp at ha
          subst ha
          exact List.mem_cons_self
      · exact tl L (ih h.2 q hq)
/-! the words: all that hold at every state of a launch -/
def mx_TB : List Cond := lw_tbl.filter goodWord
theorem mx_TBg : GoodIn mx_TB mx_TB := fun w hw => ⟨hw, good_of_word (List.mem_filter.mp hw).2⟩
def mx_ws (M : mM) : List Cond := .code M.2.1 M.2.2.1 M.2.2.2.1 M.2.2.2.2 :: mx_TB
theorem mx_in {w : Cond} {i : Nat} (h : tables_1[i]? = some w) (hg : goodWord w = true) : w ∈ mx_TB := List.mem_filter.mpr ⟨List.mem_append_right _ (List.mem_of_getElem? h), hg⟩
theorem mx_inS {w : Cond} {i : Nat} (h : (k2_sels lw_privs)[i]? = some w) (hg : goodWord w = true) : w ∈ mx_TB := List.mem_filter.mpr ⟨List.mem_append_left _ (List.mem_of_getElem? h), hg⟩
def mx_C (G : mG) (M : mM) (p : Program) (s : State) (m : MethodId) (args : Array Value) (meth : Method) (c : Code) : Prop :=
  p.tables.exec = Jvm.exec ∧ c.code = M.2.2.1 ∧ c.maxLocals = M.2.2.2.1 ∧ meth.sig.returnType = M.2.2.2.2 ∧ meth.locks = false ∧ s.vm.findClass M.1 = some m.cls ∧ meth.name = M.2.1.name ∧ (∀ w ∈ mx_TB, w.before args s = true) ∧ mx_K G s
def mx_fr (G : mG) : Nat → Prop := fun q => G.1 ≤ q
def mx_Q (G : mG) (Post : Option Value → mS → Prop) : Array Value → State → Outcome → State → Prop := fun _ st o t =>
  (∃ (v : Option Value) (z : mS), o = .returned (v.map (mx_tr G)) ∧ Post v z ∧ mx_H G z t.heap) ∧ va_F (mx_fr G) st t
def mx_Pc (G : mG) (av : List Value) (z : mS) : Array Value → State → Prop := fun a U => a = (av.map (mx_tr G)).toArray ∧ mx_H G z U.heap ∧ mx_K G U
def mx_rm (d kc ks : Nat) : Room := { frames := d, cells := kc, slots := ks, locals := 60 * d }
/-- A CALL: the method, at depth d, making at most kc cells of ks slots, from arguments av and picture z, ends with Post -/
def mx_Call (G : mG) (l : Launch) (M : mM) (d kc ks : Nat) (av : List Value) (z : mS) (Post : Option Value → mS → Prop) : Prop :=
  Met l M.2.1 (mx_ws M) (mx_rm d kc ks) (mx_Pc G av z) (mx_Q G Post) kc ks (mx_fr G)
/-- what holds of the machine wherever a frame is -/
def mx_X (G : mG) (M : mM) (d kc ks : Nat) (L : List Value) (z : mS) (p : Program) (R : Room) (s : State) (m : MethodId) (args : Array Value) (meth : Method) (c : Code) (H : Heap) (locs : List Loc) (cells slots : Nat) (ls : Array Slot) : Prop :=
  mx_C G M p s m args meth c ∧ (d ≤ R.frames ∧ 60 * d ≤ R.locals ∧ cells + kc ≤ R.cells ∧ slots + ks ≤ R.slots) ∧ va_S (mx_fr G) s.heap H locs ∧ G.1 ≤ s.heap.size ∧ mx_H G z H ∧ lv_has ls M.2.2.2.1 (mx_al G 0 L)
/-- A FRAME: from pc, locals L, stack st and picture z on the method ends with Post -/
def mx_Fr (G : mG) (l : Launch) (M : mM) (d kc ks : Nat) (Post : Option Value → mS → Prop) (pc : Nat) (L st : List Value) (z : mS) : Prop :=
  ∀ (p : Program) (e : Env) (R : Room) (s : State) (m : MethodId) (args : Array Value) (below : List Frame) (meth : Method) (c : Code) (H : Heap) (locs : List Loc) (cells slots : Nat) (ls : Array Slot),
    mx_X G M d kc ks L z p R s m args meth c H locs cells slots ls →
    W p l e R s m args below meth c H locs cells slots (MQ below (mx_Q G Post) args s R.cells R.slots (mx_fr G)) (F0 m pc ls (st.map (mx_tr G)))
end
section
section MX
variable {G : mG} {l : Launch} {M : mM} {d kc ks : Nat} {Post : Option Value → mS → Prop} {pc : Nat} {L st : List Value} {z : mS}
theorem mx_S_F {G : mG} {s t : State} {H : Heap} {locs : List Loc} (h : va_S (mx_fr G) s.heap H locs) (ht : t.heap = H) : va_F (mx_fr G) s t := ⟨by rw [ht]; exact h.1, fun q hq hA => by rw [ht]; exact h.2.1 q hq hA⟩
/-- fewer known locals suffice -/
theorem mx_forget {L' : List Value} (h : mx_le L' L) (kk : mx_Fr G l M d kc ks Post pc L' st z) : mx_Fr G l M d kc ks Post pc L st z := by
  intro p e R s m args below meth c H locs cells slots ls ⟨hC, hR, hS, hb, hH, hl⟩
  exact kk p e R s m args below meth c H locs cells slots ls ⟨hC, hR, hS, hb, hH, mx_has_mono hl (mx_le_al h)⟩
/-- less room suffices -/
theorem mx_less {d' kc' ks' : Nat} (hd : d' ≤ d) (h1 : kc' ≤ kc) (h2 : ks' ≤ ks) (kk : mx_Fr G l M d' kc' ks' Post pc L st z) : mx_Fr G l M d kc ks Post pc L st z := by
  intro p e R s m args below meth c H locs cells slots ls ⟨hC, hR, hS, hb, hH, hl⟩
  exact kk p e R s m args below meth c H locs cells slots ls ⟨hC, ⟨by omega, by omega, by omega, by omega⟩, hS, hb, hH, hl⟩
theorem mx_eqL {L' : List Value} (h : L = L') (kk : mx_Fr G l M d kc ks Post pc L' st z) : mx_Fr G l M d kc ks Post pc L st z := h ▸ kk
theorem mx_eqz {z' : mS} (h : z = z') (kk : mx_Fr G l M d kc ks Post pc L st z') : mx_Fr G l M d kc ks Post pc L st z := h ▸ kk
theorem mx_eqs {st' : List Value} (h : st = st') (kk : mx_Fr G l M d kc ks Post pc L st' z) : mx_Fr G l M d kc ks Post pc L st z := h ▸ kk
/-- the locals at a method's entry -/
def mx_L0 : List Value → List Value
  | [] => []
  | v :: vs => if v.category = 2 then v :: .float 0 :: mx_L0 vs else v :: mx_L0 vs
theorem mx_blind {av : List Value} : FrameBlind (mx_Pc G av z) := fun a U g mk q => ⟨q.1, q.2.1, mx_K.moved (u := U) (U := U.calling g mk a) (Vm.Alike.refl U.vm) q.2.2⟩
theorem mx_al_fl (k : Nat) : ∀ n, mx_al G n (List.replicate k (.float 0)) = [] := by
  induction k with
  | zero => intro n; rfl
  | succ k ih => intro n; exact ih (n + 1)
theorem mx_al_app : ∀ (A B : List Value) (n : Nat), mx_al G n (A ++ B) = mx_al G n A ++ mx_al G (n + A.length) B := by
  intro A
  induction A with
  | nil => intro B n; rfl
  | cons a A ih =>
    intro B n
    have e : n + 1 + A.length = n + (a :: A).length := by simp; omega
    cases a with
    | float f =>
      show mx_al G (n + 1) (A ++ B) = mx_al G (n + 1) A ++ _
      rw [ih, e]
    | _ =>
      show _ :: mx_al G (n + 1) (A ++ B) = _ :: mx_al G (n + 1) A ++ _
      rw [ih, e]; rfl
theorem mx_al_args : ∀ (av : List Value) (n : Nat), ∀ q ∈ mx_al G n (mx_L0 av), q ∈ lv_args n (av.map (mx_tr G)) := by
  intro av
  induction av with
  | nil => intro n q h; simp [mx_L0, mx_al] at h
  | cons v av ih =>
    intro n q h
    by_cases hc : v.category = 2
    · have e : mx_L0 (v :: av) = v :: .float 0 :: mx_L0 av := by simp [mx_L0, hc]
      rw [e] at h
      have e2 : lv_args n ((v :: av).map (mx_tr G)) = (n, mx_tr G v) :: lv_args (n + 2) (av.map (mx_tr G)) := by
        simp [lv_args, mx_tr_cat, hc]
      rw [e2]
      rcases mx_al_cons G n v (.float 0 :: mx_L0 av) with ⟨f, hv, -⟩ | e3
      · subst hv; exact absurd hc (by simp [Value.category])
      · rw [e3] at h
        rcases List.mem_cons.mp h with rfl | h
        · exact List.mem_cons_self
        · exact List.mem_cons_of_mem _ (ih (n + 2) q h)
    · have e : mx_L0 (v :: av) = v :: mx_L0 av := by simp [mx_L0, hc]
      rw [e] at h
      have hc1 : v.category = 1 := (lv_cat v).resolve_right hc
      have e2 : lv_args n ((v :: av).map (mx_tr G)) = (n, mx_tr G v) :: lv_args (n + 1) (av.map (mx_tr G)) := by
        simp [lv_args, mx_tr_cat, hc1]
      rw [e2]
      rcases mx_al_cons G n v (mx_L0 av) with ⟨f, hv, e3⟩ | e3
      · rw [e3] at h
        exact List.mem_cons_of_mem _ (ih (n + 1) q h)
      · rw [e3] at h
        rcases List.mem_cons.mp h with rfl | h
        · exact List.mem_cons_self
        · exact List.mem_cons_of_mem _ (ih (n + 1) q h)
theorem mx_len (av : List Value) : (lg_sl (av.map (mx_tr G))).length = (mx_L0 av).length := by
  induction av with
  | nil => rfl
  | cons v av ih =>
    by_cases hc : v.category = 2
    · simp [lg_sl, mx_L0, hc, mx_tr_cat] at ih ⊢; omega
    · simp [lg_sl, mx_L0, hc, mx_tr_cat] at ih ⊢; omega
theorem mx_entry {av : List Value} (hp : plainName M.2.1.cls = true ∧ M.1 = M.2.1.cls) (hn : (mx_L0 av).length ≤ M.2.2.2.1)
    (hL : mx_L0 av ++ List.replicate (M.2.2.2.1 - (mx_L0 av).length) (.float 0) = L) (kk : mx_Fr G l M d kc ks Post 0 L [] z) : mx_Call G l M d kc ks av z Post := by
  subst hL
  refine Met.ofW (cc := M.2.2.1) (maxL := M.2.2.2.1) (ret := M.2.2.2.2) hp.1 rfl ?_
  intro p e s m args below meth c s₁ B hml hP
  obtain ⟨rfl, hH, hK⟩ := hP
  have hts := atoms_spec (ws := mx_ws M) B.pre
  have hown : s.vm.findClass M.1 = some m.cls := hp.2 ▸ findClass_of_methodNamed B.named
  have hl := lv_entry (av.map (mx_tr G)) (n := M.2.2.2.1) (by rw [mx_len]; exact hn)
  rw [lg_entry_eq]
  exact kk p e _ s m _ below meth c s.heap [] 0 0 _ ⟨⟨B.exec, B.bytes, hml, B.returns, B.notSynchronized, hown, (name_of_methodNamed B.named B.method).1, fun w hw => hts w (List.mem_cons_of_mem _ hw), hK⟩,
    ⟨Nat.le_refl _, Nat.le_refl _, by simp [headSpec, mx_rm], by simp [headSpec, mx_rm]⟩, va_S.rf, by rw [hH.1]; exact Nat.le_add_right _ _, hH, mx_has_mono hl (fun q hq => by rw [mx_al_app, mx_al_fl, List.append_nil] at hq; exact mx_al_args av 0 q hq)⟩
theorem mx_iconst {n : Int} (v : Int32) (hd : decode M.2.2.1 pc = .ok (.iconst n, 1)) (hv : Int32.ofInt n = v) (kk : mx_Fr G l M d kc ks Post (pc + 1) L (.int v :: st) z) : mx_Fr G l M d kc ks Post pc L st z := by
  intro p e R s m args below meth c H locs cells slots ls X
  obtain ⟨⟨hx, hcc, hml, hrt, hlk, hown, hnm, hts, hK⟩, hR, hS, hb, hH, hl⟩ := id X
  exact lv_iconst hx hcc hd hv (kk p e R s m args below meth c H locs cells slots ls X)
theorem mx_bipush {n : Int} (v : Int32) (hd : decode M.2.2.1 pc = .ok (.bipush n, 2)) (hv : (Int8.ofInt n).toInt32 = v) (kk : mx_Fr G l M d kc ks Post (pc + 2) L (.int v :: st) z) : mx_Fr G l M d kc ks Post pc L st z := by
  intro p e R s m args below meth c H locs cells slots ls X
  obtain ⟨⟨hx, hcc, hml, hrt, hlk, hown, hnm, hts, hK⟩, hR, hS, hb, hH, hl⟩ := id X
  exact lv_bipush hx hcc hd hv (kk p e R s m args below meth c H locs cells slots ls X)
theorem mx_sipush {n : Int} (v : Int32) (hd : decode M.2.2.1 pc = .ok (.sipush n, 3)) (hv : (Int16.ofInt n).toInt32 = v) (kk : mx_Fr G l M d kc ks Post (pc + 3) L (.int v :: st) z) : mx_Fr G l M d kc ks Post pc L st z := by
  intro p e R s m args below meth c H locs cells slots ls X
  obtain ⟨⟨hx, hcc, hml, hrt, hlk, hown, hnm, hts, hK⟩, hR, hS, hb, hH, hl⟩ := id X
  exact lv_sipush hx hcc hd hv (kk p e R s m args below meth c H locs cells slots ls X)
theorem mx_lconst {n : Fin 2} (v : Int64) (hd : decode M.2.2.1 pc = .ok (.lconst n, 1)) (hv : Int64.ofNat (n : Nat) = v) (kk : mx_Fr G l M d kc ks Post (pc + 1) L (.long v :: st) z) : mx_Fr G l M d kc ks Post pc L st z := by
  intro p e R s m args below meth c H locs cells slots ls X
  obtain ⟨⟨hx, hcc, hml, hrt, hlk, hown, hnm, hts, hK⟩, hR, hS, hb, hH, hl⟩ := id X
  exact lv_lconst hx hcc hd hv (kk p e R s m args below meth c H locs cells slots ls X)
theorem mx_null  (hd : decode M.2.2.1 pc = .ok (.aconst_null, 1)) (kk : mx_Fr G l M d kc ks Post (pc + 1) L (.null :: st) z) : mx_Fr G l M d kc ks Post pc L st z := by
  intro p e R s m args below meth c H locs cells slots ls X
  obtain ⟨⟨hx, hcc, hml, hrt, hlk, hown, hnm, hts, hK⟩, hR, hS, hb, hH, hl⟩ := id X
  exact lv_null hx hcc hd (kk p e R s m args below meth c H locs cells slots ls X)
theorem mx_ldc {idx : Nat} (v : Int32) (hd : decode M.2.2.1 pc = .ok (.ldc idx, 2)) (hw : Cond.constant M.1 idx v ∈ mx_TB) (kk : mx_Fr G l M d kc ks Post (pc + 2) L (.int v :: st) z) : mx_Fr G l M d kc ks Post pc L st z := by
  intro p e R s m args below meth c H locs cells slots ls X
  obtain ⟨⟨hx, hcc, hml, hrt, hlk, hown, hnm, hts, hK⟩, hR, hS, hb, hH, hl⟩ := id X
  exact lv_ldc hx hcc hown (hts _ hw) hd (kk p e R s m args below meth c H locs cells slots ls X)
theorem mx_ldcw {idx : Nat} (v : Int32) (hd : decode M.2.2.1 pc = .ok (.ldc_w idx, 3)) (hw : Cond.constant M.1 idx v ∈ mx_TB) (kk : mx_Fr G l M d kc ks Post (pc + 3) L (.int v :: st) z) : mx_Fr G l M d kc ks Post pc L st z := by
  intro p e R s m args below meth c H locs cells slots ls X
  obtain ⟨⟨hx, hcc, hml, hrt, hlk, hown, hnm, hts, hK⟩, hR, hS, hb, hH, hl⟩ := id X
  exact lv_ldcw hx hcc hown (hts _ hw) hd (kk p e R s m args below meth c H locs cells slots ls X)
theorem mx_ldc2 {idx : Nat} (v : Int64) (hd : decode M.2.2.1 pc = .ok (.ldc2_w idx, 3)) (hw : Cond.constantLong M.1 idx v ∈ mx_TB) (kk : mx_Fr G l M d kc ks Post (pc + 3) L (.long v :: st) z) : mx_Fr G l M d kc ks Post pc L st z := by
  intro p e R s m args below meth c H locs cells slots ls X
  obtain ⟨⟨hx, hcc, hml, hrt, hlk, hown, hnm, hts, hK⟩, hR, hS, hb, hH, hl⟩ := id X
  exact lv_ldc2 hx hcc hown (hts _ hw) hd (kk p e R s m args below meth c H locs cells slots ls X)
theorem mx_iload_n {k : Fin 4} {i : Nat} {x : Int32} (hd : decode M.2.2.1 pc = .ok (.iload_n k, 1)) (hi : (k : Nat) = i) (hv : L[i]? = some (.int x)) (kk : mx_Fr G l M d kc ks Post (pc + 1) L (.int x :: st) z) : mx_Fr G l M d kc ks Post pc L st z := by
  intro p e R s m args below meth c H locs cells slots ls X
  obtain ⟨⟨hx, hcc, hml, hrt, hlk, hown, hnm, hts, hK⟩, hR, hS, hb, hH, hl⟩ := id X
  exact lv_iload_n hx hcc hd hi (mx_at hl hv (fun f q => by cases q)) (kk p e R s m args below meth c H locs cells slots ls X)
theorem mx_iload {i : Nat} {x : Int32} (hd : decode M.2.2.1 pc = .ok (.iload i, 2)) (hv : L[i]? = some (.int x)) (kk : mx_Fr G l M d kc ks Post (pc + 2) L (.int x :: st) z) : mx_Fr G l M d kc ks Post pc L st z := by
  intro p e R s m args below meth c H locs cells slots ls X
  obtain ⟨⟨hx, hcc, hml, hrt, hlk, hown, hnm, hts, hK⟩, hR, hS, hb, hH, hl⟩ := id X
  exact lv_iload hx hcc hd (mx_at hl hv (fun f q => by cases q)) (kk p e R s m args below meth c H locs cells slots ls X)
theorem mx_lload_n {k : Fin 4} {i : Nat} {x : Int64} (hd : decode M.2.2.1 pc = .ok (.lload_n k, 1)) (hi : (k : Nat) = i) (hv : L[i]? = some (.long x)) (kk : mx_Fr G l M d kc ks Post (pc + 1) L (.long x :: st) z) : mx_Fr G l M d kc ks Post pc L st z := by
  intro p e R s m args below meth c H locs cells slots ls X
  obtain ⟨⟨hx, hcc, hml, hrt, hlk, hown, hnm, hts, hK⟩, hR, hS, hb, hH, hl⟩ := id X
  exact lv_lload_n hx hcc hd hi (mx_at hl hv (fun f q => by cases q)) (kk p e R s m args below meth c H locs cells slots ls X)
theorem mx_lload {i : Nat} {x : Int64} (hd : decode M.2.2.1 pc = .ok (.lload i, 2)) (hv : L[i]? = some (.long x)) (kk : mx_Fr G l M d kc ks Post (pc + 2) L (.long x :: st) z) : mx_Fr G l M d kc ks Post pc L st z := by
  intro p e R s m args below meth c H locs cells slots ls X
  obtain ⟨⟨hx, hcc, hml, hrt, hlk, hown, hnm, hts, hK⟩, hR, hS, hb, hH, hl⟩ := id X
  exact lv_lload hx hcc hd (mx_at hl hv (fun f q => by cases q)) (kk p e R s m args below meth c H locs cells slots ls X)
theorem mx_aload_n {k : Fin 4} {i : Nat} {x : Nat} (hd : decode M.2.2.1 pc = .ok (.aload_n k, 1)) (hi : (k : Nat) = i) (hv : L[i]? = some (.ref x)) (kk : mx_Fr G l M d kc ks Post (pc + 1) L (.ref x :: st) z) : mx_Fr G l M d kc ks Post pc L st z := by
  intro p e R s m args below meth c H locs cells slots ls X
  obtain ⟨⟨hx, hcc, hml, hrt, hlk, hown, hnm, hts, hK⟩, hR, hS, hb, hH, hl⟩ := id X
  exact lv_aload_n hx hcc hd hi (mx_at hl hv (fun f q => by cases q)) (kk p e R s m args below meth c H locs cells slots ls X)
theorem mx_aload {i : Nat} {x : Nat} (hd : decode M.2.2.1 pc = .ok (.aload i, 2)) (hv : L[i]? = some (.ref x)) (kk : mx_Fr G l M d kc ks Post (pc + 2) L (.ref x :: st) z) : mx_Fr G l M d kc ks Post pc L st z := by
  intro p e R s m args below meth c H locs cells slots ls X
  obtain ⟨⟨hx, hcc, hml, hrt, hlk, hown, hnm, hts, hK⟩, hR, hS, hb, hH, hl⟩ := id X
  exact lv_aload hx hcc hd (mx_at hl hv (fun f q => by cases q)) (kk p e R s m args below meth c H locs cells slots ls X)
theorem mx_aload_nN {k : Fin 4} {i : Nat} (hd : decode M.2.2.1 pc = .ok (.aload_n k, 1)) (hi : (k : Nat) = i) (hv : L[i]? = some .null) (kk : mx_Fr G l M d kc ks Post (pc + 1) L (.null :: st) z) : mx_Fr G l M d kc ks Post pc L st z := by
  intro p e R s m args below meth c H locs cells slots ls X
  obtain ⟨⟨hx, hcc, hml, hrt, hlk, hown, hnm, hts, hK⟩, hR, hS, hb, hH, hl⟩ := id X
  exact lv_aload_nN hx hcc hd hi (mx_at hl hv (fun f q => by cases q)) (kk p e R s m args below meth c H locs cells slots ls X)
theorem mx_aloadN {i : Nat} (hd : decode M.2.2.1 pc = .ok (.aload i, 2)) (hv : L[i]? = some .null) (kk : mx_Fr G l M d kc ks Post (pc + 2) L (.null :: st) z) : mx_Fr G l M d kc ks Post pc L st z := by
  intro p e R s m args below meth c H locs cells slots ls X
  obtain ⟨⟨hx, hcc, hml, hrt, hlk, hown, hnm, hts, hK⟩, hR, hS, hb, hH, hl⟩ := id X
  exact lv_aloadN hx hcc hd (mx_at hl hv (fun f q => by cases q)) (kk p e R s m args below meth c H locs cells slots ls X)
theorem mx_istore_n {k : Fin 4} {i : Nat} {x : Int32} {L2 : List Value} (hd : decode M.2.2.1 pc = .ok (.istore_n k, 1)) (hi : (k : Nat) = i) (hn : i < M.2.2.2.1) (hL : mx_s1 L i (.int x) = L2) (kk : mx_Fr G l M d kc ks Post (pc + 1) L2 st z) : mx_Fr G l M d kc ks Post pc L (.int x :: st) z := by
  intro p e R s m args below meth c H locs cells slots ls X
  obtain ⟨⟨hx, hcc, hml, hrt, hlk, hown, hnm, hts, hK⟩, hR, hS, hb, hH, hl⟩ := id X
  exact lv_istore_n hx hcc hd hi hl hn rfl (fun ls2 hl2 => kk p e R s m args below meth c H locs cells slots ls2 ⟨X.1, hR, hS, hb, hH, hL ▸ mx_has_mono hl2 (fun q hq => mx_s1_in (v := .int x) hq)⟩)
theorem mx_istore {i : Nat} {x : Int32} {L2 : List Value} (hd : decode M.2.2.1 pc = .ok (.istore i, 2)) (hn : i < M.2.2.2.1) (hL : mx_s1 L i (.int x) = L2) (kk : mx_Fr G l M d kc ks Post (pc + 2) L2 st z) : mx_Fr G l M d kc ks Post pc L (.int x :: st) z := by
  intro p e R s m args below meth c H locs cells slots ls X
  obtain ⟨⟨hx, hcc, hml, hrt, hlk, hown, hnm, hts, hK⟩, hR, hS, hb, hH, hl⟩ := id X
  exact lv_istore hx hcc hd hl hn rfl (fun ls2 hl2 => kk p e R s m args below meth c H locs cells slots ls2 ⟨X.1, hR, hS, hb, hH, hL ▸ mx_has_mono hl2 (fun q hq => mx_s1_in (v := .int x) hq)⟩)
theorem mx_lstore_n {k : Fin 4} {i : Nat} {x : Int64} {L2 : List Value} (hd : decode M.2.2.1 pc = .ok (.lstore_n k, 1)) (hi : (k : Nat) = i) (hn : i + 1 < M.2.2.2.1) (hL : mx_s2 L i (.long x) = L2) (kk : mx_Fr G l M d kc ks Post (pc + 1) L2 st z) : mx_Fr G l M d kc ks Post pc L (.long x :: st) z := by
  intro p e R s m args below meth c H locs cells slots ls X
  obtain ⟨⟨hx, hcc, hml, hrt, hlk, hown, hnm, hts, hK⟩, hR, hS, hb, hH, hl⟩ := id X
  exact lv_lstore_n hx hcc hd hi hl hn rfl (fun ls2 hl2 => kk p e R s m args below meth c H locs cells slots ls2 ⟨X.1, hR, hS, hb, hH, hL ▸ mx_has_mono hl2 (fun q hq => mx_s2_in (v := .long x) hq)⟩)
theorem mx_lstore {i : Nat} {x : Int64} {L2 : List Value} (hd : decode M.2.2.1 pc = .ok (.lstore i, 2)) (hn : i + 1 < M.2.2.2.1) (hL : mx_s2 L i (.long x) = L2) (kk : mx_Fr G l M d kc ks Post (pc + 2) L2 st z) : mx_Fr G l M d kc ks Post pc L (.long x :: st) z := by
  intro p e R s m args below meth c H locs cells slots ls X
  obtain ⟨⟨hx, hcc, hml, hrt, hlk, hown, hnm, hts, hK⟩, hR, hS, hb, hH, hl⟩ := id X
  exact lv_lstore hx hcc hd hl hn rfl (fun ls2 hl2 => kk p e R s m args below meth c H locs cells slots ls2 ⟨X.1, hR, hS, hb, hH, hL ▸ mx_has_mono hl2 (fun q hq => mx_s2_in (v := .long x) hq)⟩)
theorem mx_astore_n {k : Fin 4} {i : Nat} {x : Nat} {L2 : List Value} (hd : decode M.2.2.1 pc = .ok (.astore_n k, 1)) (hi : (k : Nat) = i) (hn : i < M.2.2.2.1) (hL : mx_s1 L i (.ref x) = L2) (kk : mx_Fr G l M d kc ks Post (pc + 1) L2 st z) : mx_Fr G l M d kc ks Post pc L (.ref x :: st) z := by
  intro p e R s m args below meth c H locs cells slots ls X
  obtain ⟨⟨hx, hcc, hml, hrt, hlk, hown, hnm, hts, hK⟩, hR, hS, hb, hH, hl⟩ := id X
  exact lv_astore_n hx hcc hd hi hl hn rfl (fun ls2 hl2 => kk p e R s m args below meth c H locs cells slots ls2 ⟨X.1, hR, hS, hb, hH, hL ▸ mx_has_mono hl2 (fun q hq => mx_s1_in (v := .ref x) hq)⟩)
theorem mx_astore {i : Nat} {x : Nat} {L2 : List Value} (hd : decode M.2.2.1 pc = .ok (.astore i, 2)) (hn : i < M.2.2.2.1) (hL : mx_s1 L i (.ref x) = L2) (kk : mx_Fr G l M d kc ks Post (pc + 2) L2 st z) : mx_Fr G l M d kc ks Post pc L (.ref x :: st) z := by
  intro p e R s m args below meth c H locs cells slots ls X
  obtain ⟨⟨hx, hcc, hml, hrt, hlk, hown, hnm, hts, hK⟩, hR, hS, hb, hH, hl⟩ := id X
  exact lv_astore hx hcc hd hl hn rfl (fun ls2 hl2 => kk p e R s m args below meth c H locs cells slots ls2 ⟨X.1, hR, hS, hb, hH, hL ▸ mx_has_mono hl2 (fun q hq => mx_s1_in (v := .ref x) hq)⟩)
theorem mx_astore_nN {k : Fin 4} {i : Nat} {L2 : List Value} (hd : decode M.2.2.1 pc = .ok (.astore_n k, 1)) (hi : (k : Nat) = i) (hn : i < M.2.2.2.1) (hL : mx_s1 L i .null = L2) (kk : mx_Fr G l M d kc ks Post (pc + 1) L2 st z) : mx_Fr G l M d kc ks Post pc L (.null :: st) z := by
  intro p e R s m args below meth c H locs cells slots ls X
  obtain ⟨⟨hx, hcc, hml, hrt, hlk, hown, hnm, hts, hK⟩, hR, hS, hb, hH, hl⟩ := id X
  exact lv_astore_nN hx hcc hd hi hl hn rfl (fun ls2 hl2 => kk p e R s m args below meth c H locs cells slots ls2 ⟨X.1, hR, hS, hb, hH, hL ▸ mx_has_mono hl2 (fun q hq => mx_s1_in (v := .null) hq)⟩)
theorem mx_astoreN {i : Nat} {L2 : List Value} (hd : decode M.2.2.1 pc = .ok (.astore i, 2)) (hn : i < M.2.2.2.1) (hL : mx_s1 L i .null = L2) (kk : mx_Fr G l M d kc ks Post (pc + 2) L2 st z) : mx_Fr G l M d kc ks Post pc L (.null :: st) z := by
  intro p e R s m args below meth c H locs cells slots ls X
  obtain ⟨⟨hx, hcc, hml, hrt, hlk, hown, hnm, hts, hK⟩, hR, hS, hb, hH, hl⟩ := id X
  exact lv_astoreN hx hcc hd hl hn rfl (fun ls2 hl2 => kk p e R s m args below meth c H locs cells slots ls2 ⟨X.1, hR, hS, hb, hH, hL ▸ mx_has_mono hl2 (fun q hq => mx_s1_in (v := .null) hq)⟩)
theorem mx_iinc {i : Nat} {n : Int} {x : Int32} (v : Int32) {L2 : List Value} (hd : decode M.2.2.1 pc = .ok (.iinc i n, 3)) (hv : L[i]? = some (.int x)) (hv2 : x + Int32.ofInt n = v) (hn : i < M.2.2.2.1) (hL : mx_s1 L i (.int v) = L2) (kk : mx_Fr G l M d kc ks Post (pc + 3) L2 st z) : mx_Fr G l M d kc ks Post pc L st z := by
  intro p e R s m args below meth c H locs cells slots ls X
  obtain ⟨⟨hx, hcc, hml, hrt, hlk, hown, hnm, hts, hK⟩, hR, hS, hb, hH, hl⟩ := id X
  have hm := mx_al_in (G := G) (n := 0) hv (fun f q => by cases q)
  rw [Nat.zero_add] at hm
  obtain ⟨k, hk⟩ := List.getElem?_of_mem hm
  exact lv_iinc hx hcc hd hl hk hv2 hn rfl (fun ls2 hl2 => kk p e R s m args below meth c H locs cells slots ls2 ⟨X.1, hR, hS, hb, hH, hL ▸ mx_has_mono hl2 (fun q hq => mx_s1_in (v := .int v) hq)⟩)
theorem mx_iadd {x y : Int32} (hd : decode M.2.2.1 pc = .ok (.iadd, 1)) (kk : mx_Fr G l M d kc ks Post (pc + 1) L (.int (x + y) :: st) z) : mx_Fr G l M d kc ks Post pc L (.int y :: .int x :: st) z := by
  intro p e R s m args below meth c H locs cells slots ls X
  obtain ⟨⟨hx, hcc, hml, hrt, hlk, hown, hnm, hts, hK⟩, hR, hS, hb, hH, hl⟩ := id X
  exact lv_iadd hx hcc hd (kk p e R s m args below meth c H locs cells slots ls X)
theorem mx_isub {x y : Int32} (hd : decode M.2.2.1 pc = .ok (.isub, 1)) (kk : mx_Fr G l M d kc ks Post (pc + 1) L (.int (x - y) :: st) z) : mx_Fr G l M d kc ks Post pc L (.int y :: .int x :: st) z := by
  intro p e R s m args below meth c H locs cells slots ls X
  obtain ⟨⟨hx, hcc, hml, hrt, hlk, hown, hnm, hts, hK⟩, hR, hS, hb, hH, hl⟩ := id X
  exact lv_isub hx hcc hd (kk p e R s m args below meth c H locs cells slots ls X)
theorem mx_imul {x y : Int32} (hd : decode M.2.2.1 pc = .ok (.imul, 1)) (kk : mx_Fr G l M d kc ks Post (pc + 1) L (.int (x * y) :: st) z) : mx_Fr G l M d kc ks Post pc L (.int y :: .int x :: st) z := by
  intro p e R s m args below meth c H locs cells slots ls X
  obtain ⟨⟨hx, hcc, hml, hrt, hlk, hown, hnm, hts, hK⟩, hR, hS, hb, hH, hl⟩ := id X
  exact lv_imul hx hcc hd (kk p e R s m args below meth c H locs cells slots ls X)
theorem mx_iand {x y : Int32} (hd : decode M.2.2.1 pc = .ok (.iand, 1)) (kk : mx_Fr G l M d kc ks Post (pc + 1) L (.int (x &&& y) :: st) z) : mx_Fr G l M d kc ks Post pc L (.int y :: .int x :: st) z := by
  intro p e R s m args below meth c H locs cells slots ls X
  obtain ⟨⟨hx, hcc, hml, hrt, hlk, hown, hnm, hts, hK⟩, hR, hS, hb, hH, hl⟩ := id X
  exact lv_iand hx hcc hd (kk p e R s m args below meth c H locs cells slots ls X)
theorem mx_ior {x y : Int32} (hd : decode M.2.2.1 pc = .ok (.ior, 1)) (kk : mx_Fr G l M d kc ks Post (pc + 1) L (.int (x ||| y) :: st) z) : mx_Fr G l M d kc ks Post pc L (.int y :: .int x :: st) z := by
  intro p e R s m args below meth c H locs cells slots ls X
  obtain ⟨⟨hx, hcc, hml, hrt, hlk, hown, hnm, hts, hK⟩, hR, hS, hb, hH, hl⟩ := id X
  exact lv_ior hx hcc hd (kk p e R s m args below meth c H locs cells slots ls X)
theorem mx_ixor {x y : Int32} (hd : decode M.2.2.1 pc = .ok (.ixor, 1)) (kk : mx_Fr G l M d kc ks Post (pc + 1) L (.int (x ^^^ y) :: st) z) : mx_Fr G l M d kc ks Post pc L (.int y :: .int x :: st) z := by
  intro p e R s m args below meth c H locs cells slots ls X
  obtain ⟨⟨hx, hcc, hml, hrt, hlk, hown, hnm, hts, hK⟩, hR, hS, hb, hH, hl⟩ := id X
  exact lv_ixor hx hcc hd (kk p e R s m args below meth c H locs cells slots ls X)
theorem mx_ishl {x y : Int32} (hd : decode M.2.2.1 pc = .ok (.ishl, 1)) (kk : mx_Fr G l M d kc ks Post (pc + 1) L (.int (x <<< (y &&& 31)) :: st) z) : mx_Fr G l M d kc ks Post pc L (.int y :: .int x :: st) z := by
  intro p e R s m args below meth c H locs cells slots ls X
  obtain ⟨⟨hx, hcc, hml, hrt, hlk, hown, hnm, hts, hK⟩, hR, hS, hb, hH, hl⟩ := id X
  exact lv_ishl hx hcc hd (kk p e R s m args below meth c H locs cells slots ls X)
theorem mx_ishr {x y : Int32} (hd : decode M.2.2.1 pc = .ok (.ishr, 1)) (kk : mx_Fr G l M d kc ks Post (pc + 1) L (.int (x >>> (y &&& 31)) :: st) z) : mx_Fr G l M d kc ks Post pc L (.int y :: .int x :: st) z := by
  intro p e R s m args below meth c H locs cells slots ls X
  obtain ⟨⟨hx, hcc, hml, hrt, hlk, hown, hnm, hts, hK⟩, hR, hS, hb, hH, hl⟩ := id X
  exact lv_ishr hx hcc hd (kk p e R s m args below meth c H locs cells slots ls X)
theorem mx_idiv {x y : Int32} (hd : decode M.2.2.1 pc = .ok (.idiv, 1)) (hne : ¬ y = 0) (kk : mx_Fr G l M d kc ks Post (pc + 1) L (.int (x / y) :: st) z) : mx_Fr G l M d kc ks Post pc L (.int y :: .int x :: st) z := by
  intro p e R s m args below meth c H locs cells slots ls X
  obtain ⟨⟨hx, hcc, hml, hrt, hlk, hown, hnm, hts, hK⟩, hR, hS, hb, hH, hl⟩ := id X
  exact lv_idiv hx hcc hd hne (kk p e R s m args below meth c H locs cells slots ls X)
theorem mx_irem {x y : Int32} (hd : decode M.2.2.1 pc = .ok (.irem, 1)) (hne : ¬ y = 0) (kk : mx_Fr G l M d kc ks Post (pc + 1) L (.int (x - x / y * y) :: st) z) : mx_Fr G l M d kc ks Post pc L (.int y :: .int x :: st) z := by
  intro p e R s m args below meth c H locs cells slots ls X
  obtain ⟨⟨hx, hcc, hml, hrt, hlk, hown, hnm, hts, hK⟩, hR, hS, hb, hH, hl⟩ := id X
  exact lv_irem hx hcc hd hne (kk p e R s m args below meth c H locs cells slots ls X)
theorem mx_ineg {x : Int32} (hd : decode M.2.2.1 pc = .ok (.ineg, 1)) (kk : mx_Fr G l M d kc ks Post (pc + 1) L (.int (-x) :: st) z) : mx_Fr G l M d kc ks Post pc L (.int x :: st) z := by
  intro p e R s m args below meth c H locs cells slots ls X
  obtain ⟨⟨hx, hcc, hml, hrt, hlk, hown, hnm, hts, hK⟩, hR, hS, hb, hH, hl⟩ := id X
  exact lv_ineg hx hcc hd (kk p e R s m args below meth c H locs cells slots ls X)
theorem mx_iushr {x y : Int32} (hd : decode M.2.2.1 pc = .ok (.iushr, 1)) (kk : mx_Fr G l M d kc ks Post (pc + 1) L (.int ((x.toUInt32 >>> (y.toUInt32 &&& Int32.toUInt32 31)).toInt32) :: st) z) : mx_Fr G l M d kc ks Post pc L (.int y :: .int x :: st) z := by
  intro p e R s m args below meth c H locs cells slots ls X
  obtain ⟨⟨hx, hcc, hml, hrt, hlk, hown, hnm, hts, hK⟩, hR, hS, hb, hH, hl⟩ := id X
  exact lv_iushr hx hcc hd rfl (kk p e R s m args below meth c H locs cells slots ls X)
theorem mx_ladd {x y : Int64} (hd : decode M.2.2.1 pc = .ok (.ladd, 1)) (kk : mx_Fr G l M d kc ks Post (pc + 1) L (.long (x + y) :: st) z) : mx_Fr G l M d kc ks Post pc L (.long y :: .long x :: st) z := by
  intro p e R s m args below meth c H locs cells slots ls X
  obtain ⟨⟨hx, hcc, hml, hrt, hlk, hown, hnm, hts, hK⟩, hR, hS, hb, hH, hl⟩ := id X
  exact lv_ladd hx hcc hd (kk p e R s m args below meth c H locs cells slots ls X)
theorem mx_lsub {x y : Int64} (hd : decode M.2.2.1 pc = .ok (.lsub, 1)) (kk : mx_Fr G l M d kc ks Post (pc + 1) L (.long (x - y) :: st) z) : mx_Fr G l M d kc ks Post pc L (.long y :: .long x :: st) z := by
  intro p e R s m args below meth c H locs cells slots ls X
  obtain ⟨⟨hx, hcc, hml, hrt, hlk, hown, hnm, hts, hK⟩, hR, hS, hb, hH, hl⟩ := id X
  exact lv_lsub hx hcc hd (kk p e R s m args below meth c H locs cells slots ls X)
theorem mx_lmul {x y : Int64} (hd : decode M.2.2.1 pc = .ok (.lmul, 1)) (kk : mx_Fr G l M d kc ks Post (pc + 1) L (.long (x * y) :: st) z) : mx_Fr G l M d kc ks Post pc L (.long y :: .long x :: st) z := by
  intro p e R s m args below meth c H locs cells slots ls X
  obtain ⟨⟨hx, hcc, hml, hrt, hlk, hown, hnm, hts, hK⟩, hR, hS, hb, hH, hl⟩ := id X
  exact lv_lmul hx hcc hd (kk p e R s m args below meth c H locs cells slots ls X)
theorem mx_land {x y : Int64} (hd : decode M.2.2.1 pc = .ok (.land, 1)) (kk : mx_Fr G l M d kc ks Post (pc + 1) L (.long (x &&& y) :: st) z) : mx_Fr G l M d kc ks Post pc L (.long y :: .long x :: st) z := by
  intro p e R s m args below meth c H locs cells slots ls X
  obtain ⟨⟨hx, hcc, hml, hrt, hlk, hown, hnm, hts, hK⟩, hR, hS, hb, hH, hl⟩ := id X
  exact lv_land hx hcc hd (kk p e R s m args below meth c H locs cells slots ls X)
theorem mx_lor {x y : Int64} (hd : decode M.2.2.1 pc = .ok (.lor, 1)) (kk : mx_Fr G l M d kc ks Post (pc + 1) L (.long (x ||| y) :: st) z) : mx_Fr G l M d kc ks Post pc L (.long y :: .long x :: st) z := by
  intro p e R s m args below meth c H locs cells slots ls X
  obtain ⟨⟨hx, hcc, hml, hrt, hlk, hown, hnm, hts, hK⟩, hR, hS, hb, hH, hl⟩ := id X
  exact lv_lor hx hcc hd (kk p e R s m args below meth c H locs cells slots ls X)
theorem mx_ldiv {x y : Int64} (hd : decode M.2.2.1 pc = .ok (.ldiv, 1)) (hne : ¬ y = 0) (kk : mx_Fr G l M d kc ks Post (pc + 1) L (.long (x / y) :: st) z) : mx_Fr G l M d kc ks Post pc L (.long y :: .long x :: st) z := by
  intro p e R s m args below meth c H locs cells slots ls X
  obtain ⟨⟨hx, hcc, hml, hrt, hlk, hown, hnm, hts, hK⟩, hR, hS, hb, hH, hl⟩ := id X
  exact lv_ldiv hx hcc hd hne (kk p e R s m args below meth c H locs cells slots ls X)
theorem mx_lrem {x y : Int64} (hd : decode M.2.2.1 pc = .ok (.lrem, 1)) (hne : ¬ y = 0) (kk : mx_Fr G l M d kc ks Post (pc + 1) L (.long (x - x / y * y) :: st) z) : mx_Fr G l M d kc ks Post pc L (.long y :: .long x :: st) z := by
  intro p e R s m args below meth c H locs cells slots ls X
  obtain ⟨⟨hx, hcc, hml, hrt, hlk, hown, hnm, hts, hK⟩, hR, hS, hb, hH, hl⟩ := id X
  exact lv_lrem hx hcc hd hne (kk p e R s m args below meth c H locs cells slots ls X)
theorem mx_lshr {x : Int64} {y : Int32} (hd : decode M.2.2.1 pc = .ok (.lshr, 1)) (kk : mx_Fr G l M d kc ks Post (pc + 1) L (.long (x >>> (y.toInt64 &&& 63)) :: st) z) : mx_Fr G l M d kc ks Post pc L (.int y :: .long x :: st) z := by
  intro p e R s m args below meth c H locs cells slots ls X
  obtain ⟨⟨hx, hcc, hml, hrt, hlk, hown, hnm, hts, hK⟩, hR, hS, hb, hH, hl⟩ := id X
  exact lv_lshr hx hcc hd rfl (kk p e R s m args below meth c H locs cells slots ls X)
theorem mx_i2l {x : Int32} (hd : decode M.2.2.1 pc = .ok (.i2l, 1)) (kk : mx_Fr G l M d kc ks Post (pc + 1) L (.long x.toInt64 :: st) z) : mx_Fr G l M d kc ks Post pc L (.int x :: st) z := by
  intro p e R s m args below meth c H locs cells slots ls X
  obtain ⟨⟨hx, hcc, hml, hrt, hlk, hown, hnm, hts, hK⟩, hR, hS, hb, hH, hl⟩ := id X
  exact lv_i2l hx hcc hd rfl (kk p e R s m args below meth c H locs cells slots ls X)
theorem mx_l2i {x : Int64} (hd : decode M.2.2.1 pc = .ok (.l2i, 1)) (kk : mx_Fr G l M d kc ks Post (pc + 1) L (.int x.toInt32 :: st) z) : mx_Fr G l M d kc ks Post pc L (.long x :: st) z := by
  intro p e R s m args below meth c H locs cells slots ls X
  obtain ⟨⟨hx, hcc, hml, hrt, hlk, hown, hnm, hts, hK⟩, hR, hS, hb, hH, hl⟩ := id X
  exact lv_l2i hx hcc hd rfl (kk p e R s m args below meth c H locs cells slots ls X)
theorem mx_lcmp {x y : Int64} (hd : decode M.2.2.1 pc = .ok (.lcmp, 1)) (kk : mx_Fr G l M d kc ks Post (pc + 1) L (.int (lg_cmp x y) :: st) z) : mx_Fr G l M d kc ks Post pc L (.long y :: .long x :: st) z := by
  intro p e R s m args below meth c H locs cells slots ls X
  obtain ⟨⟨hx, hcc, hml, hrt, hlk, hown, hnm, hts, hK⟩, hR, hS, hb, hH, hl⟩ := id X
  exact W.lcmp hx hcc hd (kk p e R s m args below meth c H locs cells slots ls X)
theorem mx_dup {v : Value} (hd : decode M.2.2.1 pc = .ok (.dup, 1)) (hv : v.category = 1) (kk : mx_Fr G l M d kc ks Post (pc + 1) L (v :: v :: st) z) : mx_Fr G l M d kc ks Post pc L (v :: st) z := by
  intro p e R s m args below meth c H locs cells slots ls X
  obtain ⟨⟨hx, hcc, hml, hrt, hlk, hown, hnm, hts, hK⟩, hR, hS, hb, hH, hl⟩ := id X
  exact lv_dup hx hcc hd (by rw [mx_tr_cat]; exact hv) (kk p e R s m args below meth c H locs cells slots ls X)
theorem mx_pop {v : Value} (hd : decode M.2.2.1 pc = .ok (.pop, 1)) (hv : v.category = 1) (kk : mx_Fr G l M d kc ks Post (pc + 1) L st z) : mx_Fr G l M d kc ks Post pc L (v :: st) z := by
  intro p e R s m args below meth c H locs cells slots ls X
  obtain ⟨⟨hx, hcc, hml, hrt, hlk, hown, hnm, hts, hK⟩, hR, hS, hb, hH, hl⟩ := id X
  exact lv_pop hx hcc hd (by rw [mx_tr_cat]; exact hv) (kk p e R s m args below meth c H locs cells slots ls X)
theorem mx_dup2 {v u : Value} (hd : decode M.2.2.1 pc = .ok (.dup2, 1)) (hv : v.category = 1) (hu : u.category = 1) (kk : mx_Fr G l M d kc ks Post (pc + 1) L (v :: u :: v :: u :: st) z) : mx_Fr G l M d kc ks Post pc L (v :: u :: st) z := by
  intro p e R s m args below meth c H locs cells slots ls X
  obtain ⟨⟨hx, hcc, hml, hrt, hlk, hown, hnm, hts, hK⟩, hR, hS, hb, hH, hl⟩ := id X
  exact lv_dup2_11 hx hcc hd (by rw [mx_tr_cat]; exact hv) (by rw [mx_tr_cat]; exact hu) (kk p e R s m args below meth c H locs cells slots ls X)
theorem mx_if_eq {x : Int32} {off : Int} {tgt : Nat} (hd : decode M.2.2.1 pc = .ok (.ifCond .eq off, 3)) (ht : (pc : Int) + off = (tgt : Int)) (kt : x = 0 → mx_Fr G l M d kc ks Post tgt L st z) (kf : ¬ x = 0 → mx_Fr G l M d kc ks Post (pc + 3) L st z) : mx_Fr G l M d kc ks Post pc L (.int x :: st) z := by
  intro p e R s m args below meth c H locs cells slots ls X
  obtain ⟨⟨hx, hcc, hml, hrt, hlk, hown, hnm, hts, hK⟩, hR, hS, hb, hH, hl⟩ := id X
  exact lv_if_eq hx hcc hd ht (fun h => kt h p e R s m args below meth c H locs cells slots ls X) (fun h => kf h p e R s m args below meth c H locs cells slots ls X)
theorem mx_if_ne {x : Int32} {off : Int} {tgt : Nat} (hd : decode M.2.2.1 pc = .ok (.ifCond .ne off, 3)) (ht : (pc : Int) + off = (tgt : Int)) (kt : ¬ x = 0 → mx_Fr G l M d kc ks Post tgt L st z) (kf : x = 0 → mx_Fr G l M d kc ks Post (pc + 3) L st z) : mx_Fr G l M d kc ks Post pc L (.int x :: st) z := by
  intro p e R s m args below meth c H locs cells slots ls X
  obtain ⟨⟨hx, hcc, hml, hrt, hlk, hown, hnm, hts, hK⟩, hR, hS, hb, hH, hl⟩ := id X
  exact lv_if_ne hx hcc hd ht (fun h => kt h p e R s m args below meth c H locs cells slots ls X) (fun h => kf h p e R s m args below meth c H locs cells slots ls X)
theorem mx_if_lt {x : Int32} {off : Int} {tgt : Nat} (hd : decode M.2.2.1 pc = .ok (.ifCond .lt off, 3)) (ht : (pc : Int) + off = (tgt : Int)) (kt : x < 0 → mx_Fr G l M d kc ks Post tgt L st z) (kf : ¬ x < 0 → mx_Fr G l M d kc ks Post (pc + 3) L st z) : mx_Fr G l M d kc ks Post pc L (.int x :: st) z := by
  intro p e R s m args below meth c H locs cells slots ls X
  obtain ⟨⟨hx, hcc, hml, hrt, hlk, hown, hnm, hts, hK⟩, hR, hS, hb, hH, hl⟩ := id X
  exact lv_if_lt hx hcc hd ht (fun h => kt h p e R s m args below meth c H locs cells slots ls X) (fun h => kf h p e R s m args below meth c H locs cells slots ls X)
theorem mx_if_ge {x : Int32} {off : Int} {tgt : Nat} (hd : decode M.2.2.1 pc = .ok (.ifCond .ge off, 3)) (ht : (pc : Int) + off = (tgt : Int)) (kt : 0 ≤ x → mx_Fr G l M d kc ks Post tgt L st z) (kf : ¬ 0 ≤ x → mx_Fr G l M d kc ks Post (pc + 3) L st z) : mx_Fr G l M d kc ks Post pc L (.int x :: st) z := by
  intro p e R s m args below meth c H locs cells slots ls X
  obtain ⟨⟨hx, hcc, hml, hrt, hlk, hown, hnm, hts, hK⟩, hR, hS, hb, hH, hl⟩ := id X
  exact lv_if_ge hx hcc hd ht (fun h => kt h p e R s m args below meth c H locs cells slots ls X) (fun h => kf h p e R s m args below meth c H locs cells slots ls X)
theorem mx_if_gt {x : Int32} {off : Int} {tgt : Nat} (hd : decode M.2.2.1 pc = .ok (.ifCond .gt off, 3)) (ht : (pc : Int) + off = (tgt : Int)) (kt : 0 < x → mx_Fr G l M d kc ks Post tgt L st z) (kf : ¬ 0 < x → mx_Fr G l M d kc ks Post (pc + 3) L st z) : mx_Fr G l M d kc ks Post pc L (.int x :: st) z := by
  intro p e R s m args below meth c H locs cells slots ls X
  obtain ⟨⟨hx, hcc, hml, hrt, hlk, hown, hnm, hts, hK⟩, hR, hS, hb, hH, hl⟩ := id X
  exact lv_if_gt hx hcc hd ht (fun h => kt h p e R s m args below meth c H locs cells slots ls X) (fun h => kf h p e R s m args below meth c H locs cells slots ls X)
theorem mx_if_le {x : Int32} {off : Int} {tgt : Nat} (hd : decode M.2.2.1 pc = .ok (.ifCond .le off, 3)) (ht : (pc : Int) + off = (tgt : Int)) (kt : x ≤ 0 → mx_Fr G l M d kc ks Post tgt L st z) (kf : ¬ x ≤ 0 → mx_Fr G l M d kc ks Post (pc + 3) L st z) : mx_Fr G l M d kc ks Post pc L (.int x :: st) z := by
  intro p e R s m args below meth c H locs cells slots ls X
  obtain ⟨⟨hx, hcc, hml, hrt, hlk, hown, hnm, hts, hK⟩, hR, hS, hb, hH, hl⟩ := id X
  exact lv_if_le hx hcc hd ht (fun h => kt h p e R s m args below meth c H locs cells slots ls X) (fun h => kf h p e R s m args below meth c H locs cells slots ls X)
theorem mx_icmp_eq {x y : Int32} {off : Int} {tgt : Nat} (hd : decode M.2.2.1 pc = .ok (.if_icmp .eq off, 3)) (ht : (pc : Int) + off = (tgt : Int)) (kt : x = y → mx_Fr G l M d kc ks Post tgt L st z) (kf : ¬ x = y → mx_Fr G l M d kc ks Post (pc + 3) L st z) : mx_Fr G l M d kc ks Post pc L (.int y :: .int x :: st) z := by
  intro p e R s m args below meth c H locs cells slots ls X
  obtain ⟨⟨hx, hcc, hml, hrt, hlk, hown, hnm, hts, hK⟩, hR, hS, hb, hH, hl⟩ := id X
  exact lv_icmp_eq hx hcc hd ht (fun h => kt h p e R s m args below meth c H locs cells slots ls X) (fun h => kf h p e R s m args below meth c H locs cells slots ls X)
theorem mx_icmp_ne {x y : Int32} {off : Int} {tgt : Nat} (hd : decode M.2.2.1 pc = .ok (.if_icmp .ne off, 3)) (ht : (pc : Int) + off = (tgt : Int)) (kt : ¬ x = y → mx_Fr G l M d kc ks Post tgt L st z) (kf : x = y → mx_Fr G l M d kc ks Post (pc + 3) L st z) : mx_Fr G l M d kc ks Post pc L (.int y :: .int x :: st) z := by
  intro p e R s m args below meth c H locs cells slots ls X
  obtain ⟨⟨hx, hcc, hml, hrt, hlk, hown, hnm, hts, hK⟩, hR, hS, hb, hH, hl⟩ := id X
  exact lv_icmp_ne hx hcc hd ht (fun h => kt h p e R s m args below meth c H locs cells slots ls X) (fun h => kf h p e R s m args below meth c H locs cells slots ls X)
theorem mx_icmp_lt {x y : Int32} {off : Int} {tgt : Nat} (hd : decode M.2.2.1 pc = .ok (.if_icmp .lt off, 3)) (ht : (pc : Int) + off = (tgt : Int)) (kt : x < y → mx_Fr G l M d kc ks Post tgt L st z) (kf : ¬ x < y → mx_Fr G l M d kc ks Post (pc + 3) L st z) : mx_Fr G l M d kc ks Post pc L (.int y :: .int x :: st) z := by
  intro p e R s m args below meth c H locs cells slots ls X
  obtain ⟨⟨hx, hcc, hml, hrt, hlk, hown, hnm, hts, hK⟩, hR, hS, hb, hH, hl⟩ := id X
  exact lv_icmp_lt hx hcc hd ht (fun h => kt h p e R s m args below meth c H locs cells slots ls X) (fun h => kf h p e R s m args below meth c H locs cells slots ls X)
theorem mx_icmp_ge {x y : Int32} {off : Int} {tgt : Nat} (hd : decode M.2.2.1 pc = .ok (.if_icmp .ge off, 3)) (ht : (pc : Int) + off = (tgt : Int)) (kt : y ≤ x → mx_Fr G l M d kc ks Post tgt L st z) (kf : ¬ y ≤ x → mx_Fr G l M d kc ks Post (pc + 3) L st z) : mx_Fr G l M d kc ks Post pc L (.int y :: .int x :: st) z := by
  intro p e R s m args below meth c H locs cells slots ls X
  obtain ⟨⟨hx, hcc, hml, hrt, hlk, hown, hnm, hts, hK⟩, hR, hS, hb, hH, hl⟩ := id X
  exact lv_icmp_ge hx hcc hd ht (fun h => kt h p e R s m args below meth c H locs cells slots ls X) (fun h => kf h p e R s m args below meth c H locs cells slots ls X)
theorem mx_icmp_gt {x y : Int32} {off : Int} {tgt : Nat} (hd : decode M.2.2.1 pc = .ok (.if_icmp .gt off, 3)) (ht : (pc : Int) + off = (tgt : Int)) (kt : y < x → mx_Fr G l M d kc ks Post tgt L st z) (kf : ¬ y < x → mx_Fr G l M d kc ks Post (pc + 3) L st z) : mx_Fr G l M d kc ks Post pc L (.int y :: .int x :: st) z := by
  intro p e R s m args below meth c H locs cells slots ls X
  obtain ⟨⟨hx, hcc, hml, hrt, hlk, hown, hnm, hts, hK⟩, hR, hS, hb, hH, hl⟩ := id X
  exact lv_icmp_gt hx hcc hd ht (fun h => kt h p e R s m args below meth c H locs cells slots ls X) (fun h => kf h p e R s m args below meth c H locs cells slots ls X)
theorem mx_icmp_le {x y : Int32} {off : Int} {tgt : Nat} (hd : decode M.2.2.1 pc = .ok (.if_icmp .le off, 3)) (ht : (pc : Int) + off = (tgt : Int)) (kt : x ≤ y → mx_Fr G l M d kc ks Post tgt L st z) (kf : ¬ x ≤ y → mx_Fr G l M d kc ks Post (pc + 3) L st z) : mx_Fr G l M d kc ks Post pc L (.int y :: .int x :: st) z := by
  intro p e R s m args below meth c H locs cells slots ls X
  obtain ⟨⟨hx, hcc, hml, hrt, hlk, hown, hnm, hts, hK⟩, hR, hS, hb, hH, hl⟩ := id X
  exact lv_icmp_le hx hcc hd ht (fun h => kt h p e R s m args below meth c H locs cells slots ls X) (fun h => kf h p e R s m args below meth c H locs cells slots ls X)
theorem mx_goto {off : Int} {tgt : Nat} (hd : decode M.2.2.1 pc = .ok (.goto off, 3)) (ht : (pc : Int) + off = (tgt : Int)) (kk : mx_Fr G l M d kc ks Post tgt L st z) : mx_Fr G l M d kc ks Post pc L st z := by
  intro p e R s m args below meth c H locs cells slots ls X
  obtain ⟨⟨hx, hcc, hml, hrt, hlk, hown, hnm, hts, hK⟩, hR, hS, hb, hH, hl⟩ := id X
  exact lv_goto hx hcc hd ht (kk p e R s m args below meth c H locs cells slots ls X)
theorem mx_ifnull {x : Nat} {off : Int} (hd : decode M.2.2.1 pc = .ok (.ifnull off, 3)) (kk : mx_Fr G l M d kc ks Post (pc + 3) L st z) : mx_Fr G l M d kc ks Post pc L (.ref x :: st) z := by
  intro p e R s m args below meth c H locs cells slots ls X
  obtain ⟨⟨hx, hcc, hml, hrt, hlk, hown, hnm, hts, hK⟩, hR, hS, hb, hH, hl⟩ := id X
  exact lv_ifnull hx hcc hd (kk p e R s m args below meth c H locs cells slots ls X)
theorem mx_ifnullN {off : Int} {tgt : Nat} (hd : decode M.2.2.1 pc = .ok (.ifnull off, 3)) (ht : (pc : Int) + off = (tgt : Int)) (kk : mx_Fr G l M d kc ks Post tgt L st z) : mx_Fr G l M d kc ks Post pc L (.null :: st) z := by
  intro p e R s m args below meth c H locs cells slots ls X
  obtain ⟨⟨hx, hcc, hml, hrt, hlk, hown, hnm, hts, hK⟩, hR, hS, hb, hH, hl⟩ := id X
  exact lv_ifnullN hx hcc hd ht (kk p e R s m args below meth c H locs cells slots ls X)
theorem mx_ifnonnull {x : Nat} {off : Int} {tgt : Nat} (hd : decode M.2.2.1 pc = .ok (.ifnonnull off, 3)) (ht : (pc : Int) + off = (tgt : Int)) (kk : mx_Fr G l M d kc ks Post tgt L st z) : mx_Fr G l M d kc ks Post pc L (.ref x :: st) z := by
  intro p e R s m args below meth c H locs cells slots ls X
  obtain ⟨⟨hx, hcc, hml, hrt, hlk, hown, hnm, hts, hK⟩, hR, hS, hb, hH, hl⟩ := id X
  exact lv_ifnonnull hx hcc hd ht (kk p e R s m args below meth c H locs cells slots ls X)
theorem mx_ifnonnullN {off : Int} (hd : decode M.2.2.1 pc = .ok (.ifnonnull off, 3)) (kk : mx_Fr G l M d kc ks Post (pc + 3) L st z) : mx_Fr G l M d kc ks Post pc L (.null :: st) z := by
  intro p e R s m args below meth c H locs cells slots ls X
  obtain ⟨⟨hx, hcc, hml, hrt, hlk, hown, hnm, hts, hK⟩, hR, hS, hb, hH, hl⟩ := id X
  exact lv_ifnonnullN hx hcc hd (kk p e R s m args below meth c H locs cells slots ls X)
theorem mx_tableOut {dflt lo hi : Int} {offs : Array Int} {len : Nat} {x : Int32} {tgt : Nat} (hd : decode M.2.2.1 pc = .ok (.tableswitch dflt lo hi offs, len)) (h : x.toInt < lo ∨ hi < x.toInt) (ht : (pc : Int) + dflt = (tgt : Int)) (kk : mx_Fr G l M d kc ks Post tgt L st z) : mx_Fr G l M d kc ks Post pc L (.int x :: st) z := by
  intro p e R s m args below meth c H locs cells slots ls X
  obtain ⟨⟨hx, hcc, hml, hrt, hlk, hown, hnm, hts, hK⟩, hR, hS, hb, hH, hl⟩ := id X
  exact lv_tableOut hx hcc hd h ht (kk p e R s m args below meth c H locs cells slots ls X)
theorem mx_tableIn {dflt lo hi off : Int} {offs : Array Int} {len : Nat} {x : Int32} {tgt : Nat} (hd : decode M.2.2.1 pc = .ok (.tableswitch dflt lo hi offs, len)) (h1 : ¬ x.toInt < lo) (h2 : ¬ hi < x.toInt) (ho : offs[(x.toInt - lo).toNat]? = some off) (ht : (pc : Int) + off = (tgt : Int)) (kk : mx_Fr G l M d kc ks Post tgt L st z) : mx_Fr G l M d kc ks Post pc L (.int x :: st) z := by
  intro p e R s m args below meth c H locs cells slots ls X
  obtain ⟨⟨hx, hcc, hml, hrt, hlk, hown, hnm, hts, hK⟩, hR, hS, hb, hH, hl⟩ := id X
  exact lv_tableIn hx hcc hd h1 h2 ho ht (kk p e R s m args below meth c H locs cells slots ls X)
theorem mx_lookup {dflt off : Int} {ps : Array (Int × Int)} {len : Nat} {x : Int32} {tgt : Nat} (hd : decode M.2.2.1 pc = .ok (.lookupswitch dflt ps, len)) (hp : (ps.toList.zip (ps.toList.drop 1)).all (fun (a, next) => a.1 < next.1) = true) (ho : Op.lookupswitch.offset ps.toList dflt x.toInt = off) (ht : (pc : Int) + off = (tgt : Int)) (kk : mx_Fr G l M d kc ks Post tgt L st z) : mx_Fr G l M d kc ks Post pc L (.int x :: st) z := by
  intro p e R s m args below meth c H locs cells slots ls X
  obtain ⟨⟨hx, hcc, hml, hrt, hlk, hown, hnm, hts, hK⟩, hR, hS, hb, hH, hl⟩ := id X
  exact lv_lookup hx hcc hd hp ho ht (kk p e R s m args below meth c H locs cells slots ls X)
theorem mx_ireturn {v : Int32} (hd : decode M.2.2.1 pc = .ok (.ireturn, 1)) (hr : M.2.2.2.2 = some .int) (hp : Post (some (.int v)) z) : mx_Fr G l M d kc ks Post pc L [.int v] z := by
  intro p e R s m args below meth c H locs cells slots ls X
  obtain ⟨⟨hx, hcc, hml, hrt, hlk, hown, hnm, hts, hK⟩, hR, hS, hb, hH, hl⟩ := id X
  refine W.widen (k := R.cells) (n := R.slots) (by omega) (by omega) ?_
  exact W.iret hx hcc (hrt.trans hr) (fun t ht _ => ⟨⟨some (.int v), z, rfl, hp, by rw [ht]; exact hH⟩, mx_S_F hS ht⟩) hS.2.2 hd hlk
theorem mx_zreturn {v : Int32} {ty : FieldType} (hd : decode M.2.2.1 pc = .ok (.ireturn, 1)) (hr : M.2.2.2.2 = some ty) (hn : narrow ty (.int v) = .int v) (hp : Post (some (.int v)) z) : mx_Fr G l M d kc ks Post pc L [.int v] z := by
  intro p e R s m args below meth c H locs cells slots ls X
  obtain ⟨⟨hx, hcc, hml, hrt, hlk, hown, hnm, hts, hK⟩, hR, hS, hb, hH, hl⟩ := id X
  refine W.widen (k := R.cells) (n := R.slots) (by omega) (by omega) ?_
  exact W.zret hx hcc (hrt.trans hr) hn (fun t ht _ => ⟨⟨some (.int v), z, rfl, hp, by rw [ht]; exact hH⟩, mx_S_F hS ht⟩) hS.2.2 hd hlk
theorem mx_lreturn {v : Int64} (hd : decode M.2.2.1 pc = .ok (.lreturn, 1)) (hr : M.2.2.2.2 = some .long) (hp : Post (some (.long v)) z) : mx_Fr G l M d kc ks Post pc L [.long v] z := by
  intro p e R s m args below meth c H locs cells slots ls X
  obtain ⟨⟨hx, hcc, hml, hrt, hlk, hown, hnm, hts, hK⟩, hR, hS, hb, hH, hl⟩ := id X
  refine W.widen (k := R.cells) (n := R.slots) (by omega) (by omega) ?_
  exact W.lret hx hcc (hrt.trans hr) (fun t ht _ => ⟨⟨some (.long v), z, rfl, hp, by rw [ht]; exact hH⟩, mx_S_F hS ht⟩) hS.2.2 hd hlk
theorem mx_return  (hd : decode M.2.2.1 pc = .ok (.return_, 1)) (hr : M.2.2.2.2 = none) (hp : Post none z) : mx_Fr G l M d kc ks Post pc L [] z := by
  intro p e R s m args below meth c H locs cells slots ls X
  obtain ⟨⟨hx, hcc, hml, hrt, hlk, hown, hnm, hts, hK⟩, hR, hS, hb, hH, hl⟩ := id X
  refine W.widen (k := R.cells) (n := R.slots) (by omega) (by omega) ?_
  exact W.vret hx hcc (hrt.trans hr) (fun t ht _ => ⟨⟨none, z, rfl, hp, by rw [ht]; exact hH⟩, mx_S_F hS ht⟩) hS.2.2 hd hlk
theorem mx_areturn {a : Nat} {n : String} (hd : decode M.2.2.1 pc = .ok (.areturn, 1)) (hr : M.2.2.2.2 = some (.object n)) (hp : Post (some (.ref a)) z) : mx_Fr G l M d kc ks Post pc L [.ref a] z := by
  intro p e R s m args below meth c H locs cells slots ls X
  obtain ⟨⟨hx, hcc, hml, hrt, hlk, hown, hnm, hts, hK⟩, hR, hS, hb, hH, hl⟩ := id X
  refine W.widen (k := R.cells) (n := R.slots) (by omega) (by omega) ?_
  exact W.aret hx hcc (hrt.trans hr) (Or.inl ⟨n, rfl⟩) (Or.inr ⟨_, rfl⟩) (fun t ht _ => ⟨⟨some (.ref a), z, rfl, hp, by rw [ht]; exact hH⟩, mx_S_F hS ht⟩) hS.2.2 hd hlk
theorem mx_areturnN {n : String} (hd : decode M.2.2.1 pc = .ok (.areturn, 1)) (hr : M.2.2.2.2 = some (.object n)) (hp : Post (some .null) z) : mx_Fr G l M d kc ks Post pc L [.null] z := by
  intro p e R s m args below meth c H locs cells slots ls X
  obtain ⟨⟨hx, hcc, hml, hrt, hlk, hown, hnm, hts, hK⟩, hR, hS, hb, hH, hl⟩ := id X
  refine W.widen (k := R.cells) (n := R.slots) (by omega) (by omega) ?_
  exact W.aret hx hcc (hrt.trans hr) (Or.inl ⟨n, rfl⟩) (Or.inl rfl) (fun t ht _ => ⟨⟨some .null, z, rfl, hp, by rw [ht]; exact hH⟩, mx_S_F hS ht⟩) hS.2.2 hd hlk
end MX
end
section
section MH
variable {G : mG} {l : Launch} {M : mM} {d kc ks : Nat} {Post : Option Value → mS → Prop} {pc : Nat} {L st : List Value} {e : mE} {mi : mI} {mj : mJ}
/-- cell i is of kind c and length n -/
def mx_is (e : mE) (i c n : Nat) : Prop := i < e.1 ∧ e.2.1 i = (c, n)
def mx_up (m : mI) (a k : Nat) (x : Int32) : mI := fun b j => if b = a ∧ j = k then x else m b j
def mx_ul (m : mJ) (a k : Nat) (x : Int64) : mJ := fun b j => if b = a ∧ j = k then x else m b j
theorem mx_up_self (m : mI) (a k : Nat) (x : Int32) : mx_up m a k x a k = x := by simp [mx_up]
theorem mx_up_ne (m : mI) {a k b j : Nat} (x : Int32) (h : b = a → j ≠ k) : mx_up m a k x b j = m b j := by
  unfold mx_up
  rw [if_neg (fun q => h q.1 q.2)]
theorem mx_adl {i : Nat} (h : i < 100000) : mx_ad G i = G.1 + i := if_pos h
theorem mx_isl {i c n : Nat} {H : Heap} (h : mx_is e i c n) (hH : mx_H G (e, mi, mj) H) : mx_ad G i = G.1 + i := mx_adl (Nat.lt_of_lt_of_le h.1 hH.2.1)
/-- field k of class c by the pool entry idx of the class own -/
def mx_fld (own : String) (idx c k : Nat) : Prop := ∃ (C : String) (T : u_T) (N : Nat), vwCl[c]? = some (C, T, N) ∧ k < N ∧ Cond.fieldLink own idx C (T k).2.1 (T k).2.2.1 ∈ mx_TB ∧ (T k).1 = C ∧ (∀ w ∈ u_ws C T N, w ∈ mx_TB) ∧ (∀ k, k < N → parseFieldDescriptor (T k).2.2.1 = some (mx_ty c k)) ∧ (∀ a, a < N → ∀ b, b < N → a ≠ b → (T a).2.1 ≠ (T b).2.1)
theorem mx_fld_c {own : String} {idx c k : Nat} (h : mx_fld own idx c k) : c < 13 := by
  obtain ⟨C, T, N, h1, -⟩ := h
  exact (List.getElem?_eq_some_iff.mp h1).1
theorem mx_cellO {c i n : Nat} {H : Heap} (h : mx_is e i c n) (hc : c < 13) (hH : mx_H G (e, mi, mj) H) : mx_obj G (e, mi, mj) c i H := by
  have h1 := hH.2.2 i h.1
  unfold mx_cell at h1
  have e0 : ((e, mi, mj) : mS).1.2.1 i = (c, n) := h.2
  rw [e0] at h1
  simp only [show ¬ c = 100 by omega, show ¬ c = 101 by omega, show ¬ c = 102 by omega, show ¬ c = 103 by omega, show ¬ c = 104 by omega, show ¬ c = 999 by omega, if_false] at h1
  exact h1
theorem mx_cellI {i n : Nat} {H : Heap} (h : mx_is e i 100 n) (hH : mx_H G (e, mi, mj) H) : H[G.1 + i]? = some (arrV (G.2.2.1 0) n (fun j => .int (mi i j))) := by
  have h1 := hH.2.2 i h.1
  unfold mx_cell at h1
  have e0 : ((e, mi, mj) : mS).1.2.1 i = (100, n) := h.2
  rw [e0] at h1
  simpa using h1
theorem mx_cellJ {i n : Nat} {H : Heap} (h : mx_is e i 101 n) (hH : mx_H G (e, mi, mj) H) : H[G.1 + i]? = some (arrV (G.2.2.1 1) n (fun j => .long (mj i j))) := by
  have h1 := hH.2.2 i h.1
  unfold mx_cell at h1
  have e0 : ((e, mi, mj) : mS).1.2.1 i = (101, n) := h.2
  rw [e0] at h1
  simpa using h1
theorem mx_cellZ {i n : Nat} {H : Heap} (h : mx_is e i 102 n) (hH : mx_H G (e, mi, mj) H) : H[G.1 + i]? = some (arrV (G.2.2.1 2) n (fun j => .int (mi i j))) := by
  have h1 := hH.2.2 i h.1
  unfold mx_cell at h1
  have e0 : ((e, mi, mj) : mS).1.2.1 i = (102, n) := h.2
  rw [e0] at h1
  simpa using h1
theorem mx_cellN {i n : Nat} {H : Heap} (h : mx_is e i 103 n) (hH : mx_H G (e, mi, mj) H) : H[G.1 + i]? = some (arrV (G.2.2.1 3) n (fun j => mx_rv G (e.2.2 i j))) := by
  have h1 := hH.2.2 i h.1
  unfold mx_cell at h1
  have e0 : ((e, mi, mj) : mS).1.2.1 i = (103, n) := h.2
  rw [e0] at h1
  simpa using h1
theorem mx_cellP {i n : Nat} {H : Heap} (h : mx_is e i 104 n) (hH : mx_H G (e, mi, mj) H) : H[G.1 + i]? = some (arrV (G.2.2.1 4) n (fun j => mx_rv G (e.2.2 i j))) := by
  have h1 := hH.2.2 i h.1
  unfold mx_cell at h1
  have e0 : ((e, mi, mj) : mS).1.2.1 i = (104, n) := h.2
  rw [e0] at h1
  simpa using h1
/-- a heap that differs in one cell -/
theorem mx_H_one {i : Nat} {z z' : mS} {H H1 : Heap} (hH : mx_H G z H) (hz : H1.size = H.size) (ho : ∀ q, q ≠ G.1 + i → H1[q]? = H[q]?) (hn : z'.1 = z.1) (hsame : ∀ j, j ≠ i → (∀ k, z'.2.1 j k = z.2.1 j k) ∧ (∀ k, z'.2.2 j k = z.2.2 j k)) (hi : i < z.1.1 → mx_cell G z' i H1) : mx_H G z' H1 := by
  obtain ⟨e', mi', mj'⟩ := z'
  obtain ⟨e, mi, mj⟩ := z
  dsimp only at hn hsame hi
  subst hn
  refine ⟨hz.trans hH.1, hH.2.1, fun j hj => ?_⟩
  by_cases hji : j = i
  · subst hji; exact hi hj
  · have hc := hH.2.2 j hj
    have hq : H1[G.1 + j]? = H[G.1 + j]? := ho _ (by omega)
    have f1 : (fun k => mi' j k) = fun k => mi j k := funext (hsame j hji).1
    have f2 : (fun k => mj' j k) = fun k => mj j k := funext (hsame j hji).2
    unfold mx_cell at hc ⊢
    dsimp only at hc ⊢
    rw [hq]
    have f3 : (fun k => Value.int (mi' j k)) = fun k => Value.int (mi j k) := funext fun k => by rw [(hsame j hji).1 k]
    have f4 : (fun k => Value.long (mj' j k)) = fun k => Value.long (mj j k) := funext fun k => by rw [(hsame j hji).2 k]
    rw [f3, f4]
    have f5 : mx_obj G (e', mi', mj') (e'.2.1 j).1 j H1 ↔ mx_obj G (e', mi, mj) (e'.2.1 j).1 j H := by
      have f6 : ∀ c, (fun k => mx_fv G (e', mi', mj') (mx_ty c k) j k) = fun k => mx_fv G (e', mi, mj) (mx_ty c k) j k := by
        intro c
        funext k
        unfold mx_fv
        dsimp only
        rw [(hsame j hji).1 k, (hsame j hji).2 k]
      unfold mx_obj
      rw [f6]
      exact ⟨fun ⟨r, h1, h2⟩ => ⟨r, h1, h2.kept hq.symm⟩, fun ⟨r, h1, h2⟩ => ⟨r, h1, h2.kept hq⟩⟩
    rw [f5]
    exact hc
theorem mx_get {own : String} {idx c k i n : Nat} {v : Value} (hd : decode M.2.2.1 pc = .ok (.getfield idx, 3)) (hf : mx_fld own idx c k) (hM : M.1 = own) (ho : mx_is e i c n) (hv : mx_tr G v = mx_fv G (e, mi, mj) (mx_ty c k) i k)
    (kk : mx_Fr G l M d kc ks Post (pc + 3) L (v :: st) (e, mi, mj)) : mx_Fr G l M d kc ks Post pc L (.ref i :: st) (e, mi, mj) := by
  intro p en R s m args below meth c' H locs cells slots ls X
  obtain ⟨⟨hx, hcc, hml, hrt, hlk, hown, hnm, hts, hK⟩, hR, hS, hb, hH, hl⟩ := id X
  have hc13 := mx_fld_c hf
  obtain ⟨C, T, N, hcl, hk, hlink, hT1, hlay, hty, hnn⟩ := hf
  obtain ⟨r, h1, cell, q1, q2, q3, q4⟩ := mx_cellO ho hc13 hH
  have hr : r = (C, T, N) := Option.some.inj (h1.symm.trans hcl)
  subst hr
  obtain ⟨hSl, hfc, kC, hkC, hkind⟩ := hK.1 c _ hcl
  obtain ⟨cf, kf, fi, f, hi, hsl⟩ := hSl k hk
  have e1 : (mx_tr G (.ref i)) = .ref (G.1 + i) := by show Value.ref (mx_ad G i) = _; rw [mx_isl ho hH]
  show W p l en R s m args below meth c' H locs cells slots _ (F0 m pc ls (mx_tr G (.ref i) :: st.map (mx_tr G)))
  rw [e1]
  rw [hT1] at hi
  refine W.getf (v := mx_tr G v) hx hcc (hM ▸ hown) (hts _ hlink) hi (u_facts hfc hkC (u_lays (T := T) (N := N) hts hlay hk) (hT1 ▸ hi)).1 q1 (by rw [q3]; exact fun h => by cases h) ?_ rfl rfl hd (kk p en R s m args below meth c' H locs cells slots ls X)
  rw [hsl, q4 k hk, hv]
theorem mx_getI {own : String} {idx c k i n : Nat} (hd : decode M.2.2.1 pc = .ok (.getfield idx, 3)) (hf : mx_fld own idx c k) (hM : M.1 = own) (ht : mx_ty c k = .int ∨ mx_ty c k = .boolean) (ho : mx_is e i c n)
    (kk : mx_Fr G l M d kc ks Post (pc + 3) L (.int (mi i k) :: st) (e, mi, mj)) : mx_Fr G l M d kc ks Post pc L (.ref i :: st) (e, mi, mj) :=
  mx_get hd hf hM ho (by rcases ht with h | h <;> (rw [h]; rfl)) kk
theorem mx_getJ {own : String} {idx c k i n : Nat} (hd : decode M.2.2.1 pc = .ok (.getfield idx, 3)) (hf : mx_fld own idx c k) (hM : M.1 = own) (ht : mx_ty c k = .long) (ho : mx_is e i c n)
    (kk : mx_Fr G l M d kc ks Post (pc + 3) L (.long (mj i k) :: st) (e, mi, mj)) : mx_Fr G l M d kc ks Post pc L (.ref i :: st) (e, mi, mj) :=
  mx_get hd hf hM ho (by rw [ht]; rfl) kk
def mx_isR (ty : FieldType) : Bool := match ty with
  | .object _ => true
  | .array _ => true
  | _ => false
theorem mx_fvR {ty : FieldType} {z : mS} {i k : Nat} (h : mx_isR ty = true) : mx_fv G z ty i k = mx_rv G (z.1.2.2 i k) := by
  cases ty <;> first | rfl | cases h
theorem mx_getR {own : String} {idx c k i n a : Nat} (hd : decode M.2.2.1 pc = .ok (.getfield idx, 3)) (hf : mx_fld own idx c k) (hM : M.1 = own) (ht : mx_isR (mx_ty c k) = true) (ho : mx_is e i c n) (hr : e.2.2 i k = some a)
    (kk : mx_Fr G l M d kc ks Post (pc + 3) L (.ref a :: st) (e, mi, mj)) : mx_Fr G l M d kc ks Post pc L (.ref i :: st) (e, mi, mj) :=
  mx_get hd hf hM ho (by rw [mx_fvR ht]; show _ = mx_rv G (e.2.2 i k); rw [hr]; rfl) kk
theorem mx_iaload {i : Int32} {a n : Nat} (hd : decode M.2.2.1 pc = .ok (.iaload, 1)) (ho : mx_is e a 100 n) (hin : vp_in i n)
    (kk : mx_Fr G l M d kc ks Post (pc + 1) L (.int (mi a i.toNatClampNeg) :: st) (e, mi, mj)) : mx_Fr G l M d kc ks Post pc L (.int i :: .ref a :: st) (e, mi, mj) := by
  intro p en R s m args below meth c' H locs cells slots ls X
  obtain ⟨⟨hx, hcc, hml, hrt, hlk, hown, hnm, hts, hK⟩, hR, hS, hb, hH, hl⟩ := id X
  show W p l en R s m args below meth c' H locs cells slots _ (F0 m pc ls (.int i :: .ref (mx_ad G a) :: st.map (mx_tr G)))
  rw [mx_isl ho hH]
  have hlt : i.toNatClampNeg < n := Nat.not_le.mp fun q => hin (Or.inr q)
  exact W.iald (v := .int (mi a i.toNatClampNeg)) hx hcc (mx_cellI ho hH) ((hK.2 0 _ rfl).1 n _) (fun q => by cases q) (by rw [arrV_size]; exact hin) (by rw [arrV_read _ _ hlt]) rfl rfl hd (kk p en R s m args below meth c' H locs cells slots ls X)
theorem mx_laload {i : Int32} {a n : Nat} (hd : decode M.2.2.1 pc = .ok (.laload, 1)) (ho : mx_is e a 101 n) (hin : vp_in i n)
    (kk : mx_Fr G l M d kc ks Post (pc + 1) L (.long (mj a i.toNatClampNeg) :: st) (e, mi, mj)) : mx_Fr G l M d kc ks Post pc L (.int i :: .ref a :: st) (e, mi, mj) := by
  intro p en R s m args below meth c' H locs cells slots ls X
  obtain ⟨⟨hx, hcc, hml, hrt, hlk, hown, hnm, hts, hK⟩, hR, hS, hb, hH, hl⟩ := id X
  show W p l en R s m args below meth c' H locs cells slots _ (F0 m pc ls (.int i :: .ref (mx_ad G a) :: st.map (mx_tr G)))
  rw [mx_isl ho hH]
  have hlt : i.toNatClampNeg < n := Nat.not_le.mp fun q => hin (Or.inr q)
  exact W.lald (v := .long (mj a i.toNatClampNeg)) hx hcc (mx_cellJ ho hH) ((hK.2 1 _ rfl).1 n _) (fun q => by cases q) (by rw [arrV_size]; exact hin) (by rw [arrV_read _ _ hlt]) rfl rfl hd (kk p en R s m args below meth c' H locs cells slots ls X)
theorem mx_baload {i : Int32} {a n : Nat} (hd : decode M.2.2.1 pc = .ok (.baload, 1)) (ho : mx_is e a 102 n) (hin : vp_in i n)
    (kk : mx_Fr G l M d kc ks Post (pc + 1) L (.int (mi a i.toNatClampNeg) :: st) (e, mi, mj)) : mx_Fr G l M d kc ks Post pc L (.int i :: .ref a :: st) (e, mi, mj) := by
  intro p en R s m args below meth c' H locs cells slots ls X
  obtain ⟨⟨hx, hcc, hml, hrt, hlk, hown, hnm, hts, hK⟩, hR, hS, hb, hH, hl⟩ := id X
  show W p l en R s m args below meth c' H locs cells slots _ (F0 m pc ls (.int i :: .ref (mx_ad G a) :: st.map (mx_tr G)))
  rw [mx_isl ho hH]
  have hlt : i.toNatClampNeg < n := Nat.not_le.mp fun q => hin (Or.inr q)
  exact W.zald (v := .int (mi a i.toNatClampNeg)) hx hcc (mx_cellZ ho hH) ((hK.2 2 _ rfl).1 n _) (fun q => by cases q) (by rw [arrV_size]; exact hin) (by rw [arrV_read _ _ hlt]) rfl rfl hd (kk p en R s m args below meth c' H locs cells slots ls X)
theorem mx_aaload {i : Int32} {a n k b : Nat} (hd : decode M.2.2.1 pc = .ok (.aaload, 1)) (ho : mx_is e a k n) (hk : k = 103 ∨ k = 104) (hin : vp_in i n) (hr : e.2.2 a i.toNatClampNeg = some b)
    (kk : mx_Fr G l M d kc ks Post (pc + 1) L (.ref b :: st) (e, mi, mj)) : mx_Fr G l M d kc ks Post pc L (.int i :: .ref a :: st) (e, mi, mj) := by
  intro p en R s m args below meth c' H locs cells slots ls X
  obtain ⟨⟨hx, hcc, hml, hrt, hlk, hown, hnm, hts, hK⟩, hR, hS, hb, hH, hl⟩ := id X
  show W p l en R s m args below meth c' H locs cells slots _ (F0 m pc ls (.int i :: .ref (mx_ad G a) :: st.map (mx_tr G)))
  rw [mx_isl ho hH]
  have hlt : i.toNatClampNeg < n := Nat.not_le.mp fun q => hin (Or.inr q)
  have hv : mx_rv G (e.2.2 a i.toNatClampNeg) = mx_tr G (.ref b) := by rw [hr]; rfl
  rcases hk with rfl | rfl
  · exact W.aald (v := mx_tr G (.ref b)) hx hcc (mx_cellN ho hH) ((hK.2 3 _ rfl).1 n _) rfl (fun q => by cases q) (by rw [arrV_size]; exact hin) (by rw [arrV_read _ _ hlt, hv]) rfl rfl hd (kk p en R s m args below meth c' H locs cells slots ls X)
  · exact W.aald (v := mx_tr G (.ref b)) hx hcc (mx_cellP ho hH) ((hK.2 4 _ rfl).1 n _) rfl (fun q => by cases q) (by rw [arrV_size]; exact hin) (by rw [arrV_read _ _ hlt, hv]) rfl rfl hd (kk p en R s m args below meth c' H locs cells slots ls X)
theorem mx_alen {a n k : Nat} (v : Int32) (hd : decode M.2.2.1 pc = .ok (.arraylength, 1)) (ho : mx_is e a k n) (hk : k = 100 ∨ k = 101) (hv : n.toInt32 = v)
    (kk : mx_Fr G l M d kc ks Post (pc + 1) L (.int v :: st) (e, mi, mj)) : mx_Fr G l M d kc ks Post pc L (.ref a :: st) (e, mi, mj) := by
  intro p en R s m args below meth c' H locs cells slots ls X
  obtain ⟨⟨hx, hcc, hml, hrt, hlk, hown, hnm, hts, hK⟩, hR, hS, hb, hH, hl⟩ := id X
  show W p l en R s m args below meth c' H locs cells slots _ (F0 m pc ls (.ref (mx_ad G a) :: st.map (mx_tr G)))
  rw [mx_isl ho hH]
  rcases hk with rfl | rfl
  · exact W.alen (n := v) hx hcc (mx_cellI ho hH) ((hK.2 0 _ rfl).1 n _) (by rw [arrV_size]; exact hv) rfl rfl hd (kk p en R s m args below meth c' H locs cells slots ls X)
  · exact W.alen (n := v) hx hcc (mx_cellJ ho hH) ((hK.2 1 _ rfl).1 n _) (by rw [arrV_size]; exact hv) rfl rfl hd (kk p en R s m args below meth c' H locs cells slots ls X)
theorem mx_S_put {s : State} {H H1 : Heap} {locs : List Loc} {i k : Nat} (hS : va_S (mx_fr G) s.heap H locs) (hz : H1.size = H.size) (ho : ∀ q, q ≠ G.1 + i → H1[q]? = H[q]?) : va_S (mx_fr G) s.heap H1 (locs ++ [⟨G.1 + i, k⟩]) :=
  hS.put hz ho (Nat.le_add_right _ _)
theorem mx_iastore {i x : Int32} {a n : Nat} (hd : decode M.2.2.1 pc = .ok (.iastore, 1)) (ho : mx_is e a 100 n) (hin : vp_in i n)
    (kk : mx_Fr G l M d kc ks Post (pc + 1) L st (e, mx_up mi a i.toNatClampNeg x, mj)) : mx_Fr G l M d kc ks Post pc L (.int x :: .int i :: .ref a :: st) (e, mi, mj) := by
  intro p en R s m args below meth c' H locs cells slots ls X
  obtain ⟨⟨hx, hcc, hml, hrt, hlk, hown, hnm, hts, hK⟩, hR, hS, hb, hH, hl⟩ := id X
  show W p l en R s m args below meth c' H locs cells slots _ (F0 m pc ls (.int x :: .int i :: .ref (mx_ad G a) :: st.map (mx_tr G)))
  rw [mx_isl ho hH]
  refine W.iast hx hcc (mx_cellI ho hH) ((hK.2 0 _ rfl).1 n _) (fun q => by cases q) (by rw [arrV_size]; exact hin) rfl rfl hd fun H1 e1 hz oq => ?_
  refine kk p en R s m args below meth c' H1 _ cells slots ls ⟨X.1, hR, mx_S_put hS hz oq, hb, ?_, hl⟩
  refine mx_H_one (i := a) hH hz oq rfl (fun j hj => ⟨fun k => mx_up_ne _ _ (fun q => absurd q hj), fun k => rfl⟩) (fun _ => ?_)
  unfold mx_cell
  dsimp only
  rw [ho.2]
  simp only [if_true]
  rw [e1, arrV_store]
  congr 2
  funext j
  unfold updV mx_up
  by_cases hj : j = i.toNatClampNeg
  · simp [hj]
  · simp [hj]
theorem mx_bastore {i x : Int32} {a n : Nat} (hd : decode M.2.2.1 pc = .ok (.bastore, 1)) (ho : mx_is e a 102 n) (hin : vp_in i n) (hx0 : x = 0 ∨ x = 1)
    (kk : mx_Fr G l M d kc ks Post (pc + 1) L st (e, mx_up mi a i.toNatClampNeg x, mj)) : mx_Fr G l M d kc ks Post pc L (.int x :: .int i :: .ref a :: st) (e, mi, mj) := by
  intro p en R s m args below meth c' H locs cells slots ls X
  obtain ⟨⟨hx, hcc, hml, hrt, hlk, hown, hnm, hts, hK⟩, hR, hS, hb, hH, hl⟩ := id X
  show W p l en R s m args below meth c' H locs cells slots _ (F0 m pc ls (.int x :: .int i :: .ref (mx_ad G a) :: st.map (mx_tr G)))
  rw [mx_isl ho hH]
  refine W.zast hx hcc (mx_cellZ ho hH) ((hK.2 2 _ rfl).1 n _) (fun q => by cases q) (by rw [arrV_size]; exact hin) rfl rfl hd fun H1 e1 hz oq => ?_
  refine kk p en R s m args below meth c' H1 _ cells slots ls ⟨X.1, hR, mx_S_put hS hz oq, hb, ?_, hl⟩
  refine mx_H_one (i := a) hH hz oq rfl (fun j hj => ⟨fun k => mx_up_ne _ _ (fun q => absurd q hj), fun k => rfl⟩) (fun _ => ?_)
  unfold mx_cell
  dsimp only
  rw [ho.2]
  simp only [show ¬ (102 = 100) by decide, show ¬ (102 = 101) by decide, if_true, if_false]
  rw [e1, arrV_store]
  congr 2
  funext j
  unfold updV mx_up
  by_cases hj : j = i.toNatClampNeg
  · rcases hx0 with rfl | rfl <;> simp [hj] <;> decide
  · simp [hj]
theorem mx_lastore {i : Int32} {x : Int64} {a n : Nat} (hd : decode M.2.2.1 pc = .ok (.lastore, 1)) (ho : mx_is e a 101 n) (hin : vp_in i n)
    (kk : mx_Fr G l M d kc ks Post (pc + 1) L st (e, mi, mx_ul mj a i.toNatClampNeg x)) : mx_Fr G l M d kc ks Post pc L (.long x :: .int i :: .ref a :: st) (e, mi, mj) := by
  intro p en R s m args below meth c' H locs cells slots ls X
  obtain ⟨⟨hx, hcc, hml, hrt, hlk, hown, hnm, hts, hK⟩, hR, hS, hb, hH, hl⟩ := id X
  show W p l en R s m args below meth c' H locs cells slots _ (F0 m pc ls (.long x :: .int i :: .ref (mx_ad G a) :: st.map (mx_tr G)))
  rw [mx_isl ho hH]
  refine W.last hx hcc (mx_cellJ ho hH) ((hK.2 1 _ rfl).1 n _) (fun q => by cases q) (by rw [arrV_size]; exact hin) rfl rfl hd fun H1 e1 hz oq => ?_
  refine kk p en R s m args below meth c' H1 _ cells slots ls ⟨X.1, hR, mx_S_put hS hz oq, hb, ?_, hl⟩
  refine mx_H_one (i := a) hH hz oq rfl (fun j hj => ⟨fun k => rfl, fun k => by show mx_ul mj a _ x j k = _; unfold mx_ul; rw [if_neg (fun q => hj q.1)]⟩) (fun _ => ?_)
  unfold mx_cell
  dsimp only
  rw [ho.2]
  simp only [show ¬ (101 = 100) by decide, if_true, if_false]
  rw [e1, arrV_store]
  congr 2
  funext j
  unfold updV mx_ul
  by_cases hj : j = i.toNatClampNeg
  · simp [hj]
  · simp [hj]
end MH
end
section
section MC
variable {G : mG} {l : Launch} {M : mM} {d kc ks : Nat} {Post : Option Value → mS → Prop} {pc : Nat} {L st : List Value} {e : mE} {mi : mI} {mj : mJ}
/-- a field that is not final -/
def mx_nf (c k : Nat) : Prop := ∃ r : vw_C, vwCl[c]? = some r ∧ (r.2.1 k).2.2.2 = false
theorem mx_put {own : String} {idx c k i n : Nat} {v : Value} {mi' : mI} {mj' : mJ} (hd : decode M.2.2.1 pc = .ok (.putfield idx, 3)) (hf : mx_fld own idx c k) (hM : M.1 = own) (hnf : mx_nf c k) (ho : mx_is e i c n)
    (hn : narrow (mx_ty c k) (mx_tr G v) = mx_tr G v) (hfit : fits (mx_ty c k) (mx_tr G v) = true)
    (hsame : ∀ j, j ≠ i → (∀ k, mi' j k = mi j k) ∧ (∀ k, mj' j k = mj j k)) (hV : ∀ j, updV (fun q => mx_fv G (e, mi, mj) (mx_ty c q) i q) k (mx_tr G v) j = mx_fv G (e, mi', mj') (mx_ty c j) i j)
    (kk : mx_Fr G l M d kc ks Post (pc + 3) L st (e, mi', mj')) : mx_Fr G l M d kc ks Post pc L (v :: .ref i :: st) (e, mi, mj) := by
  intro p en R s m args below meth c' H locs cells slots ls X
  obtain ⟨⟨hx, hcc, hml, hrt, hlk, hown, hnm, hts, hK⟩, hR, hS, hb, hH, hl⟩ := id X
  have hc13 := mx_fld_c hf
  obtain ⟨C, T, N, hcl, hk, hlink, hT1, hlay, hty, hnn⟩ := hf
  obtain ⟨r0, hr0, hfin⟩ := hnf
  have : r0 = (C, T, N) := Option.some.inj (hr0.symm.trans hcl)
  subst this
  obtain ⟨r, h1, cell, q1, q2, q3, q4⟩ := mx_cellO ho hc13 hH
  have hr : r = (C, T, N) := Option.some.inj (h1.symm.trans hcl)
  subst hr
  have hap := va_apart (own := own) hts hlay (mx_ty c) hty hnn hK hcl
  obtain ⟨hSl, hfc, kC, hkC, hkind⟩ := hK.1 c _ hcl
  obtain ⟨cf, kf, fi, f, hi, hsl⟩ := hSl k hk
  have hlay1 := hts _ (hlay _ (u_in_lay (C := C) hk))
  unfold u_lay at hlay1
  rw [if_neg (by rw [hfin]; decide)] at hlay1
  have hst := (u_facts hfc hkC (u_lays (T := T) (N := N) hts hlay hk) hi).1
  have h6 := u_store hfc hkC hkind hlay1 hi (hty k hk) hn hfit
  have e1 : (mx_tr G (.ref i)) = .ref (G.1 + i) := by show Value.ref (mx_ad G i) = _; rw [mx_isl ho hH]
  show W p l en R s m args below meth c' H locs cells slots _ (F0 m pc ls (mx_tr G v :: mx_tr G (.ref i) :: st.map (mx_tr G)))
  rw [e1]
  refine W.putK hx hcc (f := f) ⟨hM ▸ hown, hts _ hlink, ⟨_, _, _, hT1 ▸ hi⟩, hst⟩ (by rw [q2]; exact h6) q1 q3 (by rw [hsl]; exact k2_hasslot (q4 k hk)) rfl rfl hd fun H1 w1 w2 w3 => ?_
  rw [hsl] at w1
  refine kk p en R s m args below meth c' H1 _ cells slots ls ⟨X.1, hR, mx_S_put hS w2 w3, hb, ?_, hl⟩
  refine mx_H_one (i := i) hH w2 w3 rfl hsame (fun _ => ?_)
  unfold mx_cell
  dsimp only
  rw [ho.2]
  simp only [show ¬ c = 100 by omega, show ¬ c = 101 by omega, show ¬ c = 102 by omega, show ¬ c = 103 by omega, show ¬ c = 104 by omega, show ¬ c = 999 by omega, if_false]
  exact ⟨(C, T, N), hcl, t_OB.to (V := updV (fun q => mx_fv G (e, mi, mj) (mx_ty c q) i q) k (mx_tr G v)) ⟨_, w1, q2, q3, t_set q4 hap hk _⟩ (fun j _ => hV j)⟩
theorem mx_putI {own : String} {idx c k i n : Nat} {x : Int32} (hd : decode M.2.2.1 pc = .ok (.putfield idx, 3)) (hf : mx_fld own idx c k) (hM : M.1 = own) (hnf : mx_nf c k) (ht : mx_ty c k = .int) (ho : mx_is e i c n)
    (kk : mx_Fr G l M d kc ks Post (pc + 3) L st (e, mx_up mi i k x, mj)) : mx_Fr G l M d kc ks Post pc L (.int x :: .ref i :: st) (e, mi, mj) := by
  refine mx_put hd hf hM hnf ho (by rw [ht]; rfl) (by rw [ht]; rfl) (fun j hj => ⟨fun q => mx_up_ne _ _ (fun w => absurd w hj), fun q => rfl⟩) (fun j => ?_) kk
  unfold updV
  by_cases hj : j = k
  · subst hj
    rw [if_pos rfl, ht]
    show _ = Value.int (mx_up mi i j x i j)
    rw [mx_up_self]; rfl
  · rw [if_neg hj]
    unfold mx_fv
    dsimp only
    rw [mx_up_ne _ _ (fun _ => hj)]
theorem mx_putZ {own : String} {idx c k i n : Nat} {x : Int32} (hd : decode M.2.2.1 pc = .ok (.putfield idx, 3)) (hf : mx_fld own idx c k) (hM : M.1 = own) (hnf : mx_nf c k) (ht : mx_ty c k = .boolean) (hx : x = 0 ∨ x = 1) (ho : mx_is e i c n)
    (kk : mx_Fr G l M d kc ks Post (pc + 3) L st (e, mx_up mi i k x, mj)) : mx_Fr G l M d kc ks Post pc L (.int x :: .ref i :: st) (e, mi, mj) := by
  refine mx_put hd hf hM hnf ho (by rw [ht]; rcases hx with rfl | rfl <;> rfl) (by rw [ht]; rcases hx with rfl | rfl <;> rfl) (fun j hj => ⟨fun q => mx_up_ne _ _ (fun w => absurd w hj), fun q => rfl⟩) (fun j => ?_) kk
  unfold updV
  by_cases hj : j = k
  · subst hj
    rw [if_pos rfl, ht]
    show _ = Value.int (mx_up mi i j x i j)
    rw [mx_up_self]; rfl
  · rw [if_neg hj]
    unfold mx_fv
    dsimp only
    rw [mx_up_ne _ _ (fun _ => hj)]
theorem mx_putJ {own : String} {idx c k i n : Nat} {x : Int64} (hd : decode M.2.2.1 pc = .ok (.putfield idx, 3)) (hf : mx_fld own idx c k) (hM : M.1 = own) (hnf : mx_nf c k) (ht : mx_ty c k = .long) (ho : mx_is e i c n)
    (kk : mx_Fr G l M d kc ks Post (pc + 3) L st (e, mi, mx_ul mj i k x)) : mx_Fr G l M d kc ks Post pc L (.long x :: .ref i :: st) (e, mi, mj) := by
  refine mx_put hd hf hM hnf ho (by rw [ht]; rfl) (by rw [ht]; rfl) (fun j hj => ⟨fun q => rfl, fun q => by show mx_ul mj i k x j q = _; unfold mx_ul; rw [if_neg (fun w => hj w.1)]⟩) (fun j => ?_) kk
  unfold updV
  by_cases hj : j = k
  · subst hj
    rw [if_pos rfl, ht]
    show _ = Value.long (mx_ul mj i j x i j)
    simp [mx_ul, mx_tr]
  · rw [if_neg hj]
    unfold mx_fv
    dsimp only
    simp [mx_ul, hj]
/-- the words of a callee -/
def mx_inv (own : String) (idx : Nat) (M : mM) (n : Nat) : Prop := Cond.methodLink own idx M.2.1 ∈ mx_TB ∧ Cond.code M.2.1 M.2.2.1 M.2.2.2.1 M.2.2.2.2 ∈ mx_TB ∧ Cond.initialized M.2.1.cls ∈ mx_TB ∧ (M.2.1.cls ≠ "java/lang/invoke/MethodHandle" ∧ M.2.1.cls ≠ "java/lang/invoke/VarHandle") ∧ (parseMethodDescriptor M.2.1.desc).map (fun d => d.parameters.length) = some n ∧ M.2.2.2.1 ≤ 40
theorem mx_wsg {M : mM} (h : Cond.code M.2.1 M.2.2.1 M.2.2.2.1 M.2.2.2.2 ∈ mx_TB) : GoodIn mx_TB (mx_ws M) := fun w hw => by
  rcases List.mem_cons.mp hw with rfl | hw
  · exact mx_TBg _ h
  · exact mx_TBg _ hw
theorem mx_callB {own : String} {idx n d d' k' s' : Nat} {M' : mM} {R : Room} {s : State} {args : Array Value} (hi : mx_inv own idx M' n) (hts : ∀ w ∈ mx_TB, w.before args s = true) (hd : d' < d) (h1 : d ≤ R.frames) (h2 : 60 * d ≤ R.locals) :
    CallB R s args own idx M'.2.1 M'.2.2.1 M'.2.2.2.1 M'.2.2.2.2 (mx_ws M') (mx_rm d' k' s') k' s' n := by
  obtain ⟨hl, hc, hin, hy, hp, hm⟩ := hi
  refine callB_of n hts (mx_wsg hc) rfl rfl rfl (hts _ hin) (hts _ hl) ⟨hy.1, hy.2, hp⟩ ⟨?_, ?_⟩
  · show d' + 1 ≤ _; omega
  · show 8 + (M'.2.2.2.1 + 11) + 60 * d' ≤ _; omega
/-- behind a call -/
theorem mx_cont {p : Program} {en : Env} {R : Room} {s : State} {m : MethodId} {args : Array Value} {below : List Frame} {meth : Method} {c : Code} {H : Heap} {locs : List Loc} {cells slots : Nat} {ls : Array Slot} {z : mS} {kc' ks' : Nat} {st0 : List Value} {a : Array Value} {Post' : Option Value → mS → Prop}
    (X : mx_X G M d kc ks L z p R s m args meth c H locs cells slots ls) (h1 : kc' ≤ kc) (h2 : ks' ≤ ks)
    (hr : CallRun p l en R s m args below meth c H locs cells slots kc' ks' (F0 m pc ls st0) (st.map (mx_tr G)) (mx_Q G Post' a) (mx_fr G))
    (kk : ∀ v z', Post' v z' → mx_Fr G l M d (kc - kc') (ks - ks') Post (pc + 3) L (v.toList ++ st) z') :
    W p l en R s m args below meth c H locs cells slots (MQ below (mx_Q G Post) args s R.cells R.slots (mx_fr G)) (F0 m pc ls st0) := by
  obtain ⟨hC, hR, hS, hb, hH, hl⟩ := X
  intro T hT XT
  obtain ⟨v, st₀, t, T', Lc, h0, X', hL, e1, ⟨⟨v', z', hv, hp, hH'⟩, hF⟩, step⟩ := hr T hT XT
  have hv' : v = v'.map (mx_tr G) := Outcome.returned.inj hv
  subst hv'
  have hS' : va_S (mx_fr G) s.heap t.heap (locs ++ Lc) := by
    refine ⟨Nat.le_trans hS.1 (by rw [← h0]; exact hF.1), fun q h3 h4 => ?_, fun q hq => ?_⟩
    · rw [hF.2 q (by rw [h0]; exact Nat.lt_of_lt_of_le h3 hS.1) h4, h0]
      exact hS.2.1 q h3 h4
    · rcases List.mem_append.mp hq with h | h
      · exact hS.2.2 q h
      · exact hL q h
  obtain ⟨t2, a1, b1⟩ := kk v' z' hp p en R s m args below meth c t.heap (locs ++ Lc) (cells + kc') (slots + ks') ls ⟨hC, ⟨hR.1, hR.2.1, by omega, by omega⟩, hS', hb, hH', hl⟩ T' e1 X'
  refine ⟨t2, step t2 ?_, b1⟩
  have e2 : (v'.toList ++ st).map (mx_tr G) = (v'.map (mx_tr G)).toList ++ st.map (mx_tr G) := by cases v' <;> rfl
  rw [e2] at a1
  exact a1
theorem mx_cats (st : List Value) : ((st.map (mx_tr G)).map fun v => v.category) = st.map fun v => v.category := by
  rw [List.map_map]
  congr 1
  funext v
  exact mx_tr_cat G v
theorem mx_stk {av : List Value} : (av.reverse ++ st).map (mx_tr G) = (av.map (mx_tr G)).reverse ++ st.map (mx_tr G) := by simp
theorem mx_callV {own : String} {idx n d' kc' ks' c0 n0 i : Nat} {M' : mM} {av st0 : List Value} {Post' : Option Value → mS → Prop} (hd : decode M.2.2.1 pc = .ok (.invokevirtual idx, 3)) (hi : mx_inv own idx M' n) (hM : M.1 = own)
    (hV : Cond.instanceMethod M'.2.1 ∈ mx_TB ∧ Cond.selects M'.2.1.cls M'.2.1 M'.2.1 ∈ mx_TB) (hcl : ∃ r : vw_C, vwCl[c0]? = some r ∧ r.1 = M'.2.1.cls) (ho : mx_is e i c0 n0)
    (hc : mx_Call G l M' d' kc' ks' (.ref i :: av) (e, mi, mj) Post') (hd' : d' < d) (h1 : kc' ≤ kc) (h2 : ks' ≤ ks) (hst : st0 = av.reverse ++ (.ref i :: st)) (hn : av.length = n) (hW : (st.map fun v => v.category).sum ≤ 8)
    (kk : ∀ v z', Post' v z' → mx_Fr G l M d (kc - kc') (ks - ks') Post (pc + 3) L (v.toList ++ st) z') : mx_Fr G l M d kc ks Post pc L st0 (e, mi, mj) := by
  intro p en R s m args below meth c' H locs cells slots ls X
  obtain ⟨⟨hx, hcc, hml, hrt, hlk, hown, hnm, hts, hK⟩, hR, hS, hb, hH, hl⟩ := id X
  obtain ⟨r, hr, hrc⟩ := hcl
  have hc13 : c0 < 13 := (List.getElem?_eq_some_iff.mp hr).1
  have hrecv : ∃ cell : Cell, H[G.1 + i]? = some cell ∧ cell.vm.isStatics = false ∧ s.vm.findClass M'.2.1.cls = some cell.cls := by
    obtain ⟨r', h1', cell, q1, q2, q3, q4⟩ := mx_cellO ho hc13 hH
    exact ⟨cell, q1, by rw [q3]; rfl, by rw [q2, ← hrc]; exact (hK.1 c0 _ hr).2.1⟩
  have e1 : (mx_tr G (.ref i)) = .ref (G.1 + i) := by show Value.ref (mx_ad G i) = _; rw [mx_isl ho hH]
  subst hst
  refine mx_cont X h1 h2 (W.runV (C := M'.2.1.cls) (b := G.1 + i) (As := av.map (mx_tr G)) (rest := st.map (mx_tr G)) (g := F0 m pc ls _) ⟨hx, hcc, hml, hM ▸ hown, hts⟩ hc ⟨mx_callB hi hts hd' hR.1 hR.2.1, hts _ hV.1, hts _ hV.2⟩ ⟨mx_blind, hrecv, fun U hU hW' => ⟨?_, by rw [hU]; exact hH, mx_K.moved hW'.alike hK⟩⟩ rfl (by simpa using hn) hl.1 ?_ (lv_room (by rw [mx_cats]; exact hW)) hd ⟨by omega, by omega⟩) kk
  · show _ = ((mx_tr G (.ref i)) :: av.map (mx_tr G)).toArray
    rw [e1]
  · show (av.reverse ++ (.ref i :: st)).map (mx_tr G) = _
    rw [mx_stk]
    show _ ++ (mx_tr G (.ref i) :: st.map (mx_tr G)) = _
    rw [e1]
theorem mx_callS {own : String} {idx n d' kc' ks' : Nat} {M' : mM} {av st0 : List Value} {z : mS} {Post' : Option Value → mS → Prop} (hd : decode M.2.2.1 pc = .ok (.invokestatic idx, 3)) (hi : mx_inv own idx M' n) (hM : M.1 = own)
    (hV : Cond.static M'.2.1 ∈ mx_TB) (hc : mx_Call G l M' d' kc' ks' av z Post') (hd' : d' < d) (h1 : kc' ≤ kc) (h2 : ks' ≤ ks) (hst : st0 = av.reverse ++ st) (hn : av.length = n) (hW : (st.map fun v => v.category).sum ≤ 8)
    (kk : ∀ v z', Post' v z' → mx_Fr G l M d (kc - kc') (ks - ks') Post (pc + 3) L (v.toList ++ st) z') : mx_Fr G l M d kc ks Post pc L st0 z := by
  intro p en R s m args below meth c' H locs cells slots ls X
  obtain ⟨⟨hx, hcc, hml, hrt, hlk, hown, hnm, hts, hK⟩, hR, hS, hb, hH, hl⟩ := id X
  subst hst
  exact mx_cont X h1 h2 (W.runS (As := av.map (mx_tr G)) (rest := st.map (mx_tr G)) (g := F0 m pc ls _) ⟨hx, hcc, hml, hM ▸ hown, hts⟩ hc ⟨mx_callB hi hts hd' hR.1 hR.2.1, hts _ hV⟩ ⟨mx_blind, fun U hU hW' => ⟨rfl, by rw [hU]; exact hH, mx_K.moved hW'.alike hK⟩⟩ rfl (by simpa using hn) hl.1 mx_stk (lv_room (by rw [mx_cats]; exact hW)) hd ⟨by omega, by omega⟩) kk
/-- less depth, less room, a weaker end -/
theorem mx_Call.post {d' : Nat} {av : List Value} {z : mS} {P' : Option Value → mS → Prop} (h : mx_Call G l M d kc ks av z Post) (hp : ∀ v z', Post v z' → P' v z') : mx_Call G l M d kc ks av z P' := by
  intro p e ha hcr hk s m args below hf hap hP hK
  obtain ⟨t, o, h1, h2, h3, ⟨⟨v, z', hv, hq, hH⟩, hF⟩, h5⟩ := h p e ha hcr hk s m args below hf hap hP hK
  exact ⟨t, o, h1, h2, h3, ⟨⟨v, z', hv, hp v z' hq, hH⟩, hF⟩, h5⟩
end MC
end
section
section MP
variable {G : mG} {l : Launch} {M : mM} {d kc ks : Nat} {Post : Option Value → mS → Prop} {pc : Nat} {L st : List Value} {e : mE} {mi : mI} {mj : mJ}
def mx_cp (m : mI) (a0 a n : Nat) : mI := fun b j => if b = a ∧ j < n then m a0 j else m b j
def mx_cl (m : mJ) (a0 a n : Nat) : mJ := fun b j => if b = a ∧ j < n then m a0 j else m b j
theorem mx_nn (z : Int32) (hz : ¬ z < 0) : z.toInt = (z.toNatClampNeg : Int) := by
  have hz0 : (0 : Int) ≤ z.toInt := by
    have := Int32.not_lt.mp hz
    simpa using Int32.le_iff_toInt_le.mp this
  show z.toInt = ((z.toInt.toNat : Nat) : Int)
  omega
theorem mx_nfw : nativeFrameWords "java/lang/System" "arraycopy" 5 ≤ 40 := by decide +kernel
/-- one row of a whole copy, for contents of any sort -/
theorem mx_copyW {α : Type} (V : α → Value) {ty : FieldType} {p : Program} {en : Env} {R : Room} {s : State} {m : MethodId} {args : Array Value} {below : List Frame} {meth : Method} {c : Code} {H : Heap} {locs : List Loc} {cells slots : Nat} {Q : State → Prop} {cc : ByteArray} {ls : Array Slot} {rest : List Value} {own : String} {idx : Nat}
    (hexec : p.tables.exec = Jvm.exec) (hb : c.code = cc) (hml : c.maxLocals = ls.size) (hown : s.vm.findClass own = some m.cls) (hlink : (Cond.methodLink own idx arraycopyName).before args s = true) (hnat : (Cond.native arraycopyName).before args s = true) (hstat : (Cond.static arraycopyName).before args s = true) (hini : (Cond.initialized "java/lang/System").before args s = true)
    {cA : ClassId} {a0 a n : Nat} {f g : Nat → α} (hA : ArrOfT s cA ty) (hc0 : H[a0]? = some (arrV cA n (fun j => V (f j)))) (hc1 : H[a]? = some (arrV cA n (fun j => V (g j)))) (hprim : refKind ty = false) (hfit : ∀ x, fits ty (V x) = true) (hnr : ∀ x a, V x ≠ .ref a)
    {nn : Int32} (h3 : ¬ nn < 0) (h4 : nn.toNatClampNeg = n) (hframes : 1 ≤ R.frames) (hlocals : (rest.map fun v => v.category).sum + (nativeFrameWords "java/lang/System" "arraycopy" 5 + 11) ≤ R.locals) (hdg : decode cc pc = .ok (.invokestatic idx, 3))
    (kk : ∀ (H1 : Heap) (Lc : List Loc), H1[a]? = some (arrV cA n (fun j => V (f j))) → H1.size = H.size → (∀ q, q ≠ a → H1[q]? = H[q]?) → (∀ q ∈ Lc, q.base = a) → W p l en R s m args below meth c H1 (locs ++ Lc) cells slots Q (F0 m (pc + 3) ls rest)) :
    W p l en R s m args below meth c H locs cells slots Q (F0 m pc ls (.int nn :: .int 0 :: .ref a :: .int 0 :: .ref a0 :: rest)) := by
  intro T hT X
  obtain ⟨-, k0, hk0, cm0, hkk0⟩ := hA n (fun j => V (f j))
  obtain ⟨-, k1, hk1, cm1, hkk1⟩ := hA n (fun j => V (g j))
  obtain ⟨vm', X', step⟩ := X.arraycopy hexec hown hlink hnat hstat hini (src := a0) (dst := a) (cs := arrV cA n (fun j => V (f j))) (cd := arrV cA n (fun j => V (g j))) (srcPos := 0) (destPos := 0) (n := nn) (by rw [hT]; exact hc0) (by rw [hT]; exact hc1)
    (fun _ h => by cases h) (fun _ h => by cases h) (fun h => by cases h) (fun h => by cases h) hk0 hk1 hkk0 hkk1 (by simp [hprim]) (by decide) (by decide) h3
    (by rw [mx_nn nn h3, h4, arrV_size]; show ¬ (0 : Int) + _ > _; omega)
    (by rw [mx_nn nn h3, h4, arrV_size]; show ¬ (0 : Int) + _ > _; omega)
    (fun vm₁ _ i hi => by
      have e : (arrV cA n (fun j => V (f j))).slots.getD ((0 : Int32).toNatClampNeg + i) .null = V (f ((0 : Int32).toNatClampNeg + i)) := by
        have : (0 : Int32).toNatClampNeg = 0 := by decide
        rw [this, Array.getD_eq_getD_getElem?, arrV_read _ _ (by omega)]
        rfl
      refine ⟨?_, ?_⟩
      · rw [e]
        exact hfit _
      · rw [e]
        cases hv : V (f ((0 : Int32).toNatClampNeg + i)) with
        | ref b => exact absurd hv (hnr _ _)
        | _ => trivial)
    (g := F0 m pc ls (.int nn :: .int 0 :: .ref a :: .int 0 :: .ref a0 :: rest)) rfl (by rw [hml]) (rest := rest) rfl (by rw [hb]; exact hdg) hframes (by show 2 * 0 + _ + _ ≤ _; omega)
  have e1 : copied (arrV cA n (fun j => V (f j))) (arrV cA n (fun j => V (g j))) 0 0 nn = arrV cA n (fun j => V (f j)) := by
    have h0 : (0 : Int32).toNatClampNeg = 0 := by decide
    have h6 := va_copied V cA cA f g (n0 := n) (n1 := n) (sp := (0 : Int32).toNatClampNeg) (dp := (0 : Int32).toNatClampNeg) (n := nn.toNatClampNeg) (by rw [h0, h4]; omega)
    refine h6.trans ?_
    unfold arrV
    congr 2
    funext j
    have hj := j.isLt
    simp only [va_cpy, h0, h4]
    rw [if_pos ⟨by omega, by omega⟩]
    simp
  rw [e1] at X' step
  have hl : a < H.size := (Array.getElem?_eq_some_iff.mp hc1).1
  have hheap : ((T.setVm vm').setCell a (arrV cA n (fun j => V (f j)))).heap = H.setIfInBounds a (arrV cA n (fun j => V (f j))) := by rw [← hT]; rfl
  obtain ⟨t, a1, b1⟩ := kk (H.setIfInBounds a (arrV cA n (fun j => V (f j)))) _ (by simp [Array.getElem?_setIfInBounds, hl]) (by simp) (fun q hq => by simp [Array.getElem?_setIfInBounds, Ne.symm hq]) (fun q hq => by
    obtain ⟨w, -, hw⟩ := List.mem_map.mp hq
    rw [← hw]) _ hheap X'
  exact ⟨t, step t a1, b1⟩
def mx_acw (own : String) (idx : Nat) : Prop := Cond.methodLink own idx arraycopyName ∈ mx_TB ∧ Cond.native arraycopyName ∈ mx_TB ∧ Cond.static arraycopyName ∈ mx_TB ∧ Cond.initialized "java/lang/System" ∈ mx_TB
theorem mx_copyI {own : String} {idx a0 a n : Nat} {nn : Int32} (hd : decode M.2.2.1 pc = .ok (.invokestatic idx, 3)) (hw : mx_acw own idx) (hM : M.1 = own) (ho0 : mx_is e a0 100 n) (ho : mx_is e a 100 n) (hn : nn = nI n) (hn2 : n < 2 ^ 31) (hd1 : 1 ≤ d) (hW : (st.map fun v => v.category).sum ≤ 8)
    (kk : mx_Fr G l M d kc ks Post (pc + 3) L st (e, mx_cp mi a0 a n, mj)) : mx_Fr G l M d kc ks Post pc L (.int nn :: .int 0 :: .ref a :: .int 0 :: .ref a0 :: st) (e, mi, mj) := by
  intro p en R s m args below meth c' H locs cells slots ls X
  obtain ⟨⟨hx, hcc, hml, hrt, hlk, hown, hnm, hts, hK⟩, hR, hS, hb, hH, hl⟩ := id X
  show W p l en R s m args below meth c' H locs cells slots _ (F0 m pc ls (.int nn :: .int 0 :: .ref (mx_ad G a) :: .int 0 :: .ref (mx_ad G a0) :: st.map (mx_tr G)))
  rw [mx_isl ho hH, mx_isl ho0 hH]
  subst hn
  refine mx_copyW (ty := .int) (fun x : Int32 => Value.int x) hx hcc (by rw [hml]; exact hl.1.symm) (hM ▸ hown) (hts _ hw.1) (hts _ hw.2.1) (hts _ hw.2.2.1) (hts _ hw.2.2.2) (hK.2 0 _ rfl).1 (mx_cellI ho0 hH) (mx_cellI ho hH) rfl (fun _ => rfl) (fun _ _ q => by cases q) (nI_pos hn2) (nI_clamp hn2) (by omega) (by rw [mx_cats]; have := mx_nfw; omega) hd (fun H1 Lc e1 hz oq hLc => ?_)
  refine kk p en R s m args below meth c' H1 _ cells slots ls ⟨X.1, hR, ⟨by rw [hz]; exact hS.1, fun q h1 h2 => by rw [oq q (fun w => h2 (by rw [w]; exact Nat.le_add_right _ _))]; exact hS.2.1 q h1 h2, fun q hq => ?_⟩, hb, ?_, hl⟩
  · rcases List.mem_append.mp hq with h | h
    · exact hS.2.2 q h
    · rw [hLc q h]; exact Nat.le_add_right _ _
  refine mx_H_one (i := a) hH hz oq rfl (fun j hj => ⟨fun k => by show mx_cp mi a0 a n j k = _; unfold mx_cp; rw [if_neg (fun q => hj q.1)], fun k => rfl⟩) (fun _ => ?_)
  unfold mx_cell
  dsimp only
  rw [ho.2]
  simp only [if_true]
  rw [e1]
  unfold arrV
  congr 3
  funext j
  have := j.isLt
  simp [mx_cp]
theorem mx_copyJ {own : String} {idx a0 a n : Nat} {nn : Int32} (hd : decode M.2.2.1 pc = .ok (.invokestatic idx, 3)) (hw : mx_acw own idx) (hM : M.1 = own) (ho0 : mx_is e a0 101 n) (ho : mx_is e a 101 n) (hn : nn = nI n) (hn2 : n < 2 ^ 31) (hd1 : 1 ≤ d) (hW : (st.map fun v => v.category).sum ≤ 8)
    (kk : mx_Fr G l M d kc ks Post (pc + 3) L st (e, mi, mx_cl mj a0 a n)) : mx_Fr G l M d kc ks Post pc L (.int nn :: .int 0 :: .ref a :: .int 0 :: .ref a0 :: st) (e, mi, mj) := by
  intro p en R s m args below meth c' H locs cells slots ls X
  obtain ⟨⟨hx, hcc, hml, hrt, hlk, hown, hnm, hts, hK⟩, hR, hS, hb, hH, hl⟩ := id X
  show W p l en R s m args below meth c' H locs cells slots _ (F0 m pc ls (.int nn :: .int 0 :: .ref (mx_ad G a) :: .int 0 :: .ref (mx_ad G a0) :: st.map (mx_tr G)))
  rw [mx_isl ho hH, mx_isl ho0 hH]
  subst hn
  refine mx_copyW (ty := .long) (fun x : Int64 => Value.long x) hx hcc (by rw [hml]; exact hl.1.symm) (hM ▸ hown) (hts _ hw.1) (hts _ hw.2.1) (hts _ hw.2.2.1) (hts _ hw.2.2.2) (hK.2 1 _ rfl).1 (mx_cellJ ho0 hH) (mx_cellJ ho hH) rfl (fun _ => rfl) (fun _ _ q => by cases q) (nI_pos hn2) (nI_clamp hn2) (by omega) (by rw [mx_cats]; have := mx_nfw; omega) hd (fun H1 Lc e1 hz oq hLc => ?_)
  refine kk p en R s m args below meth c' H1 _ cells slots ls ⟨X.1, hR, ⟨by rw [hz]; exact hS.1, fun q h1 h2 => by rw [oq q (fun w => h2 (by rw [w]; exact Nat.le_add_right _ _))]; exact hS.2.1 q h1 h2, fun q hq => ?_⟩, hb, ?_, hl⟩
  · rcases List.mem_append.mp hq with h | h
    · exact hS.2.2 q h
    · rw [hLc q h]; exact Nat.le_add_right _ _
  refine mx_H_one (i := a) hH hz oq rfl (fun j hj => ⟨fun k => rfl, fun k => by show mx_cl mj a0 a n j k = _; unfold mx_cl; rw [if_neg (fun q => hj q.1)]⟩) (fun _ => ?_)
  unfold mx_cell
  dsimp only
  rw [ho.2]
  simp only [show ¬ (101 = 100) by decide, if_true, if_false]
  rw [e1]
  unfold arrV
  congr 3
  funext j
  have := j.isLt
  simp [mx_cl]
end MP
end
