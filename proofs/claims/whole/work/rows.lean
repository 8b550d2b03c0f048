section
-- ===== PART A: goes FIRST, ahead of the names: the tables' words, and 'selects' of the private methods out of them =====
/-- a private method of a class that the tables say can be made, by its rows of tables_1 -/
def lw_okq (q : MethodName × Nat) : Prop := (q.1.cls ≠ "java/lang/invoke/MethodHandle" ∧ q.1.cls ≠ "java/lang/invoke/VarHandle") ∧ Cond.instantiable q.1.cls q.2 ∈ tables_1 ∧ Cond.privateMethod q.1 ∈ tables_1 ∧ Cond.instanceMethod q.1 ∈ tables_1
theorem lw_p0 : lw_okq (⟨"LadderDesk", "refuse", "(I)I"⟩, 6) := ⟨⟨by decide +kernel, by decide +kernel⟩, List.mem_of_getElem? (i := 18) (by decide +kernel), List.mem_of_getElem? (i := 140) (by decide +kernel), List.mem_of_getElem? (i := 141) (by decide +kernel)⟩
theorem lw_p1 : lw_okq (⟨"LadderDesk", "refuseAt", "(II)I"⟩, 6) := ⟨⟨by decide +kernel, by decide +kernel⟩, List.mem_of_getElem? (i := 18) (by decide +kernel), List.mem_of_getElem? (i := 175) (by decide +kernel), List.mem_of_getElem? (i := 176) (by decide +kernel)⟩
theorem lw_p2 : lw_okq (⟨"LadderDesk$Callers", "wayAt", "(LLadderDesk$Shelf;II)I"⟩, 8) := ⟨⟨by decide +kernel, by decide +kernel⟩, List.mem_of_getElem? (i := 61) (by decide +kernel), List.mem_of_getElem? (i := 198) (by decide +kernel), List.mem_of_getElem? (i := 199) (by decide +kernel)⟩
theorem lw_p3 : lw_okq (⟨"LadderDesk$Callers", "whyAt", "(LLadderDesk$Shelf;II)I"⟩, 8) := ⟨⟨by decide +kernel, by decide +kernel⟩, List.mem_of_getElem? (i := 61) (by decide +kernel), List.mem_of_getElem? (i := 203) (by decide +kernel), List.mem_of_getElem? (i := 204) (by decide +kernel)⟩
theorem lw_p4 : lw_okq (⟨"LadderDesk$Callers", "stopOf", "(LLadderDesk$Shelf;II)I"⟩, 8) := ⟨⟨by decide +kernel, by decide +kernel⟩, List.mem_of_getElem? (i := 61) (by decide +kernel), List.mem_of_getElem? (i := 207) (by decide +kernel), List.mem_of_getElem? (i := 208) (by decide +kernel)⟩
theorem lw_p5 : lw_okq (⟨"LadderDesk$Callers", "hangHolds", "(LLadderDesk$Shelf;LLadderDesk$Switch;I)Z"⟩, 8) := ⟨⟨by decide +kernel, by decide +kernel⟩, List.mem_of_getElem? (i := 61) (by decide +kernel), List.mem_of_getElem? (i := 216) (by decide +kernel), List.mem_of_getElem? (i := 217) (by decide +kernel)⟩
theorem lw_p6 : lw_okq (⟨"LadderDesk$Callers", "wayBy", "(LLadderDesk$Switch;I)I"⟩, 8) := ⟨⟨by decide +kernel, by decide +kernel⟩, List.mem_of_getElem? (i := 61) (by decide +kernel), List.mem_of_getElem? (i := 229) (by decide +kernel), List.mem_of_getElem? (i := 230) (by decide +kernel)⟩
theorem lw_p7 : lw_okq (⟨"LadderDesk$Place", "spareSwitch", "()LLadderDesk$Switch;"⟩, 4) := ⟨⟨by decide +kernel, by decide +kernel⟩, List.mem_of_getElem? (i := 33) (by decide +kernel), List.mem_of_getElem? (i := 263) (by decide +kernel), List.mem_of_getElem? (i := 264) (by decide +kernel)⟩
theorem lw_p8 : lw_okq (⟨"LadderDesk$Trial", "setLook", "(IIII)V"⟩, 11) := ⟨⟨by decide +kernel, by decide +kernel⟩, List.mem_of_getElem? (i := 360) (by decide +kernel), List.mem_of_getElem? (i := 526) (by decide +kernel), List.mem_of_getElem? (i := 527) (by decide +kernel)⟩
theorem lw_p9 : lw_okq (⟨"LadderDesk", "answer", "(I)I"⟩, 6) := ⟨⟨by decide +kernel, by decide +kernel⟩, List.mem_of_getElem? (i := 18) (by decide +kernel), List.mem_of_getElem? (i := 567) (by decide +kernel), List.mem_of_getElem? (i := 568) (by decide +kernel)⟩
theorem lw_p10 : lw_okq (⟨"LadderDesk$Shares", "goesOver", "(III)Z"⟩, 2) := ⟨⟨by decide +kernel, by decide +kernel⟩, List.mem_of_getElem? (i := 295) (by decide +kernel), List.mem_of_getElem? (i := 595) (by decide +kernel), List.mem_of_getElem? (i := 596) (by decide +kernel)⟩
theorem lw_p11 : lw_okq (⟨"LadderDesk", "hangFault", "(II)I"⟩, 6) := ⟨⟨by decide +kernel, by decide +kernel⟩, List.mem_of_getElem? (i := 18) (by decide +kernel), List.mem_of_getElem? (i := 620) (by decide +kernel), List.mem_of_getElem? (i := 621) (by decide +kernel)⟩
theorem lw_p12 : lw_okq (⟨"LadderDesk$Rings", "gatherAsks", "(LLadderDesk$Shelf;)V"⟩, 4) := ⟨⟨by decide +kernel, by decide +kernel⟩, List.mem_of_getElem? (i := 94) (by decide +kernel), List.mem_of_getElem? (i := 632) (by decide +kernel), List.mem_of_getElem? (i := 633) (by decide +kernel)⟩
theorem lw_p13 : lw_okq (⟨"LadderDesk$Rings", "gatherStopped", "(LLadderDesk$Switch;)V"⟩, 4) := ⟨⟨by decide +kernel, by decide +kernel⟩, List.mem_of_getElem? (i := 94) (by decide +kernel), List.mem_of_getElem? (i := 639) (by decide +kernel), List.mem_of_getElem? (i := 640) (by decide +kernel)⟩
theorem lw_p14 : lw_okq (⟨"LadderDesk$Rings", "measureTo", "(I)V"⟩, 4) := ⟨⟨by decide +kernel, by decide +kernel⟩, List.mem_of_getElem? (i := 94) (by decide +kernel), List.mem_of_getElem? (i := 644) (by decide +kernel), List.mem_of_getElem? (i := 645) (by decide +kernel)⟩
theorem lw_p15 : lw_okq (⟨"LadderDesk$Rings", "nearest", "(I)I"⟩, 4) := ⟨⟨by decide +kernel, by decide +kernel⟩, List.mem_of_getElem? (i := 94) (by decide +kernel), List.mem_of_getElem? (i := 648) (by decide +kernel), List.mem_of_getElem? (i := 649) (by decide +kernel)⟩
def lw_privs_1 : List (MethodName × Nat) := [(⟨"LadderDesk", "refuse", "(I)I"⟩, 6), (⟨"LadderDesk", "refuseAt", "(II)I"⟩, 6), (⟨"LadderDesk$Callers", "wayAt", "(LLadderDesk$Shelf;II)I"⟩, 8), (⟨"LadderDesk$Callers", "whyAt", "(LLadderDesk$Shelf;II)I"⟩, 8), (⟨"LadderDesk$Callers", "stopOf", "(LLadderDesk$Shelf;II)I"⟩, 8), (⟨"LadderDesk$Callers", "hangHolds", "(LLadderDesk$Shelf;LLadderDesk$Switch;I)Z"⟩, 8), (⟨"LadderDesk$Callers", "wayBy", "(LLadderDesk$Switch;I)I"⟩, 8), (⟨"LadderDesk$Place", "spareSwitch", "()LLadderDesk$Switch;"⟩, 4), (⟨"LadderDesk$Trial", "setLook", "(IIII)V"⟩, 11), (⟨"LadderDesk", "answer", "(I)I"⟩, 6), (⟨"LadderDesk$Shares", "goesOver", "(III)Z"⟩, 2), (⟨"LadderDesk", "hangFault", "(II)I"⟩, 6), (⟨"LadderDesk$Rings", "gatherAsks", "(LLadderDesk$Shelf;)V"⟩, 4), (⟨"LadderDesk$Rings", "gatherStopped", "(LLadderDesk$Switch;)V"⟩, 4), (⟨"LadderDesk$Rings", "measureTo", "(I)V"⟩, 4), (⟨"LadderDesk$Rings", "nearest", "(I)I"⟩, 4)]
theorem lw_r1 : ∀ q ∈ lw_privs_1, lw_okq q := List.forall_mem_cons.mpr ⟨lw_p0, List.forall_mem_cons.mpr ⟨lw_p1, List.forall_mem_cons.mpr ⟨lw_p2, List.forall_mem_cons.mpr ⟨lw_p3, List.forall_mem_cons.mpr ⟨lw_p4, List.forall_mem_cons.mpr ⟨lw_p5, List.forall_mem_cons.mpr ⟨lw_p6, List.forall_mem_cons.mpr ⟨lw_p7, List.forall_mem_cons.mpr ⟨lw_p8, List.forall_mem_cons.mpr ⟨lw_p9, List.forall_mem_cons.mpr ⟨lw_p10, List.forall_mem_cons.mpr ⟨lw_p11, List.forall_mem_cons.mpr ⟨lw_p12, List.forall_mem_cons.mpr ⟨lw_p13, List.forall_mem_cons.mpr ⟨lw_p14, List.forall_mem_cons.mpr ⟨lw_p15, fun _ h => absurd h List.not_mem_nil⟩⟩⟩⟩⟩⟩⟩⟩⟩⟩⟩⟩⟩⟩⟩⟩
theorem lw_p16 : lw_okq (⟨"LadderDesk$Rings", "keepFrom", "(I)V"⟩, 4) := ⟨⟨by decide +kernel, by decide +kernel⟩, List.mem_of_getElem? (i := 94) (by decide +kernel), List.mem_of_getElem? (i := 653) (by decide +kernel), List.mem_of_getElem? (i := 654) (by decide +kernel)⟩
theorem lw_p17 : lw_okq (⟨"LadderDesk", "refuseAtEither", "(III)I"⟩, 6) := ⟨⟨by decide +kernel, by decide +kernel⟩, List.mem_of_getElem? (i := 18) (by decide +kernel), List.mem_of_getElem? (i := 716) (by decide +kernel), List.mem_of_getElem? (i := 717) (by decide +kernel)⟩
theorem lw_p18 : lw_okq (⟨"LadderDesk$Trial", "dealsAsFarApart", "()J"⟩, 11) := ⟨⟨by decide +kernel, by decide +kernel⟩, List.mem_of_getElem? (i := 360) (by decide +kernel), List.mem_of_getElem? (i := 897) (by decide +kernel), List.mem_of_getElem? (i := 898) (by decide +kernel)⟩
theorem lw_p19 : lw_okq (⟨"LadderDesk$Trial", "isRare", "(JJ)Z"⟩, 11) := ⟨⟨by decide +kernel, by decide +kernel⟩, List.mem_of_getElem? (i := 360) (by decide +kernel), List.mem_of_getElem? (i := 910) (by decide +kernel), List.mem_of_getElem? (i := 911) (by decide +kernel)⟩
theorem lw_p20 : lw_okq (⟨"LadderDesk$Trial", "better", "()I"⟩, 11) := ⟨⟨by decide +kernel, by decide +kernel⟩, List.mem_of_getElem? (i := 360) (by decide +kernel), List.mem_of_getElem? (i := 915) (by decide +kernel), List.mem_of_getElem? (i := 916) (by decide +kernel)⟩
theorem lw_p21 : lw_okq (⟨"LadderDeskModel", "no", "(I)I"⟩, 25) := ⟨⟨by decide +kernel, by decide +kernel⟩, List.mem_of_getElem? (i := 998) (by decide +kernel), List.mem_of_getElem? (i := 1094) (by decide +kernel), List.mem_of_getElem? (i := 1095) (by decide +kernel)⟩
theorem lw_p22 : lw_okq (⟨"LadderDeskModel", "why", "(II)I"⟩, 25) := ⟨⟨by decide +kernel, by decide +kernel⟩, List.mem_of_getElem? (i := 998) (by decide +kernel), List.mem_of_getElem? (i := 1102) (by decide +kernel), List.mem_of_getElem? (i := 1103) (by decide +kernel)⟩
theorem lw_p23 : lw_okq (⟨"LadderDeskModel", "of", "(II)I"⟩, 25) := ⟨⟨by decide +kernel, by decide +kernel⟩, List.mem_of_getElem? (i := 998) (by decide +kernel), List.mem_of_getElem? (i := 1109) (by decide +kernel), List.mem_of_getElem? (i := 1110) (by decide +kernel)⟩
theorem lw_p24 : lw_okq (⟨"LadderDeskModel", "isSwitch", "(I)Z"⟩, 25) := ⟨⟨by decide +kernel, by decide +kernel⟩, List.mem_of_getElem? (i := 998) (by decide +kernel), List.mem_of_getElem? (i := 1113) (by decide +kernel), List.mem_of_getElem? (i := 1114) (by decide +kernel)⟩
theorem lw_p25 : lw_okq (⟨"LadderDeskModel", "isStepped", "(I)Z"⟩, 25) := ⟨⟨by decide +kernel, by decide +kernel⟩, List.mem_of_getElem? (i := 998) (by decide +kernel), List.mem_of_getElem? (i := 1117) (by decide +kernel), List.mem_of_getElem? (i := 1118) (by decide +kernel)⟩
theorem lw_p26 : lw_okq (⟨"LadderDeskModel", "hangs", "(I)Z"⟩, 25) := ⟨⟨by decide +kernel, by decide +kernel⟩, List.mem_of_getElem? (i := 998) (by decide +kernel), List.mem_of_getElem? (i := 1121) (by decide +kernel), List.mem_of_getElem? (i := 1122) (by decide +kernel)⟩
theorem lw_p27 : lw_okq (⟨"LadderDeskModel", "seatOf", "(I)I"⟩, 25) := ⟨⟨by decide +kernel, by decide +kernel⟩, List.mem_of_getElem? (i := 998) (by decide +kernel), List.mem_of_getElem? (i := 1125) (by decide +kernel), List.mem_of_getElem? (i := 1126) (by decide +kernel)⟩
theorem lw_p28 : lw_okq (⟨"LadderDeskModel", "findWays", "()V"⟩, 25) := ⟨⟨by decide +kernel, by decide +kernel⟩, List.mem_of_getElem? (i := 998) (by decide +kernel), List.mem_of_getElem? (i := 1134) (by decide +kernel), List.mem_of_getElem? (i := 1135) (by decide +kernel)⟩
theorem lw_p29 : lw_okq (⟨"LadderDeskModel", "isReady", "(I)Z"⟩, 25) := ⟨⟨by decide +kernel, by decide +kernel⟩, List.mem_of_getElem? (i := 998) (by decide +kernel), List.mem_of_getElem? (i := 1138) (by decide +kernel), List.mem_of_getElem? (i := 1139) (by decide +kernel)⟩
theorem lw_p30 : lw_okq (⟨"LadderDeskModel", "hangsOn", "(I)I"⟩, 25) := ⟨⟨by decide +kernel, by decide +kernel⟩, List.mem_of_getElem? (i := 998) (by decide +kernel), List.mem_of_getElem? (i := 1142) (by decide +kernel), List.mem_of_getElem? (i := 1143) (by decide +kernel)⟩
theorem lw_p31 : lw_okq (⟨"LadderDeskModel", "stops", "(II)Z"⟩, 25) := ⟨⟨by decide +kernel, by decide +kernel⟩, List.mem_of_getElem? (i := 998) (by decide +kernel), List.mem_of_getElem? (i := 1146) (by decide +kernel), List.mem_of_getElem? (i := 1147) (by decide +kernel)⟩
def lw_privs_2 : List (MethodName × Nat) := [(⟨"LadderDesk$Rings", "keepFrom", "(I)V"⟩, 4), (⟨"LadderDesk", "refuseAtEither", "(III)I"⟩, 6), (⟨"LadderDesk$Trial", "dealsAsFarApart", "()J"⟩, 11), (⟨"LadderDesk$Trial", "isRare", "(JJ)Z"⟩, 11), (⟨"LadderDesk$Trial", "better", "()I"⟩, 11), (⟨"LadderDeskModel", "no", "(I)I"⟩, 25), (⟨"LadderDeskModel", "why", "(II)I"⟩, 25), (⟨"LadderDeskModel", "of", "(II)I"⟩, 25), (⟨"LadderDeskModel", "isSwitch", "(I)Z"⟩, 25), (⟨"LadderDeskModel", "isStepped", "(I)Z"⟩, 25), (⟨"LadderDeskModel", "hangs", "(I)Z"⟩, 25), (⟨"LadderDeskModel", "seatOf", "(I)I"⟩, 25), (⟨"LadderDeskModel", "findWays", "()V"⟩, 25), (⟨"LadderDeskModel", "isReady", "(I)Z"⟩, 25), (⟨"LadderDeskModel", "hangsOn", "(I)I"⟩, 25), (⟨"LadderDeskModel", "stops", "(II)Z"⟩, 25)]
theorem lw_r2 : ∀ q ∈ lw_privs_2, lw_okq q := List.forall_mem_cons.mpr ⟨lw_p16, List.forall_mem_cons.mpr ⟨lw_p17, List.forall_mem_cons.mpr ⟨lw_p18, List.forall_mem_cons.mpr ⟨lw_p19, List.forall_mem_cons.mpr ⟨lw_p20, List.forall_mem_cons.mpr ⟨lw_p21, List.forall_mem_cons.mpr ⟨lw_p22, List.forall_mem_cons.mpr ⟨lw_p23, List.forall_mem_cons.mpr ⟨lw_p24, List.forall_mem_cons.mpr ⟨lw_p25, List.forall_mem_cons.mpr ⟨lw_p26, List.forall_mem_cons.mpr ⟨lw_p27, List.forall_mem_cons.mpr ⟨lw_p28, List.forall_mem_cons.mpr ⟨lw_p29, List.forall_mem_cons.mpr ⟨lw_p30, List.forall_mem_cons.mpr ⟨lw_p31, fun _ h => absurd h List.not_mem_nil⟩⟩⟩⟩⟩⟩⟩⟩⟩⟩⟩⟩⟩⟩⟩⟩
theorem lw_p32 : lw_okq (⟨"LadderDeskModel", "stoppedBy", "(I)I"⟩, 25) := ⟨⟨by decide +kernel, by decide +kernel⟩, List.mem_of_getElem? (i := 998) (by decide +kernel), List.mem_of_getElem? (i := 1150) (by decide +kernel), List.mem_of_getElem? (i := 1151) (by decide +kernel)⟩
theorem lw_p33 : lw_okq (⟨"LadderDeskModel", "isOther", "(I)Z"⟩, 25) := ⟨⟨by decide +kernel, by decide +kernel⟩, List.mem_of_getElem? (i := 998) (by decide +kernel), List.mem_of_getElem? (i := 1154) (by decide +kernel), List.mem_of_getElem? (i := 1155) (by decide +kernel)⟩
theorem lw_p34 : lw_okq (⟨"LadderDeskModel", "ownWay", "(I)I"⟩, 25) := ⟨⟨by decide +kernel, by decide +kernel⟩, List.mem_of_getElem? (i := 998) (by decide +kernel), List.mem_of_getElem? (i := 1158) (by decide +kernel), List.mem_of_getElem? (i := 1159) (by decide +kernel)⟩
theorem lw_p35 : lw_okq (⟨"LadderDeskModel", "ruleOf", "(I)I"⟩, 25) := ⟨⟨by decide +kernel, by decide +kernel⟩, List.mem_of_getElem? (i := 998) (by decide +kernel), List.mem_of_getElem? (i := 1162) (by decide +kernel), List.mem_of_getElem? (i := 1163) (by decide +kernel)⟩
theorem lw_p36 : lw_okq (⟨"LadderDeskModel", "wayOfSeat", "(I)I"⟩, 25) := ⟨⟨by decide +kernel, by decide +kernel⟩, List.mem_of_getElem? (i := 998) (by decide +kernel), List.mem_of_getElem? (i := 1166) (by decide +kernel), List.mem_of_getElem? (i := 1167) (by decide +kernel)⟩
theorem lw_p37 : lw_okq (⟨"LadderDeskModel", "clears", "(I)V"⟩, 25) := ⟨⟨by decide +kernel, by decide +kernel⟩, List.mem_of_getElem? (i := 998) (by decide +kernel), List.mem_of_getElem? (i := 1180) (by decide +kernel), List.mem_of_getElem? (i := 1181) (by decide +kernel)⟩
theorem lw_p38 : lw_okq (⟨"LadderDeskModel", "to", "(III)V"⟩, 25) := ⟨⟨by decide +kernel, by decide +kernel⟩, List.mem_of_getElem? (i := 998) (by decide +kernel), List.mem_of_getElem? (i := 1184) (by decide +kernel), List.mem_of_getElem? (i := 1185) (by decide +kernel)⟩
theorem lw_p39 : lw_okq (⟨"LadderDeskModel", "goesOver", "(IIII)Z"⟩, 25) := ⟨⟨by decide +kernel, by decide +kernel⟩, List.mem_of_getElem? (i := 998) (by decide +kernel), List.mem_of_getElem? (i := 1217) (by decide +kernel), List.mem_of_getElem? (i := 1218) (by decide +kernel)⟩
theorem lw_p40 : lw_okq (⟨"LadderDeskModel", "isRing", "()Z"⟩, 25) := ⟨⟨by decide +kernel, by decide +kernel⟩, List.mem_of_getElem? (i := 998) (by decide +kernel), List.mem_of_getElem? (i := 1229) (by decide +kernel), List.mem_of_getElem? (i := 1230) (by decide +kernel)⟩
theorem lw_p41 : lw_okq (⟨"LadderDeskModel", "findFar", "(I)V"⟩, 25) := ⟨⟨by decide +kernel, by decide +kernel⟩, List.mem_of_getElem? (i := 998) (by decide +kernel), List.mem_of_getElem? (i := 1233) (by decide +kernel), List.mem_of_getElem? (i := 1234) (by decide +kernel)⟩
theorem lw_p42 : lw_okq (⟨"LadderDeskModel", "asks", "(II)Z"⟩, 25) := ⟨⟨by decide +kernel, by decide +kernel⟩, List.mem_of_getElem? (i := 998) (by decide +kernel), List.mem_of_getElem? (i := 1237) (by decide +kernel), List.mem_of_getElem? (i := 1238) (by decide +kernel)⟩
theorem lw_p43 : lw_okq (⟨"LadderDeskModel", "nextOn", "(II)I"⟩, 25) := ⟨⟨by decide +kernel, by decide +kernel⟩, List.mem_of_getElem? (i := 998) (by decide +kernel), List.mem_of_getElem? (i := 1241) (by decide +kernel), List.mem_of_getElem? (i := 1242) (by decide +kernel)⟩
theorem lw_p44 : lw_okq (⟨"LadderDeskModel", "whyTwo", "(III)I"⟩, 25) := ⟨⟨by decide +kernel, by decide +kernel⟩, List.mem_of_getElem? (i := 998) (by decide +kernel), List.mem_of_getElem? (i := 1271) (by decide +kernel), List.mem_of_getElem? (i := 1272) (by decide +kernel)⟩
theorem lw_p45 : lw_okq (⟨"LadderDeskModel", "whyNoGrowth", "(II)I"⟩, 25) := ⟨⟨by decide +kernel, by decide +kernel⟩, List.mem_of_getElem? (i := 998) (by decide +kernel), List.mem_of_getElem? (i := 1282) (by decide +kernel), List.mem_of_getElem? (i := 1283) (by decide +kernel)⟩
theorem lw_p46 : lw_okq (⟨"LadderDeskModel", "window", "(II)V"⟩, 25) := ⟨⟨by decide +kernel, by decide +kernel⟩, List.mem_of_getElem? (i := 998) (by decide +kernel), List.mem_of_getElem? (i := 1286) (by decide +kernel), List.mem_of_getElem? (i := 1287) (by decide +kernel)⟩
theorem lw_p47 : lw_okq (⟨"LadderDeskModel", "isSpent", "(II)Z"⟩, 25) := ⟨⟨by decide +kernel, by decide +kernel⟩, List.mem_of_getElem? (i := 998) (by decide +kernel), List.mem_of_getElem? (i := 1293) (by decide +kernel), List.mem_of_getElem? (i := 1294) (by decide +kernel)⟩
def lw_privs_3 : List (MethodName × Nat) := [(⟨"LadderDeskModel", "stoppedBy", "(I)I"⟩, 25), (⟨"LadderDeskModel", "isOther", "(I)Z"⟩, 25), (⟨"LadderDeskModel", "ownWay", "(I)I"⟩, 25), (⟨"LadderDeskModel", "ruleOf", "(I)I"⟩, 25), (⟨"LadderDeskModel", "wayOfSeat", "(I)I"⟩, 25), (⟨"LadderDeskModel", "clears", "(I)V"⟩, 25), (⟨"LadderDeskModel", "to", "(III)V"⟩, 25), (⟨"LadderDeskModel", "goesOver", "(IIII)Z"⟩, 25), (⟨"LadderDeskModel", "isRing", "()Z"⟩, 25), (⟨"LadderDeskModel", "findFar", "(I)V"⟩, 25), (⟨"LadderDeskModel", "asks", "(II)Z"⟩, 25), (⟨"LadderDeskModel", "nextOn", "(II)I"⟩, 25), (⟨"LadderDeskModel", "whyTwo", "(III)I"⟩, 25), (⟨"LadderDeskModel", "whyNoGrowth", "(II)I"⟩, 25), (⟨"LadderDeskModel", "window", "(II)V"⟩, 25), (⟨"LadderDeskModel", "isSpent", "(II)Z"⟩, 25)]
theorem lw_r3 : ∀ q ∈ lw_privs_3, lw_okq q := List.forall_mem_cons.mpr ⟨lw_p32, List.forall_mem_cons.mpr ⟨lw_p33, List.forall_mem_cons.mpr ⟨lw_p34, List.forall_mem_cons.mpr ⟨lw_p35, List.forall_mem_cons.mpr ⟨lw_p36, List.forall_mem_cons.mpr ⟨lw_p37, List.forall_mem_cons.mpr ⟨lw_p38, List.forall_mem_cons.mpr ⟨lw_p39, List.forall_mem_cons.mpr ⟨lw_p40, List.forall_mem_cons.mpr ⟨lw_p41, List.forall_mem_cons.mpr ⟨lw_p42, List.forall_mem_cons.mpr ⟨lw_p43, List.forall_mem_cons.mpr ⟨lw_p44, List.forall_mem_cons.mpr ⟨lw_p45, List.forall_mem_cons.mpr ⟨lw_p46, List.forall_mem_cons.mpr ⟨lw_p47, fun _ h => absurd h List.not_mem_nil⟩⟩⟩⟩⟩⟩⟩⟩⟩⟩⟩⟩⟩⟩⟩⟩
theorem lw_p48 : lw_okq (⟨"LadderDeskModel", "goesTo", "(II)V"⟩, 25) := ⟨⟨by decide +kernel, by decide +kernel⟩, List.mem_of_getElem? (i := 998) (by decide +kernel), List.mem_of_getElem? (i := 1301) (by decide +kernel), List.mem_of_getElem? (i := 1302) (by decide +kernel)⟩
theorem lw_p49 : lw_okq (⟨"LadderDeskModel", "whyCounts", "(III)I"⟩, 25) := ⟨⟨by decide +kernel, by decide +kernel⟩, List.mem_of_getElem? (i := 998) (by decide +kernel), List.mem_of_getElem? (i := 1325) (by decide +kernel), List.mem_of_getElem? (i := 1326) (by decide +kernel)⟩
theorem lw_p50 : lw_okq (⟨"LadderDeskModel", "sums", "(II)V"⟩, 25) := ⟨⟨by decide +kernel, by decide +kernel⟩, List.mem_of_getElem? (i := 998) (by decide +kernel), List.mem_of_getElem? (i := 1357) (by decide +kernel), List.mem_of_getElem? (i := 1358) (by decide +kernel)⟩
theorem lw_p51 : lw_okq (⟨"LadderDeskModel", "chances", "()V"⟩, 25) := ⟨⟨by decide +kernel, by decide +kernel⟩, List.mem_of_getElem? (i := 998) (by decide +kernel), List.mem_of_getElem? (i := 1361) (by decide +kernel), List.mem_of_getElem? (i := 1362) (by decide +kernel)⟩
theorem lw_p52 : lw_okq (⟨"LadderDeskModel", "millionths", "()I"⟩, 25) := ⟨⟨by decide +kernel, by decide +kernel⟩, List.mem_of_getElem? (i := 998) (by decide +kernel), List.mem_of_getElem? (i := 1368) (by decide +kernel), List.mem_of_getElem? (i := 1369) (by decide +kernel)⟩
theorem lw_p53 : lw_okq (⟨"LadderDeskModel", "whyAmong", "(II)I"⟩, 25) := ⟨⟨by decide +kernel, by decide +kernel⟩, List.mem_of_getElem? (i := 998) (by decide +kernel), List.mem_of_getElem? (i := 1391) (by decide +kernel), List.mem_of_getElem? (i := 1392) (by decide +kernel)⟩
theorem lw_p54 : lw_okq (⟨"LadderDeskModel", "switches", "()I"⟩, 25) := ⟨⟨by decide +kernel, by decide +kernel⟩, List.mem_of_getElem? (i := 998) (by decide +kernel), List.mem_of_getElem? (i := 1408) (by decide +kernel), List.mem_of_getElem? (i := 1409) (by decide +kernel)⟩
def lw_privs_4 : List (MethodName × Nat) := [(⟨"LadderDeskModel", "goesTo", "(II)V"⟩, 25), (⟨"LadderDeskModel", "whyCounts", "(III)I"⟩, 25), (⟨"LadderDeskModel", "sums", "(II)V"⟩, 25), (⟨"LadderDeskModel", "chances", "()V"⟩, 25), (⟨"LadderDeskModel", "millionths", "()I"⟩, 25), (⟨"LadderDeskModel", "whyAmong", "(II)I"⟩, 25), (⟨"LadderDeskModel", "switches", "()I"⟩, 25)]
theorem lw_r4 : ∀ q ∈ lw_privs_4, lw_okq q := List.forall_mem_cons.mpr ⟨lw_p48, List.forall_mem_cons.mpr ⟨lw_p49, List.forall_mem_cons.mpr ⟨lw_p50, List.forall_mem_cons.mpr ⟨lw_p51, List.forall_mem_cons.mpr ⟨lw_p52, List.forall_mem_cons.mpr ⟨lw_p53, List.forall_mem_cons.mpr ⟨lw_p54, fun _ h => absurd h List.not_mem_nil⟩⟩⟩⟩⟩⟩⟩
def lw_privs : List (MethodName × Nat) := lw_privs_1 ++ (lw_privs_2 ++ (lw_privs_3 ++ (lw_privs_4)))
def lw_tbl : List Cond := k2_sels lw_privs ++ tables_1
theorem lw_privs_ok : ∀ q ∈ lw_privs, lw_okq q := by
  show ∀ q ∈ lw_privs_1 ++ (lw_privs_2 ++ (lw_privs_3 ++ (lw_privs_4))), lw_okq q
  exact List.forall_mem_append.mpr ⟨lw_r1, List.forall_mem_append.mpr ⟨lw_r2, List.forall_mem_append.mpr ⟨lw_r3, lw_r4⟩⟩⟩
end
section
def RX0 : String := "LadderDesk$Budget"
def TX0 : u_T := fun k => match k with
  | 0 => ("LadderDesk$Budget", "window", "I", false)
  | 1 => ("LadderDesk$Budget", "enough", "I", false)
  | 2 => ("LadderDesk$Budget", "part", "I", false)
  | 3 => ("LadderDesk$Budget", "toNone", "Z", false)
  | 4 => ("LadderDesk$Budget", "wait", "I", false)
  | 5 => ("LadderDesk$Budget", "waitsTo", "I", false)
  | _ => ("LadderDesk$Budget", "timesSpent", "I", false)
def tyX0 : Nat → FieldType := fun k => match k with
  | 0 => .int
  | 1 => .int
  | 2 => .int
  | 3 => .boolean
  | 4 => .int
  | 5 => .int
  | _ => .int
abbrev wsX00 : List Cond := u_ws RX0 TX0 7
theorem nmX0 : ∀ a, a < 7 → ∀ b, b < 7 → a ≠ b → (TX0 a).2.1 ≠ (TX0 b).2.1 := by decide +kernel
theorem tyX0_ok : ∀ k, k < 7 → parseFieldDescriptor (TX0 k).2.2.1 = some (tyX0 k) := by decide +kernel
abbrev cX0_init : ByteArray := prog_2_method_1_code
def yX0_init : MethodName := ⟨RX0, "<init>", "()V"⟩
abbrev cX0_begin : ByteArray := prog_2_method_2_code
def yX0_begin : MethodName := ⟨RX0, "begin", "()V"⟩
abbrev cX0_takeFrom : ByteArray := prog_2_method_3_code
def yX0_takeFrom : MethodName := ⟨RX0, "takeFrom", "(LLadderDesk$Budget;)V"⟩
abbrev cX0_set : ByteArray := prog_2_method_4_code
def yX0_set : MethodName := ⟨RX0, "set", "(IIIZ)V"⟩
abbrev cX0_windowStart : ByteArray := prog_2_method_5_code
def yX0_windowStart : MethodName := ⟨RX0, "windowStart", "(I)I"⟩
abbrev cX0_faultOf : ByteArray := prog_2_method_6_code
def yX0_faultOf : MethodName := ⟨RX0, "faultOf", "(LLadderDesk$CountRow;I)I"⟩
abbrev cX0_faultsLeft : ByteArray := prog_2_method_7_code
def yX0_faultsLeft : MethodName := ⟨RX0, "faultsLeft", "(LLadderDesk$CountRow;I)I"⟩
abbrev cX0_noteSpent : ByteArray := prog_2_method_8_code
def yX0_noteSpent : MethodName := ⟨RX0, "noteSpent", "(I)V"⟩
def RX1 : String := "LadderDesk$Callers"
def TX1 : u_T := fun k => match k with
  | 0 => ("LadderDesk$Callers", "number", "I", false)
  | 1 => ("LadderDesk$Callers", "land", "I", false)
  | 2 => ("LadderDesk$Callers", "age", "I", false)
  | 3 => ("LadderDesk$Callers", "sort", "I", false)
  | 4 => ("LadderDesk$Callers", "asked", "I", false)
  | 5 => ("LadderDesk$Callers", "stopsOn", "I", false)
  | 6 => ("LadderDesk$Callers", "known", "I", false)
  | _ => ("LadderDesk$Callers", "ways", "[I", true)
def tyX1 : Nat → FieldType := fun k => match k with
  | 0 => .int
  | 1 => .int
  | 2 => .int
  | 3 => .int
  | 4 => .int
  | 5 => .int
  | 6 => .int
  | _ => .array .int
abbrev wsX10 : List Cond := u_ws RX1 TX1 8
theorem nmX1 : ∀ a, a < 8 → ∀ b, b < 8 → a ≠ b → (TX1 a).2.1 ≠ (TX1 b).2.1 := by decide +kernel
theorem tyX1_ok : ∀ k, k < 8 → parseFieldDescriptor (TX1 k).2.2.1 = some (tyX1 k) := by decide +kernel
abbrev cX1_init : ByteArray := prog_3_method_1_code
def yX1_init : MethodName := ⟨RX1, "<init>", "()V"⟩
abbrev cX1_become : ByteArray := prog_3_method_2_code
def yX1_become : MethodName := ⟨RX1, "become", "(IIII)V"⟩
abbrev cX1_markOf : ByteArray := prog_3_method_3_code
def yX1_markOf : MethodName := ⟨RX1, "markOf", "(I)I"⟩
abbrev cX1_begin : ByteArray := prog_3_method_4_code
def yX1_begin : MethodName := ⟨RX1, "begin", "(LLadderDesk$Shelf;)V"⟩
abbrev cX1_ask : ByteArray := prog_3_method_5_code
def yX1_ask : MethodName := ⟨RX1, "ask", "(I)V"⟩
abbrev cX1_wayAt : ByteArray := prog_3_method_6_code
def yX1_wayAt : MethodName := ⟨RX1, "wayAt", "(LLadderDesk$Shelf;II)I"⟩
abbrev cX1_whyAt : ByteArray := prog_3_method_7_code
def yX1_whyAt : MethodName := ⟨RX1, "whyAt", "(LLadderDesk$Shelf;II)I"⟩
abbrev cX1_wayBy : ByteArray := prog_3_method_8_code
def yX1_wayBy : MethodName := ⟨RX1, "wayBy", "(LLadderDesk$Switch;I)I"⟩
abbrev cX1_stopOf : ByteArray := prog_3_method_9_code
def yX1_stopOf : MethodName := ⟨RX1, "stopOf", "(LLadderDesk$Shelf;II)I"⟩
abbrev cX1_hangHolds : ByteArray := prog_3_method_10_code
def yX1_hangHolds : MethodName := ⟨RX1, "hangHolds", "(LLadderDesk$Shelf;LLadderDesk$Switch;I)Z"⟩
def RX2 : String := "LadderDesk$CountRow"
def TX2 : u_T := fun k => match k with
  | 0 => ("LadderDesk$CountRow", "isThere", "Z", false)
  | 1 => ("LadderDesk$CountRow", "end", "I", false)
  | 2 => ("LadderDesk$CountRow", "calls", "[I", true)
  | 3 => ("LadderDesk$CountRow", "faults", "[I", true)
  | _ => ("LadderDesk$CountRow", "goods", "[I", true)
def tyX2 : Nat → FieldType := fun k => match k with
  | 0 => .boolean
  | 1 => .int
  | 2 => .array .int
  | 3 => .array .int
  | _ => .array .int
abbrev wsX20 : List Cond := u_ws RX2 TX2 5
theorem nmX2 : ∀ a, a < 5 → ∀ b, b < 5 → a ≠ b → (TX2 a).2.1 ≠ (TX2 b).2.1 := by decide +kernel
theorem tyX2_ok : ∀ k, k < 5 → parseFieldDescriptor (TX2 k).2.2.1 = some (tyX2 k) := by decide +kernel
abbrev cX2_init : ByteArray := prog_4_method_1_code
def yX2_init : MethodName := ⟨RX2, "<init>", "()V"⟩
abbrev cX2_begin : ByteArray := prog_4_method_2_code
def yX2_begin : MethodName := ⟨RX2, "begin", "(Z)V"⟩
abbrev cX2_takeFrom : ByteArray := prog_4_method_3_code
def yX2_takeFrom : MethodName := ⟨RX2, "takeFrom", "(LLadderDesk$CountRow;)V"⟩
abbrev cX2_isTold : ByteArray := prog_4_method_4_code
def yX2_isTold : MethodName := ⟨RX2, "isTold", "(I)Z"⟩
abbrev cX2_areTold : ByteArray := prog_4_method_5_code
def yX2_areTold : MethodName := ⟨RX2, "areTold", "(II)Z"⟩
abbrev cX2_tell : ByteArray := prog_4_method_6_code
def yX2_tell : MethodName := ⟨RX2, "tell", "(III)V"⟩
abbrev cX2_tellGoods : ByteArray := prog_4_method_7_code
def yX2_tellGoods : MethodName := ⟨RX2, "tellGoods", "(II)V"⟩
abbrev cX2_callsAt : ByteArray := prog_4_method_8_code
def yX2_callsAt : MethodName := ⟨RX2, "callsAt", "(I)I"⟩
abbrev cX2_faultsAt : ByteArray := prog_4_method_9_code
def yX2_faultsAt : MethodName := ⟨RX2, "faultsAt", "(I)I"⟩
abbrev cX2_goodsAt : ByteArray := prog_4_method_10_code
def yX2_goodsAt : MethodName := ⟨RX2, "goodsAt", "(I)I"⟩
abbrev cX2_callsIn : ByteArray := prog_4_method_11_code
def yX2_callsIn : MethodName := ⟨RX2, "callsIn", "(II)J"⟩
abbrev cX2_faultsIn : ByteArray := prog_4_method_12_code
def yX2_faultsIn : MethodName := ⟨RX2, "faultsIn", "(II)J"⟩
abbrev cX2_callsBeside : ByteArray := prog_4_method_13_code
def yX2_callsBeside : MethodName := ⟨RX2, "callsBeside", "(LLadderDesk$CountRow;I)I"⟩
abbrev cX2_goodsBeside : ByteArray := prog_4_method_14_code
def yX2_goodsBeside : MethodName := ⟨RX2, "goodsBeside", "(LLadderDesk$CountRow;I)I"⟩
def RX3 : String := "LadderDesk$Ladder"
def TX3 : u_T := fun k => match k with
  | 0 => ("LadderDesk$Ladder", "steps", "[I", true)
  | 1 => ("LadderDesk$Ladder", "length", "I", false)
  | _ => ("LadderDesk$Ladder", "stands", "I", false)
def tyX3 : Nat → FieldType := fun k => match k with
  | 0 => .array .int
  | 1 => .int
  | _ => .int
abbrev wsX30 : List Cond := u_ws RX3 TX3 3
theorem nmX3 : ∀ a, a < 3 → ∀ b, b < 3 → a ≠ b → (TX3 a).2.1 ≠ (TX3 b).2.1 := by decide +kernel
theorem tyX3_ok : ∀ k, k < 3 → parseFieldDescriptor (TX3 k).2.2.1 = some (tyX3 k) := by decide +kernel
abbrev cX3_init : ByteArray := prog_5_method_1_code
def yX3_init : MethodName := ⟨RX3, "<init>", "()V"⟩
abbrev cX3_begin : ByteArray := prog_5_method_2_code
def yX3_begin : MethodName := ⟨RX3, "begin", "()V"⟩
abbrev cX3_takeFrom : ByteArray := prog_5_method_3_code
def yX3_takeFrom : MethodName := ⟨RX3, "takeFrom", "(LLadderDesk$Ladder;)V"⟩
abbrev cX3_hasRow : ByteArray := prog_5_method_4_code
def yX3_hasRow : MethodName := ⟨RX3, "hasRow", "()Z"⟩
abbrev cX3_isStoodOn : ByteArray := prog_5_method_5_code
def yX3_isStoodOn : MethodName := ⟨RX3, "isStoodOn", "()Z"⟩
abbrev cX3_layRow : ByteArray := prog_5_method_6_code
def yX3_layRow : MethodName := ⟨RX3, "layRow", "(I)V"⟩
abbrev cX3_dropRow : ByteArray := prog_5_method_7_code
def yX3_dropRow : MethodName := ⟨RX3, "dropRow", "()Z"⟩
abbrev cX3_hasStep : ByteArray := prog_5_method_8_code
def yX3_hasStep : MethodName := ⟨RX3, "hasStep", "(I)Z"⟩
abbrev cX3_hasSteps : ByteArray := prog_5_method_9_code
def yX3_hasSteps : MethodName := ⟨RX3, "hasSteps", "(II)Z"⟩
abbrev cX3_stepAt : ByteArray := prog_5_method_10_code
def yX3_stepAt : MethodName := ⟨RX3, "stepAt", "(I)I"⟩
abbrev cX3_setStep : ByteArray := prog_5_method_11_code
def yX3_setStep : MethodName := ⟨RX3, "setStep", "(II)V"⟩
abbrev cX3_copySteps : ByteArray := prog_5_method_12_code
def yX3_copySteps : MethodName := ⟨RX3, "copySteps", "(LLadderDesk$Ladder;III)V"⟩
def RX4 : String := "LadderDesk$Place"
def TX4 : u_T := fun k => match k with
  | 0 => ("LadderDesk$Place", "held", "LLadderDesk$Switch;", false)
  | 1 => ("LadderDesk$Place", "isNote", "Z", false)
  | 2 => ("LadderDesk$Place", "text", "J", false)
  | _ => ("LadderDesk$Place", "spare", "LLadderDesk$Switch;", false)
def tyX4 : Nat → FieldType := fun k => match k with
  | 0 => .object "LadderDesk$Switch"
  | 1 => .boolean
  | 2 => .long
  | _ => .object "LadderDesk$Switch"
abbrev wsX40 : List Cond := u_ws RX4 TX4 4
theorem nmX4 : ∀ a, a < 4 → ∀ b, b < 4 → a ≠ b → (TX4 a).2.1 ≠ (TX4 b).2.1 := by decide +kernel
theorem tyX4_ok : ∀ k, k < 4 → parseFieldDescriptor (TX4 k).2.2.1 = some (tyX4 k) := by decide +kernel
abbrev cX4_init : ByteArray := prog_6_method_1_code
def yX4_init : MethodName := ⟨RX4, "<init>", "()V"⟩
abbrev cX4_content : ByteArray := prog_6_method_2_code
def yX4_content : MethodName := ⟨RX4, "content", "()I"⟩
abbrev cX4_putSwitch : ByteArray := prog_6_method_3_code
def yX4_putSwitch : MethodName := ⟨RX4, "putSwitch", "(III)V"⟩
abbrev cX4_putNote : ByteArray := prog_6_method_4_code
def yX4_putNote : MethodName := ⟨RX4, "putNote", "(J)V"⟩
abbrev cX4_clear : ByteArray := prog_6_method_5_code
def yX4_clear : MethodName := ⟨RX4, "clear", "()Z"⟩
abbrev cX4_takeFrom : ByteArray := prog_6_method_6_code
def yX4_takeFrom : MethodName := ⟨RX4, "takeFrom", "(LLadderDesk$Place;)V"⟩
abbrev cX4_spareSwitch : ByteArray := prog_6_method_7_code
def yX4_spareSwitch : MethodName := ⟨RX4, "spareSwitch", "()LLadderDesk$Switch;"⟩
def RX5 : String := "LadderDesk$Rings"
def TX5 : u_T := fun k => match k with
  | 0 => ("LadderDesk$Rings", "asks", "[I", true)
  | 1 => ("LadderDesk$Rings", "far", "[I", true)
  | 2 => ("LadderDesk$Rings", "members", "[I", true)
  | _ => ("LadderDesk$Rings", "size", "I", false)
def tyX5 : Nat → FieldType := fun k => match k with
  | 0 => .array .int
  | 1 => .array .int
  | 2 => .array .int
  | _ => .int
abbrev wsX50 : List Cond := u_ws RX5 TX5 4
theorem nmX5 : ∀ a, a < 4 → ∀ b, b < 4 → a ≠ b → (TX5 a).2.1 ≠ (TX5 b).2.1 := by decide +kernel
theorem tyX5_ok : ∀ k, k < 4 → parseFieldDescriptor (TX5 k).2.2.1 = some (tyX5 k) := by decide +kernel
abbrev cX5_init : ByteArray := prog_7_method_1_code
def yX5_init : MethodName := ⟨RX5, "<init>", "()V"⟩
abbrev cX5_memberAt : ByteArray := prog_7_method_2_code
def yX5_memberAt : MethodName := ⟨RX5, "memberAt", "(I)I"⟩
abbrev cX5_findIn : ByteArray := prog_7_method_3_code
def yX5_findIn : MethodName := ⟨RX5, "findIn", "(LLadderDesk$Shelf;)Z"⟩
abbrev cX5_gatherAsks : ByteArray := prog_7_method_4_code
def yX5_gatherAsks : MethodName := ⟨RX5, "gatherAsks", "(LLadderDesk$Shelf;)V"⟩
abbrev cX5_gatherStopped : ByteArray := prog_7_method_5_code
def yX5_gatherStopped : MethodName := ⟨RX5, "gatherStopped", "(LLadderDesk$Switch;)V"⟩
abbrev cX5_measureTo : ByteArray := prog_7_method_6_code
def yX5_measureTo : MethodName := ⟨RX5, "measureTo", "(I)V"⟩
abbrev cX5_nearest : ByteArray := prog_7_method_7_code
def yX5_nearest : MethodName := ⟨RX5, "nearest", "(I)I"⟩
abbrev cX5_keepFrom : ByteArray := prog_7_method_8_code
def yX5_keepFrom : MethodName := ⟨RX5, "keepFrom", "(I)V"⟩
def RX6 : String := "LadderDesk$Rules"
def TX6 : u_T := fun k => match k with
  | 0 => ("LadderDesk$Rules", "size", "I", false)
  | 1 => ("LadderDesk$Rules", "marks", "[I", true)
  | 2 => ("LadderDesk$Rules", "lows", "[I", true)
  | 3 => ("LadderDesk$Rules", "highs", "[I", true)
  | _ => ("LadderDesk$Rules", "ways", "[I", true)
def tyX6 : Nat → FieldType := fun k => match k with
  | 0 => .int
  | 1 => .array .int
  | 2 => .array .int
  | 3 => .array .int
  | _ => .array .int
abbrev wsX60 : List Cond := u_ws RX6 TX6 5
theorem nmX6 : ∀ a, a < 5 → ∀ b, b < 5 → a ≠ b → (TX6 a).2.1 ≠ (TX6 b).2.1 := by decide +kernel
theorem tyX6_ok : ∀ k, k < 5 → parseFieldDescriptor (TX6 k).2.2.1 = some (tyX6 k) := by decide +kernel
abbrev cX6_init : ByteArray := prog_8_method_1_code
def yX6_init : MethodName := ⟨RX6, "<init>", "()V"⟩
abbrev cX6_begin : ByteArray := prog_8_method_2_code
def yX6_begin : MethodName := ⟨RX6, "begin", "()V"⟩
abbrev cX6_takeFrom : ByteArray := prog_8_method_3_code
def yX6_takeFrom : MethodName := ⟨RX6, "takeFrom", "(LLadderDesk$Rules;)V"⟩
abbrev cX6_add : ByteArray := prog_8_method_4_code
def yX6_add : MethodName := ⟨RX6, "add", "(IIII)I"⟩
abbrev cX6_dropLast : ByteArray := prog_8_method_5_code
def yX6_dropLast : MethodName := ⟨RX6, "dropLast", "()I"⟩
abbrev cX6_firstFor : ByteArray := prog_8_method_6_code
def yX6_firstFor : MethodName := ⟨RX6, "firstFor", "(LLadderDesk$Callers;)I"⟩
abbrev cX6_wayOfRule : ByteArray := prog_8_method_7_code
def yX6_wayOfRule : MethodName := ⟨RX6, "wayOfRule", "(I)I"⟩
def RX7 : String := "LadderDesk$Shares"
def TX7 : u_T := fun k => match k with
  | 0 => ("LadderDesk$Shares", "firsts", "[I", true)
  | _ => ("LadderDesk$Shares", "sizes", "[I", true)
def tyX7 : Nat → FieldType := fun k => match k with
  | 0 => .array .int
  | _ => .array .int
abbrev wsX70 : List Cond := u_ws RX7 TX7 2
theorem nmX7 : ∀ a, a < 2 → ∀ b, b < 2 → a ≠ b → (TX7 a).2.1 ≠ (TX7 b).2.1 := by decide +kernel
theorem tyX7_ok : ∀ k, k < 2 → parseFieldDescriptor (TX7 k).2.2.1 = some (tyX7 k) := by decide +kernel
abbrev cX7_init : ByteArray := prog_9_method_1_code
def yX7_init : MethodName := ⟨RX7, "<init>", "()V"⟩
abbrev cX7_begin : ByteArray := prog_9_method_2_code
def yX7_begin : MethodName := ⟨RX7, "begin", "()V"⟩
abbrev cX7_takeFrom : ByteArray := prog_9_method_3_code
def yX7_takeFrom : MethodName := ⟨RX7, "takeFrom", "(LLadderDesk$Shares;)V"⟩
abbrev cX7_firstOf : ByteArray := prog_9_method_4_code
def yX7_firstOf : MethodName := ⟨RX7, "firstOf", "(I)I"⟩
abbrev cX7_sizeOf : ByteArray := prog_9_method_5_code
def yX7_sizeOf : MethodName := ⟨RX7, "sizeOf", "(I)I"⟩
abbrev cX7_put : ByteArray := prog_9_method_6_code
def yX7_put : MethodName := ⟨RX7, "put", "(III)V"⟩
abbrev cX7_fits : ByteArray := prog_9_method_7_code
def yX7_fits : MethodName := ⟨RX7, "fits", "(III)Z"⟩
abbrev cX7_goesOver : ByteArray := prog_9_method_8_code
def yX7_goesOver : MethodName := ⟨RX7, "goesOver", "(III)Z"⟩
abbrev cX7_wayOfSeat : ByteArray := prog_9_method_9_code
def yX7_wayOfSeat : MethodName := ⟨RX7, "wayOfSeat", "(I)I"⟩
abbrev cX7_wouldMove : ByteArray := prog_9_method_10_code
def yX7_wouldMove : MethodName := ⟨RX7, "wouldMove", "(II)Z"⟩
def RX8 : String := "LadderDesk$Shelf"
def TX8 : u_T := fun k => match k with
  | _ => ("LadderDesk$Shelf", "places", "[LLadderDesk$Place;", true)
def tyX8 : Nat → FieldType := fun k => match k with
  | _ => .array (.object "LadderDesk$Place")
abbrev wsX80 : List Cond := u_ws RX8 TX8 1
theorem nmX8 : ∀ a, a < 1 → ∀ b, b < 1 → a ≠ b → (TX8 a).2.1 ≠ (TX8 b).2.1 := by decide +kernel
theorem tyX8_ok : ∀ k, k < 1 → parseFieldDescriptor (TX8 k).2.2.1 = some (tyX8 k) := by decide +kernel
abbrev cX8_init : ByteArray := prog_10_method_1_code
def yX8_init : MethodName := ⟨RX8, "<init>", "()V"⟩
abbrev cX8_placeAt : ByteArray := prog_10_method_2_code
def yX8_placeAt : MethodName := ⟨RX8, "placeAt", "(I)LLadderDesk$Place;"⟩
abbrev cX8_switchAt : ByteArray := prog_10_method_3_code
def yX8_switchAt : MethodName := ⟨RX8, "switchAt", "(I)LLadderDesk$Switch;"⟩
abbrev cX8_find : ByteArray := prog_10_method_4_code
def yX8_find : MethodName := ⟨RX8, "find", "(II)LLadderDesk$Switch;"⟩
abbrev cX8_faultAt : ByteArray := prog_10_method_5_code
def yX8_faultAt : MethodName := ⟨RX8, "faultAt", "(II)I"⟩
abbrev cX8_switchCount : ByteArray := prog_10_method_6_code
def yX8_switchCount : MethodName := ⟨RX8, "switchCount", "()I"⟩
abbrev cX8_takeFrom : ByteArray := prog_10_method_7_code
def yX8_takeFrom : MethodName := ⟨RX8, "takeFrom", "(LLadderDesk$Shelf;)V"⟩
def RX9 : String := "LadderDesk$Switch"
def TX9 : u_T := fun k => match k with
  | 0 => ("LadderDesk$Switch", "kind", "I", false)
  | 1 => ("LadderDesk$Switch", "a", "I", false)
  | 2 => ("LadderDesk$Switch", "b", "I", false)
  | 3 => ("LadderDesk$Switch", "rules", "LLadderDesk$Rules;", true)
  | 4 => ("LadderDesk$Switch", "shares", "LLadderDesk$Shares;", true)
  | 5 => ("LadderDesk$Switch", "on", "I", false)
  | 6 => ("LadderDesk$Switch", "onWay", "I", false)
  | 7 => ("LadderDesk$Switch", "stopSet", "I", false)
  | 8 => ("LadderDesk$Switch", "isOn", "Z", false)
  | 9 => ("LadderDesk$Switch", "ladder", "LLadderDesk$Ladder;", true)
  | 10 => ("LadderDesk$Switch", "budget", "LLadderDesk$Budget;", true)
  | 11 => ("LadderDesk$Switch", "trial", "LLadderDesk$Trial;", true)
  | _ => ("LadderDesk$Switch", "rows", "[LLadderDesk$CountRow;", true)
def tyX9 : Nat → FieldType := fun k => match k with
  | 0 => .int
  | 1 => .int
  | 2 => .int
  | 3 => .object "LadderDesk$Rules"
  | 4 => .object "LadderDesk$Shares"
  | 5 => .int
  | 6 => .int
  | 7 => .int
  | 8 => .boolean
  | 9 => .object "LadderDesk$Ladder"
  | 10 => .object "LadderDesk$Budget"
  | 11 => .object "LadderDesk$Trial"
  | _ => .array (.object "LadderDesk$CountRow")
abbrev wsX90 : List Cond := u_ws RX9 TX9 13
theorem nmX9 : ∀ a, a < 13 → ∀ b, b < 13 → a ≠ b → (TX9 a).2.1 ≠ (TX9 b).2.1 := by decide +kernel
theorem tyX9_ok : ∀ k, k < 13 → parseFieldDescriptor (TX9 k).2.2.1 = some (tyX9 k) := by decide +kernel
abbrev cX9_init : ByteArray := prog_11_method_1_code
def yX9_init : MethodName := ⟨RX9, "<init>", "()V"⟩
abbrev cX9_begin : ByteArray := prog_11_method_2_code
def yX9_begin : MethodName := ⟨RX9, "begin", "(III)V"⟩
abbrev cX9_takeFrom : ByteArray := prog_11_method_3_code
def yX9_takeFrom : MethodName := ⟨RX9, "takeFrom", "(LLadderDesk$Switch;)V"⟩
abbrev cX9_seatOf : ByteArray := prog_11_method_4_code
def yX9_seatOf : MethodName := ⟨RX9, "seatOf", "(I)I"⟩
abbrev cX9_hangOn : ByteArray := prog_11_method_5_code
def yX9_hangOn : MethodName := ⟨RX9, "hangOn", "(II)V"⟩
abbrev cX9_isStopOf : ByteArray := prog_11_method_6_code
def yX9_isStopOf : MethodName := ⟨RX9, "isStopOf", "(I)Z"⟩
abbrev cX9_rowOf : ByteArray := prog_11_method_7_code
def yX9_rowOf : MethodName := ⟨RX9, "rowOf", "(I)LLadderDesk$CountRow;"⟩
abbrev cX9_beginRow : ByteArray := prog_11_method_8_code
def yX9_beginRow : MethodName := ⟨RX9, "beginRow", "(IZ)V"⟩
abbrev cX9_standOn : ByteArray := prog_11_method_9_code
def yX9_standOn : MethodName := ⟨RX9, "standOn", "(I)V"⟩
abbrev cX9_growFault : ByteArray := prog_11_method_10_code
def yX9_growFault : MethodName := ⟨RX9, "growFault", "(I)I"⟩
abbrev cX9_goBackIfSpent : ByteArray := prog_11_method_11_code
def yX9_goBackIfSpent : MethodName := ⟨RX9, "goBackIfSpent", "(I)V"⟩
def RX10 : String := "LadderDesk$Trial"
def TX10 : u_T := fun k => match k with
  | 0 => ("LadderDesk$Trial", "x", "I", false)
  | 1 => ("LadderDesk$Trial", "y", "I", false)
  | 2 => ("LadderDesk$Trial", "part", "I", false)
  | 3 => ("LadderDesk$Trial", "looks", "I", false)
  | 4 => ("LadderDesk$Trial", "made", "I", false)
  | 5 => ("LadderDesk$Trial", "end", "I", false)
  | 6 => ("LadderDesk$Trial", "millionths", "I", false)
  | 7 => ("LadderDesk$Trial", "n1", "I", false)
  | 8 => ("LadderDesk$Trial", "n2", "I", false)
  | 9 => ("LadderDesk$Trial", "g1", "I", false)
  | _ => ("LadderDesk$Trial", "g2", "I", false)
def tyX10 : Nat → FieldType := fun k => match k with
  | 0 => .int
  | 1 => .int
  | 2 => .int
  | 3 => .int
  | 4 => .int
  | 5 => .int
  | 6 => .int
  | 7 => .int
  | 8 => .int
  | 9 => .int
  | _ => .int
abbrev wsX100 : List Cond := u_ws RX10 TX10 11
theorem nmX10 : ∀ a, a < 11 → ∀ b, b < 11 → a ≠ b → (TX10 a).2.1 ≠ (TX10 b).2.1 := by decide +kernel
theorem tyX10_ok : ∀ k, k < 11 → parseFieldDescriptor (TX10 k).2.2.1 = some (tyX10 k) := by decide +kernel
abbrev cX10_init : ByteArray := prog_12_method_1_code
def yX10_init : MethodName := ⟨RX10, "<init>", "()V"⟩
abbrev cX10_begin : ByteArray := prog_12_method_2_code
def yX10_begin : MethodName := ⟨RX10, "begin", "(IIII)V"⟩
abbrev cX10_takeFrom : ByteArray := prog_12_method_3_code
def yX10_takeFrom : MethodName := ⟨RX10, "takeFrom", "(LLadderDesk$Trial;)V"⟩
abbrev cX10_setLook : ByteArray := prog_12_method_4_code
def yX10_setLook : MethodName := ⟨RX10, "setLook", "(IIII)V"⟩
abbrev cX10_judge : ByteArray := prog_12_method_5_code
def yX10_judge : MethodName := ⟨RX10, "judge", "(IIII)I"⟩
abbrev cX10_better : ByteArray := prog_12_method_6_code
def yX10_better : MethodName := ⟨RX10, "better", "()I"⟩
abbrev cX10_dealsAsFarApart : ByteArray := prog_12_method_7_code
def yX10_dealsAsFarApart : MethodName := ⟨RX10, "dealsAsFarApart", "()J"⟩
abbrev cX10_isRare : ByteArray := prog_12_method_8_code
def yX10_isRare : MethodName := ⟨RX10, "isRare", "(JJ)Z"⟩
abbrev cX10_inMillionths : ByteArray := prog_12_method_9_code
def yX10_inMillionths : MethodName := ⟨RX10, "inMillionths", "(JJ)I"⟩
abbrev cX10_choose : ByteArray := prog_12_method_10_code
def yX10_choose : MethodName := ⟨RX10, "choose", "(II)J"⟩
def RX11 : String := "LadderDesk"
def TX11 : u_T := fun k => match k with
  | 0 => ("LadderDesk", "shelf", "LLadderDesk$Shelf;", true)
  | 1 => ("LadderDesk", "kept", "LLadderDesk$Shelf;", true)
  | 2 => ("LadderDesk", "hasKept", "Z", false)
  | 3 => ("LadderDesk", "callers", "LLadderDesk$Callers;", true)
  | 4 => ("LadderDesk", "rings", "LLadderDesk$Rings;", true)
  | _ => ("LadderDesk", "refused", "[I", true)
def tyX11 : Nat → FieldType := fun k => match k with
  | 0 => .object "LadderDesk$Shelf"
  | 1 => .object "LadderDesk$Shelf"
  | 2 => .boolean
  | 3 => .object "LadderDesk$Callers"
  | 4 => .object "LadderDesk$Rings"
  | _ => .array .int
abbrev wsX110 : List Cond := u_ws RX11 TX11 6
theorem nmX11 : ∀ a, a < 6 → ∀ b, b < 6 → a ≠ b → (TX11 a).2.1 ≠ (TX11 b).2.1 := by decide +kernel
theorem tyX11_ok : ∀ k, k < 6 → parseFieldDescriptor (TX11 k).2.2.1 = some (tyX11 k) := by decide +kernel
abbrev cX11_init : ByteArray := prog_1_method_1_code
def yX11_init : MethodName := ⟨RX11, "<init>", "()V"⟩
abbrev cX11_caller : ByteArray := prog_1_method_2_code
def yX11_caller : MethodName := ⟨RX11, "caller", "(IIII)I"⟩
abbrev cX11_seat : ByteArray := prog_1_method_3_code
def yX11_seat : MethodName := ⟨RX11, "seat", "(I)I"⟩
abbrev cX11_way : ByteArray := prog_1_method_4_code
def yX11_way : MethodName := ⟨RX11, "way", "(I)I"⟩
abbrev cX11_why : ByteArray := prog_1_method_5_code
def yX11_why : MethodName := ⟨RX11, "why", "(I)I"⟩
abbrev cX11_make : ByteArray := prog_1_method_6_code
def yX11_make : MethodName := ⟨RX11, "make", "(IIII)I"⟩
abbrev cX11_note : ByteArray := prog_1_method_7_code
def yX11_note : MethodName := ⟨RX11, "note", "(IJ)I"⟩
abbrev cX11_empty : ByteArray := prog_1_method_8_code
def yX11_empty : MethodName := ⟨RX11, "empty", "(I)I"⟩
abbrev cX11_holds : ByteArray := prog_1_method_9_code
def yX11_holds : MethodName := ⟨RX11, "holds", "(I)I"⟩
abbrev cX11_read : ByteArray := prog_1_method_10_code
def yX11_read : MethodName := ⟨RX11, "read", "(I)J"⟩
abbrev cX11_rule : ByteArray := prog_1_method_11_code
def yX11_rule : MethodName := ⟨RX11, "rule", "(IIIII)I"⟩
abbrev cX11_unrule : ByteArray := prog_1_method_12_code
def yX11_unrule : MethodName := ⟨RX11, "unrule", "(I)I"⟩
abbrev cX11_share : ByteArray := prog_1_method_13_code
def yX11_share : MethodName := ⟨RX11, "share", "(IIII)I"⟩
abbrev cX11_shares : ByteArray := prog_1_method_14_code
def yX11_shares : MethodName := ⟨RX11, "shares", "(III)I"⟩
abbrev cX11_hang : ByteArray := prog_1_method_15_code
def yX11_hang : MethodName := ⟨RX11, "hang", "(III)I"⟩
abbrev cX11_stop : ByteArray := prog_1_method_16_code
def yX11_stop : MethodName := ⟨RX11, "stop", "(IIZ)I"⟩
abbrev cX11_ring : ByteArray := prog_1_method_17_code
def yX11_ring : MethodName := ⟨RX11, "ring", "(I)I"⟩
abbrev cX11_row : ByteArray := prog_1_method_18_code
def yX11_row : MethodName := ⟨RX11, "row", "(II)I"⟩
abbrev cX11_tear : ByteArray := prog_1_method_19_code
def yX11_tear : MethodName := ⟨RX11, "tear", "(I)I"⟩
abbrev cX11_step : ByteArray := prog_1_method_20_code
def yX11_step : MethodName := ⟨RX11, "step", "(III)I"⟩
abbrev cX11_copy : ByteArray := prog_1_method_21_code
def yX11_copy : MethodName := ⟨RX11, "copy", "(IIIII)I"⟩
abbrev cX11_grow : ByteArray := prog_1_method_22_code
def yX11_grow : MethodName := ⟨RX11, "grow", "(II)I"⟩
abbrev cX11_back : ByteArray := prog_1_method_23_code
def yX11_back : MethodName := ⟨RX11, "back", "(I)I"⟩
abbrev cX11_stands : ByteArray := prog_1_method_24_code
def yX11_stands : MethodName := ⟨RX11, "stands", "(II)I"⟩
abbrev cX11_budget : ByteArray := prog_1_method_25_code
def yX11_budget : MethodName := ⟨RX11, "budget", "(IIIIZ)I"⟩
abbrev cX11_waits : ByteArray := prog_1_method_26_code
def yX11_waits : MethodName := ⟨RX11, "waits", "(II)I"⟩
abbrev cX11_count : ByteArray := prog_1_method_27_code
def yX11_count : MethodName := ⟨RX11, "count", "(IIIII)I"⟩
abbrev cX11_goods : ByteArray := prog_1_method_28_code
def yX11_goods : MethodName := ⟨RX11, "goods", "(IIII)I"⟩
abbrev cX11_counts : ByteArray := prog_1_method_29_code
def yX11_counts : MethodName := ⟨RX11, "counts", "(IIZ)I"⟩
abbrev cX11_told : ByteArray := prog_1_method_30_code
def yX11_told : MethodName := ⟨RX11, "told", "(IIII)I"⟩
abbrev cX11_left : ByteArray := prog_1_method_31_code
def yX11_left : MethodName := ⟨RX11, "left", "(II)I"⟩
abbrev cX11_trial : ByteArray := prog_1_method_32_code
def yX11_trial : MethodName := ⟨RX11, "trial", "(IIIII)I"⟩
abbrev cX11_look : ByteArray := prog_1_method_33_code
def yX11_look : MethodName := ⟨RX11, "look", "(II)I"⟩
abbrev cX11_trialTold : ByteArray := prog_1_method_34_code
def yX11_trialTold : MethodName := ⟨RX11, "trialTold", "(II)I"⟩
abbrev cX11_among : ByteArray := prog_1_method_35_code
def yX11_among : MethodName := ⟨RX11, "among", "(IIII)I"⟩
abbrev cX11_both : ByteArray := prog_1_method_36_code
def yX11_both : MethodName := ⟨RX11, "both", "(IIII)I"⟩
abbrev cX11_moves : ByteArray := prog_1_method_37_code
def yX11_moves : MethodName := ⟨RX11, "moves", "(IIII)I"⟩
abbrev cX11_image : ByteArray := prog_1_method_38_code
def yX11_image : MethodName := ⟨RX11, "image", "()I"⟩
abbrev cX11_restore : ByteArray := prog_1_method_39_code
def yX11_restore : MethodName := ⟨RX11, "restore", "()I"⟩
abbrev cX11_status : ByteArray := prog_1_method_40_code
def yX11_status : MethodName := ⟨RX11, "status", "(I)I"⟩
abbrev cX11_within : ByteArray := prog_1_method_41_code
def yX11_within : MethodName := ⟨RX11, "within", "(II)Z"⟩
abbrev cX11_hasBit : ByteArray := prog_1_method_42_code
def yX11_hasBit : MethodName := ⟨RX11, "hasBit", "(II)Z"⟩
abbrev cX11_isFactor : ByteArray := prog_1_method_43_code
def yX11_isFactor : MethodName := ⟨RX11, "isFactor", "(I)Z"⟩
abbrev cX11_isSharedWay : ByteArray := prog_1_method_44_code
def yX11_isSharedWay : MethodName := ⟨RX11, "isSharedWay", "(I)Z"⟩
abbrev cX11_isCountedAt : ByteArray := prog_1_method_45_code
def yX11_isCountedAt : MethodName := ⟨RX11, "isCountedAt", "(II)Z"⟩
abbrev cX11_isRefusal : ByteArray := prog_1_method_46_code
def yX11_isRefusal : MethodName := ⟨RX11, "isRefusal", "(I)Z"⟩
abbrev cX11_refuse : ByteArray := prog_1_method_47_code
def yX11_refuse : MethodName := ⟨RX11, "refuse", "(I)I"⟩
abbrev cX11_refuseAt : ByteArray := prog_1_method_48_code
def yX11_refuseAt : MethodName := ⟨RX11, "refuseAt", "(II)I"⟩
abbrev cX11_answer : ByteArray := prog_1_method_49_code
def yX11_answer : MethodName := ⟨RX11, "answer", "(I)I"⟩
abbrev cX11_refuseAtEither : ByteArray := prog_1_method_50_code
def yX11_refuseAtEither : MethodName := ⟨RX11, "refuseAtEither", "(III)I"⟩
abbrev cX11_hangFault : ByteArray := prog_1_method_51_code
def yX11_hangFault : MethodName := ⟨RX11, "hangFault", "(II)I"⟩
abbrev cX11_firstFault : ByteArray := prog_1_method_52_code
def yX11_firstFault : MethodName := ⟨RX11, "firstFault", "(II)I"⟩
abbrev cX11_crowdFault : ByteArray := prog_1_method_53_code
def yX11_crowdFault : MethodName := ⟨RX11, "crowdFault", "(II)I"⟩
def RX12 : String := "LadderDeskModel"
def TX12 : u_T := fun k => match k with
  | 0 => ("LadderDeskModel", "s", "[I", true)
  | 1 => ("LadderDeskModel", "kept", "[I", true)
  | 2 => ("LadderDeskModel", "notes", "[J", true)
  | 3 => ("LadderDeskModel", "keptNotes", "[J", true)
  | 4 => ("LadderDeskModel", "hasImage", "Z", false)
  | 5 => ("LadderDeskModel", "refused", "[I", true)
  | 6 => ("LadderDeskModel", "ring", "[I", true)
  | 7 => ("LadderDeskModel", "ringSize", "I", false)
  | 8 => ("LadderDeskModel", "number", "I", false)
  | 9 => ("LadderDeskModel", "land", "I", false)
  | 10 => ("LadderDeskModel", "age", "I", false)
  | 11 => ("LadderDeskModel", "sort", "I", false)
  | 12 => ("LadderDeskModel", "ways", "[I", true)
  | 13 => ("LadderDeskModel", "known", "[Z", true)
  | 14 => ("LadderDeskModel", "far", "[I", true)
  | 15 => ("LadderDeskModel", "moved", "[I", true)
  | 16 => ("LadderDeskModel", "allTold", "Z", false)
  | 17 => ("LadderDeskModel", "calls", "J", false)
  | 18 => ("LadderDeskModel", "faults", "J", false)
  | 19 => ("LadderDeskModel", "n1", "I", false)
  | 20 => ("LadderDeskModel", "n2", "I", false)
  | 21 => ("LadderDeskModel", "g1", "I", false)
  | 22 => ("LadderDeskModel", "g2", "I", false)
  | 23 => ("LadderDeskModel", "part", "J", false)
  | _ => ("LadderDeskModel", "all", "J", false)
def tyX12 : Nat → FieldType := fun k => match k with
  | 0 => .array .int
  | 1 => .array .int
  | 2 => .array .long
  | 3 => .array .long
  | 4 => .boolean
  | 5 => .array .int
  | 6 => .array .int
  | 7 => .int
  | 8 => .int
  | 9 => .int
  | 10 => .int
  | 11 => .int
  | 12 => .array .int
  | 13 => .array .boolean
  | 14 => .array .int
  | 15 => .array .int
  | 16 => .boolean
  | 17 => .long
  | 18 => .long
  | 19 => .int
  | 20 => .int
  | 21 => .int
  | 22 => .int
  | 23 => .long
  | _ => .long
abbrev wsX120 : List Cond := u_ws RX12 TX12 25
theorem nmX12 : ∀ a, a < 25 → ∀ b, b < 25 → a ≠ b → (TX12 a).2.1 ≠ (TX12 b).2.1 := by decide +kernel
theorem tyX12_ok : ∀ k, k < 25 → parseFieldDescriptor (TX12 k).2.2.1 = some (tyX12 k) := by decide +kernel
abbrev cX12_init : ByteArray := prog_14_method_1_code
def yX12_init : MethodName := ⟨RX12, "<init>", "()V"⟩
abbrev cX12_isIn : ByteArray := prog_14_method_2_code
def yX12_isIn : MethodName := ⟨RX12, "isIn", "(JJJ)Z"⟩
abbrev cX12_no : ByteArray := prog_14_method_3_code
def yX12_no : MethodName := ⟨RX12, "no", "(I)I"⟩
abbrev cX12_of : ByteArray := prog_14_method_4_code
def yX12_of : MethodName := ⟨RX12, "of", "(II)I"⟩
abbrev cX12_to : ByteArray := prog_14_method_5_code
def yX12_to : MethodName := ⟨RX12, "to", "(III)V"⟩
abbrev cX12_isPlace : ByteArray := prog_14_method_6_code
def yX12_isPlace : MethodName := ⟨RX12, "isPlace", "(I)Z"⟩
abbrev cX12_isSwitch : ByteArray := prog_14_method_7_code
def yX12_isSwitch : MethodName := ⟨RX12, "isSwitch", "(I)Z"⟩
abbrev cX12_isStepped : ByteArray := prog_14_method_8_code
def yX12_isStepped : MethodName := ⟨RX12, "isStepped", "(I)Z"⟩
abbrev cX12_hangs : ByteArray := prog_14_method_9_code
def yX12_hangs : MethodName := ⟨RX12, "hangs", "(I)Z"⟩
abbrev cX12_why : ByteArray := prog_14_method_10_code
def yX12_why : MethodName := ⟨RX12, "why", "(II)I"⟩
abbrev cX12_caller : ByteArray := prog_14_method_11_code
def yX12_caller : MethodName := ⟨RX12, "caller", "(IIII)I"⟩
abbrev cX12_seatOf : ByteArray := prog_14_method_12_code
def yX12_seatOf : MethodName := ⟨RX12, "seatOf", "(I)I"⟩
abbrev cX12_ruleOf : ByteArray := prog_14_method_13_code
def yX12_ruleOf : MethodName := ⟨RX12, "ruleOf", "(I)I"⟩
abbrev cX12_wayOfSeat : ByteArray := prog_14_method_14_code
def yX12_wayOfSeat : MethodName := ⟨RX12, "wayOfSeat", "(I)I"⟩
abbrev cX12_ownWay : ByteArray := prog_14_method_15_code
def yX12_ownWay : MethodName := ⟨RX12, "ownWay", "(I)I"⟩
abbrev cX12_hangsOn : ByteArray := prog_14_method_16_code
def yX12_hangsOn : MethodName := ⟨RX12, "hangsOn", "(I)I"⟩
abbrev cX12_stops : ByteArray := prog_14_method_17_code
def yX12_stops : MethodName := ⟨RX12, "stops", "(II)Z"⟩
abbrev cX12_isReady : ByteArray := prog_14_method_18_code
def yX12_isReady : MethodName := ⟨RX12, "isReady", "(I)Z"⟩
abbrev cX12_stoppedBy : ByteArray := prog_14_method_19_code
def yX12_stoppedBy : MethodName := ⟨RX12, "stoppedBy", "(I)I"⟩
abbrev cX12_isOther : ByteArray := prog_14_method_20_code
def yX12_isOther : MethodName := ⟨RX12, "isOther", "(I)Z"⟩
abbrev cX12_findWays : ByteArray := prog_14_method_21_code
def yX12_findWays : MethodName := ⟨RX12, "findWays", "()V"⟩
abbrev cX12_seat : ByteArray := prog_14_method_22_code
def yX12_seat : MethodName := ⟨RX12, "seat", "(I)I"⟩
abbrev cX12_way : ByteArray := prog_14_method_23_code
def yX12_way : MethodName := ⟨RX12, "way", "(I)I"⟩
abbrev cX12_why_ : ByteArray := prog_14_method_24_code
def yX12_why_ : MethodName := ⟨RX12, "why", "(I)I"⟩
abbrev cX12_clears : ByteArray := prog_14_method_25_code
def yX12_clears : MethodName := ⟨RX12, "clears", "(I)V"⟩
abbrev cX12_make : ByteArray := prog_14_method_26_code
def yX12_make : MethodName := ⟨RX12, "make", "(IIII)I"⟩
abbrev cX12_note : ByteArray := prog_14_method_27_code
def yX12_note : MethodName := ⟨RX12, "note", "(IJ)I"⟩
abbrev cX12_empty : ByteArray := prog_14_method_28_code
def yX12_empty : MethodName := ⟨RX12, "empty", "(I)I"⟩
abbrev cX12_holds : ByteArray := prog_14_method_29_code
def yX12_holds : MethodName := ⟨RX12, "holds", "(I)I"⟩
abbrev cX12_read : ByteArray := prog_14_method_30_code
def yX12_read : MethodName := ⟨RX12, "read", "(I)J"⟩
abbrev cX12_rule : ByteArray := prog_14_method_31_code
def yX12_rule : MethodName := ⟨RX12, "rule", "(IIIII)I"⟩
abbrev cX12_unrule : ByteArray := prog_14_method_32_code
def yX12_unrule : MethodName := ⟨RX12, "unrule", "(I)I"⟩
abbrev cX12_goesOver : ByteArray := prog_14_method_33_code
def yX12_goesOver : MethodName := ⟨RX12, "goesOver", "(IIII)Z"⟩
abbrev cX12_share : ByteArray := prog_14_method_34_code
def yX12_share : MethodName := ⟨RX12, "share", "(IIII)I"⟩
abbrev cX12_shares : ByteArray := prog_14_method_35_code
def yX12_shares : MethodName := ⟨RX12, "shares", "(III)I"⟩
abbrev cX12_asks : ByteArray := prog_14_method_36_code
def yX12_asks : MethodName := ⟨RX12, "asks", "(II)Z"⟩
abbrev cX12_findFar : ByteArray := prog_14_method_37_code
def yX12_findFar : MethodName := ⟨RX12, "findFar", "(I)V"⟩
abbrev cX12_isRing : ByteArray := prog_14_method_38_code
def yX12_isRing : MethodName := ⟨RX12, "isRing", "()Z"⟩
abbrev cX12_nextOn : ByteArray := prog_14_method_39_code
def yX12_nextOn : MethodName := ⟨RX12, "nextOn", "(II)I"⟩
abbrev cX12_hang : ByteArray := prog_14_method_40_code
def yX12_hang : MethodName := ⟨RX12, "hang", "(III)I"⟩
abbrev cX12_stop : ByteArray := prog_14_method_41_code
def yX12_stop : MethodName := ⟨RX12, "stop", "(IIZ)I"⟩
abbrev cX12_ring : ByteArray := prog_14_method_42_code
def yX12_ring : MethodName := ⟨RX12, "ring", "(I)I"⟩
abbrev cX12_row : ByteArray := prog_14_method_43_code
def yX12_row : MethodName := ⟨RX12, "row", "(II)I"⟩
abbrev cX12_tear : ByteArray := prog_14_method_44_code
def yX12_tear : MethodName := ⟨RX12, "tear", "(I)I"⟩
abbrev cX12_step : ByteArray := prog_14_method_45_code
def yX12_step : MethodName := ⟨RX12, "step", "(III)I"⟩
abbrev cX12_whyTwo : ByteArray := prog_14_method_46_code
def yX12_whyTwo : MethodName := ⟨RX12, "whyTwo", "(III)I"⟩
abbrev cX12_copy : ByteArray := prog_14_method_47_code
def yX12_copy : MethodName := ⟨RX12, "copy", "(IIIII)I"⟩
abbrev cX12_minuteAt : ByteArray := prog_14_method_48_code
def yX12_minuteAt : MethodName := ⟨RX12, "minuteAt", "(II)I"⟩
abbrev cX12_window : ByteArray := prog_14_method_49_code
def yX12_window : MethodName := ⟨RX12, "window", "(II)V"⟩
abbrev cX12_isSpent : ByteArray := prog_14_method_50_code
def yX12_isSpent : MethodName := ⟨RX12, "isSpent", "(II)Z"⟩
abbrev cX12_whyNoGrowth : ByteArray := prog_14_method_51_code
def yX12_whyNoGrowth : MethodName := ⟨RX12, "whyNoGrowth", "(II)I"⟩
abbrev cX12_isMinute : ByteArray := prog_14_method_52_code
def yX12_isMinute : MethodName := ⟨RX12, "isMinute", "(I)Z"⟩
abbrev cX12_grow : ByteArray := prog_14_method_53_code
def yX12_grow : MethodName := ⟨RX12, "grow", "(II)I"⟩
abbrev cX12_goesTo : ByteArray := prog_14_method_54_code
def yX12_goesTo : MethodName := ⟨RX12, "goesTo", "(II)V"⟩
abbrev cX12_back : ByteArray := prog_14_method_55_code
def yX12_back : MethodName := ⟨RX12, "back", "(I)I"⟩
abbrev cX12_stands : ByteArray := prog_14_method_56_code
def yX12_stands : MethodName := ⟨RX12, "stands", "(II)I"⟩
abbrev cX12_budget : ByteArray := prog_14_method_57_code
def yX12_budget : MethodName := ⟨RX12, "budget", "(IIIIZ)I"⟩
abbrev cX12_waits : ByteArray := prog_14_method_58_code
def yX12_waits : MethodName := ⟨RX12, "waits", "(II)I"⟩
abbrev cX12_isWay : ByteArray := prog_14_method_59_code
def yX12_isWay : MethodName := ⟨RX12, "isWay", "(I)Z"⟩
abbrev cX12_whyCounts : ByteArray := prog_14_method_60_code
def yX12_whyCounts : MethodName := ⟨RX12, "whyCounts", "(III)I"⟩
abbrev cX12_count : ByteArray := prog_14_method_61_code
def yX12_count : MethodName := ⟨RX12, "count", "(IIIII)I"⟩
abbrev cX12_goods : ByteArray := prog_14_method_62_code
def yX12_goods : MethodName := ⟨RX12, "goods", "(IIII)I"⟩
abbrev cX12_counts : ByteArray := prog_14_method_63_code
def yX12_counts : MethodName := ⟨RX12, "counts", "(IIZ)I"⟩
abbrev cX12_told : ByteArray := prog_14_method_64_code
def yX12_told : MethodName := ⟨RX12, "told", "(IIII)I"⟩
abbrev cX12_left : ByteArray := prog_14_method_65_code
def yX12_left : MethodName := ⟨RX12, "left", "(II)I"⟩
abbrev cX12_trial : ByteArray := prog_14_method_66_code
def yX12_trial : MethodName := ⟨RX12, "trial", "(IIIII)I"⟩
abbrev cX12_sums : ByteArray := prog_14_method_67_code
def yX12_sums : MethodName := ⟨RX12, "sums", "(II)V"⟩
abbrev cX12_chosen : ByteArray := prog_14_method_68_code
def yX12_chosen : MethodName := ⟨RX12, "chosen", "(II)J"⟩
abbrev cX12_chances : ByteArray := prog_14_method_69_code
def yX12_chances : MethodName := ⟨RX12, "chances", "()V"⟩
abbrev cX12_isAbove : ByteArray := prog_14_method_70_code
def yX12_isAbove : MethodName := ⟨RX12, "isAbove", "(JJJJ)Z"⟩
abbrev cX12_millionths : ByteArray := prog_14_method_71_code
def yX12_millionths : MethodName := ⟨RX12, "millionths", "()I"⟩
abbrev cX12_look : ByteArray := prog_14_method_72_code
def yX12_look : MethodName := ⟨RX12, "look", "(II)I"⟩
abbrev cX12_trialTold : ByteArray := prog_14_method_73_code
def yX12_trialTold : MethodName := ⟨RX12, "trialTold", "(II)I"⟩
abbrev cX12_whyAmong : ByteArray := prog_14_method_74_code
def yX12_whyAmong : MethodName := ⟨RX12, "whyAmong", "(II)I"⟩
abbrev cX12_isNumber : ByteArray := prog_14_method_75_code
def yX12_isNumber : MethodName := ⟨RX12, "isNumber", "(I)Z"⟩
abbrev cX12_among : ByteArray := prog_14_method_76_code
def yX12_among : MethodName := ⟨RX12, "among", "(IIII)I"⟩
abbrev cX12_both : ByteArray := prog_14_method_77_code
def yX12_both : MethodName := ⟨RX12, "both", "(IIII)I"⟩
abbrev cX12_moves : ByteArray := prog_14_method_78_code
def yX12_moves : MethodName := ⟨RX12, "moves", "(IIII)I"⟩
abbrev cX12_switches : ByteArray := prog_14_method_79_code
def yX12_switches : MethodName := ⟨RX12, "switches", "()I"⟩
abbrev cX12_image : ByteArray := prog_14_method_80_code
def yX12_image : MethodName := ⟨RX12, "image", "()I"⟩
abbrev cX12_restore : ByteArray := prog_14_method_81_code
def yX12_restore : MethodName := ⟨RX12, "restore", "()I"⟩
abbrev cX12_status : ByteArray := prog_14_method_82_code
def yX12_status : MethodName := ⟨RX12, "status", "(I)I"⟩
def RJ9 : String := "java/lang/Math"
def TJ9 : u_T := fun k => match k with
  | _ => ("", "", "", false)
def tyJ9 : Nat → FieldType := fun k => match k with
  | _ => .int
abbrev wsJ90 : List Cond := u_ws RJ9 TJ9 0
theorem nmJ9 : ∀ a, a < 0 → ∀ b, b < 0 → a ≠ b → (TJ9 a).2.1 ≠ (TJ9 b).2.1 := by decide +kernel
theorem tyJ9_ok : ∀ k, k < 0 → parseFieldDescriptor (TJ9 k).2.2.1 = some (tyJ9 k) := by decide +kernel
abbrev cJ9_abs_0f7a4 : ByteArray := prog_15_method_59_code
def yJ9_abs_0f7a4 : MethodName := ⟨RJ9, "abs", "(I)I"⟩
abbrev cJ9_max_7cf53 : ByteArray := prog_15_method_65_code
def yJ9_max_7cf53 : MethodName := ⟨RJ9, "max", "(II)I"⟩
abbrev cJ9_min_7cf53 : ByteArray := prog_15_method_69_code
def yJ9_min_7cf53 : MethodName := ⟨RJ9, "min", "(II)I"⟩
def RJ10 : String := "java/lang/System"
def TJ10 : u_T := fun k => match k with
  | _ => ("", "", "", false)
def tyJ10 : Nat → FieldType := fun k => match k with
  | _ => .int
abbrev wsJ100 : List Cond := u_ws RJ10 TJ10 0
theorem nmJ10 : ∀ a, a < 0 → ∀ b, b < 0 → a ≠ b → (TJ10 a).2.1 ≠ (TJ10 b).2.1 := by decide +kernel
theorem tyJ10_ok : ∀ k, k < 0 → parseFieldDescriptor (TJ10 k).2.2.1 = some (tyJ10 k) := by decide +kernel
def RJ7 : String := "java/util/Arrays"
def TJ7 : u_T := fun k => match k with
  | _ => ("", "", "", false)
def tyJ7 : Nat → FieldType := fun k => match k with
  | _ => .int
abbrev wsJ70 : List Cond := u_ws RJ7 TJ7 0
theorem nmJ7 : ∀ a, a < 0 → ∀ b, b < 0 → a ≠ b → (TJ7 a).2.1 ≠ (TJ7 b).2.1 := by decide +kernel
theorem tyJ7_ok : ∀ k, k < 0 → parseFieldDescriptor (TJ7 k).2.2.1 = some (tyJ7 k) := by decide +kernel
abbrev cJ7_fill_53178 : ByteArray := prog_17_method_103_code
def yJ7_fill_53178 : MethodName := ⟨RJ7, "fill", "([II)V"⟩
def RL : String := "LadderDeskLaw"
abbrev cL_law : ByteArray := code
def yL_law : MethodName := ⟨RL, "law", "([I)Z"⟩
abbrev vwCl : List vw_C := [(RX0, TX0, 7), (RX1, TX1, 8), (RX2, TX2, 5), (RX3, TX3, 3), (RX4, TX4, 4), (RX5, TX5, 4), (RX6, TX6, 5), (RX7, TX7, 2), (RX8, TX8, 1), (RX9, TX9, 13), (RX10, TX10, 11), (RX11, TX11, 6), (RX12, TX12, 25)]
end
section
/-! the memory: fields by number and address, arrays by address; the words that all methods share -/
abbrev Mm : Type := (Nat → Nat → Int32) × (Nat → Nat → Int64) × (Nat → Nat → Option Nat) × (Nat → Nat → Int32) × (Nat → Nat → Int64) × (Nat → Nat → Option Nat)
def mm_I (M : Mm) : Nat → Nat → Int32 := M.1
def mm_J (M : Mm) : Nat → Nat → Int64 := M.2.1
def mm_R (M : Mm) : Nat → Nat → Option Nat := M.2.2.1
def mm_A (M : Mm) : Nat → Nat → Int32 := M.2.2.2.1
def mm_B (M : Mm) : Nat → Nat → Int64 := M.2.2.2.2.1
def mm_C (M : Mm) : Nat → Nat → Option Nat := M.2.2.2.2.2
def mm_u2 {α : Type} (f : Nat → Nat → α) (x a : Nat) (v : α) : Nat → Nat → α := fun y b => if y = x ∧ b = a then v else f y b
def ms_I (M : Mm) (x a : Nat) (v : Int32) : Mm := (mm_u2 M.1 x a v, M.2)
def ms_J (M : Mm) (x a : Nat) (v : Int64) : Mm := (M.1, mm_u2 M.2.1 x a v, M.2.2)
def ms_R (M : Mm) (x a : Nat) (v : Option Nat) : Mm := (M.1, M.2.1, mm_u2 M.2.2.1 x a v, M.2.2.2)
def ms_A (M : Mm) (a : Nat) (g : Nat → Int32) : Mm := (M.1, M.2.1, M.2.2.1, va_up M.2.2.2.1 a g, M.2.2.2.2)
def ms_B (M : Mm) (a : Nat) (g : Nat → Int64) : Mm := (M.1, M.2.1, M.2.2.1, M.2.2.2.1, va_up M.2.2.2.2.1 a g, M.2.2.2.2.2)
def ms_C (M : Mm) (a : Nat) (g : Nat → Option Nat) : Mm := (M.1, M.2.1, M.2.2.1, M.2.2.2.1, M.2.2.2.2.1, va_up M.2.2.2.2.2 a g)
def mm_T : Nat → List Nat := fun c => match c with
  | 0 => [0, 0, 0, 0, 0, 0, 0]
  | 1 => [0, 0, 0, 0, 0, 0, 0, 2]
  | 2 => [0, 0, 2, 2, 2]
  | 3 => [2, 0, 0]
  | 4 => [2, 0, 1, 2]
  | 5 => [2, 2, 2, 0]
  | 6 => [0, 2, 2, 2, 2]
  | 7 => [2, 2]
  | 8 => [2]
  | 9 => [0, 0, 0, 2, 2, 0, 0, 0, 0, 2, 2, 2, 2]
  | 10 => [0, 0, 0, 0, 0, 0, 0, 0, 0, 0, 0]
  | 11 => [2, 2, 0, 2, 2, 2]
  | 12 => [2, 2, 2, 2, 0, 2, 2, 0, 0, 0, 0, 0, 2, 2, 2, 2, 0, 1, 1, 0, 0, 0, 0, 1, 1]
  | _ => []
def mm_V (M : Mm) (t x a : Nat) : Value := match t with
  | 0 => .int (mm_I M x a)
  | 1 => .long (mm_J M x a)
  | _ => va_rf (mm_R M x a)
def mm_F (M : Mm) (c a : Nat) : List Value := (mm_T c).mapIdx (fun k t => mm_V M t (32 * c + k) a)
def mm_E (Y : Nat → ClassId) (K L : Nat → Nat) (M : Mm) (a : Nat) : va_E :=
  if K a < 13 then .inr (K a, mm_F M (K a) a)
  else if K a = 14 then .inl (Y 14, L a, .inr (.inl (mm_B M a)))
  else if K a < 16 then .inl (Y (K a), L a, .inl (mm_A M a))
  else .inl (Y (K a), L a, .inr (.inr (.inr (.inr (mm_C M a)))))
def mm_tys (Y : Nat → ClassId) : List (ClassId × FieldType) := [(Y 13, .int), (Y 14, .long), (Y 15, .boolean), (Y 16, .object RX2), (Y 17, .object RX4)]
def mm_W (B n : Nat) (Y : Nat → ClassId) (K L : Nat → Nat) (M : Mm) : va_W := va_pl (List.range' B n) (mm_E Y K L M)
def mm_H (D : va_G) (Y : Nat → ClassId) (B n : Nat) (K L : Nat → Nat) (M : Mm) (H : Heap) : Prop :=
  H.size = B + n ∧ (∀ a, (B ≤ a ∧ a < B + n) ↔ K a < 18) ∧ va_P D vwCl (mm_W B n Y K L M) H
theorem mw_D (B n : Nat) (f : Nat → va_E) : va_D (fun q => B ≤ q) (va_pl (List.range' B n) f) := by
  have key : ∀ (i : Nat) (p : Nat × va_E), (va_pl (List.range' B n) f)[i]? = some p → p.1 = B + i := by
    intro i p h
    simp only [va_pl, List.getElem?_map, List.getElem?_range'] at h
    by_cases hi : i < n
    · simp [hi] at h
      rw [← h]
    · simp [hi] at h
  refine ⟨fun i j p q h1 h2 h3 => ?_, fun k q h => ?_⟩
  · rw [key i p h1, key j q h2] at h3
    omega
  · show B ≤ q.1
    rw [key k q h]
    omega
theorem mw_at {D : va_G} {Y : Nat → ClassId} {B n : Nat} {K L : Nat → Nat} {M : Mm} {H : Heap} (h : mm_H D Y B n K L M H) {a : Nat} (hk : K a < 18) : ∃ q : Nat, (mm_W B n Y K L M)[q]? = some (a, mm_E Y K L M a) := by
  have h1 := (h.2.1 a).mpr hk
  exact va_pl_get (X := []) (List.mem_range'_1.mpr h1)
theorem mw_set {D : va_G} {Y : Nat → ClassId} {B n : Nat} {K L : Nat → Nat} {M M' : Mm} {H H1 : Heap} (h : mm_H D Y B n K L M H) {a q : Nat} {e : va_E} (hk : K a < 18) (hq : (mm_W B n Y K L M)[q]? = some (a, mm_E Y K L M a)) (he : va_up (mm_E Y K L M) a e = mm_E Y K L M') (hz : H1.size = H.size) (h1 : va_P D vwCl ((mm_W B n Y K L M).set q (a, e)) H1) : mm_H D Y B n K L M' H1 := by
  refine ⟨hz.trans h.1, h.2.1, ?_⟩
  have h2 := va_pl_set (X := []) (e := e) (mw_D B n (mm_E Y K L M)) (List.mem_range'_1.mpr ((h.2.1 a).mpr hk)) hq
  have h3 : (mm_W B n Y K L M).set q (a, e) = va_pl (List.range' B n) (va_up (mm_E Y K L M) a e) := h2
  rw [h3, he] at h1
  exact h1
theorem mm_E_o {Y : Nat → ClassId} {K L : Nat → Nat} {M : Mm} {a c : Nat} (h : K a = c) (hc : c < 13) : mm_E Y K L M a = .inr (c, mm_F M c a) := by
  subst h
  simp [mm_E, hc]
theorem mm_E_i {Y : Nat → ClassId} {K L : Nat → Nat} {M : Mm} {a : Nat} (h : K a = 13) : mm_E Y K L M a = .inl (Y 13, L a, .inl (mm_A M a)) := by
  simp [mm_E, h]
theorem mm_E_z {Y : Nat → ClassId} {K L : Nat → Nat} {M : Mm} {a : Nat} (h : K a = 15) : mm_E Y K L M a = .inl (Y 15, L a, .inl (mm_A M a)) := by
  simp [mm_E, h]
theorem mm_E_l {Y : Nat → ClassId} {K L : Nat → Nat} {M : Mm} {a : Nat} (h : K a = 14) : mm_E Y K L M a = .inl (Y 14, L a, .inr (.inl (mm_B M a))) := by
  simp [mm_E, h]
theorem mm_E_r {Y : Nat → ClassId} {K L : Nat → Nat} {M : Mm} {a k : Nat} (h : K a = k) (h1 : 16 ≤ k) : mm_E Y K L M a = .inl (Y k, L a, .inr (.inr (.inr (.inr (mm_C M a))))) := by
  subst h
  simp [mm_E, show ¬ K a < 13 by omega, show ¬ K a = 14 by omega, show ¬ K a < 16 by omega]
theorem mm_F_at {M : Mm} {c a k t : Nat} (h : (mm_T c)[k]? = some t) : (mm_F M c a)[k]? = some (mm_V M t (32 * c + k) a) := by
  simp [mm_F, List.getElem?_mapIdx, h]
/-- a field is set: of one address alone, of one field alone -/
theorem mm_F_set {M M' : Mm} {c a k t : Nat} (h : (mm_T c)[k]? = some t) (hv : ∀ j t', (j = k → t' = t) → mm_V M' t' (32 * c + j) a = if j = k then mm_V M' t (32 * c + k) a else mm_V M t' (32 * c + j) a) : (mm_F M c a).set k (mm_V M' t (32 * c + k) a) = mm_F M' c a := by
  apply List.ext_getElem?
  intro j
  rw [List.getElem?_set]
  obtain ⟨hl, he⟩ := List.getElem?_eq_some_iff.mp h
  by_cases hj : k = j
  · subst hj
    simp [mm_F, List.getElem?_mapIdx, he, hl]
  · rw [if_neg hj]
    simp only [mm_F, List.getElem?_mapIdx]
    cases ht : (mm_T c)[j]? with
    | none => rfl
    | some t' =>
      have := hv j t' (fun e => absurd e.symm hj)
      rw [if_neg (fun e => hj e.symm)] at this
      simp [this]
theorem mm_F_off {M M' : Mm} {c a : Nat} (hv : ∀ j t, mm_V M' t (32 * c + j) a = mm_V M t (32 * c + j) a) : mm_F M' c a = mm_F M c a := by
  simp only [mm_F]
  congr 1
  funext k t
  exact hv k t
theorem me_set {Y : Nat → ClassId} {K L : Nat → Nat} {M M' : Mm} {a c : Nat} {fs : List Value} (hk : K a = c) (hc : c < 13) (hf : fs = mm_F M' c a) (ho : ∀ b x t, b ≠ a → mm_V M' t x b = mm_V M t x b) (hA : mm_A M' = mm_A M) (hB : mm_B M' = mm_B M) (hC : mm_C M' = mm_C M) : va_up (mm_E Y K L M) a (.inr (c, fs)) = mm_E Y K L M' := by
  funext b
  by_cases hb : b = a
  · subst hb
    rw [va_up_self, mm_E_o hk hc, hf]
  · rw [va_up_ne _ _ hb]
    unfold mm_E
    rw [hA, hB, hC, mm_F_off (M := M) (M' := M') (fun j t => ho b _ t hb)]
theorem me_setI {Y : Nat → ClassId} {K L : Nat → Nat} {M : Mm} {a c k : Nat} (v : Int32) (hk : K a = c) (hc : c < 13) (ht : (mm_T c)[k]? = some 0) : va_up (mm_E Y K L M) a (.inr (c, (mm_F M c a).set k (.int v))) = mm_E Y K L (ms_I M (32 * c + k) a v) := by
  refine me_set hk hc ?_ ?_ rfl rfl rfl
  · have e : (Value.int v) = mm_V (ms_I M (32 * c + k) a v) 0 (32 * c + k) a := by simp [mm_V, ms_I, mm_I, mm_u2]
    rw [e]
    refine mm_F_set ht (fun j t' hj => ?_)
    by_cases h : j = k
    · subst h
      rw [hj rfl]
      simp
    · rw [if_neg h]
      have : 32 * c + j ≠ 32 * c + k := by omega
      unfold mm_V
      split <;> simp [ms_I, mm_I, mm_J, mm_R, mm_u2, h]
  · intro b x t hb
    unfold mm_V
    split <;> simp [ms_I, mm_I, mm_J, mm_R, mm_u2, hb]
theorem me_setJ {Y : Nat → ClassId} {K L : Nat → Nat} {M : Mm} {a c k : Nat} (v : Int64) (hk : K a = c) (hc : c < 13) (ht : (mm_T c)[k]? = some 1) : va_up (mm_E Y K L M) a (.inr (c, (mm_F M c a).set k (.long v))) = mm_E Y K L (ms_J M (32 * c + k) a v) := by
  refine me_set hk hc ?_ ?_ rfl rfl rfl
  · have e : (Value.long v) = mm_V (ms_J M (32 * c + k) a v) 1 (32 * c + k) a := by simp [mm_V, ms_J, mm_J, mm_u2]
    rw [e]
    refine mm_F_set ht (fun j t' hj => ?_)
    by_cases h : j = k
    · subst h
      rw [hj rfl]
      simp
    · rw [if_neg h]
      have : 32 * c + j ≠ 32 * c + k := by omega
      unfold mm_V
      split <;> simp [ms_J, mm_I, mm_J, mm_R, mm_u2, h]
  · intro b x t hb
    unfold mm_V
    split <;> simp [ms_J, mm_I, mm_J, mm_R, mm_u2, hb]
theorem me_setR {Y : Nat → ClassId} {K L : Nat → Nat} {M : Mm} {a c k : Nat} (v : Option Nat) (hk : K a = c) (hc : c < 13) (ht : (mm_T c)[k]? = some 2) : va_up (mm_E Y K L M) a (.inr (c, (mm_F M c a).set k (va_rf v))) = mm_E Y K L (ms_R M (32 * c + k) a v) := by
  refine me_set hk hc ?_ ?_ rfl rfl rfl
  · have e : (va_rf v) = mm_V (ms_R M (32 * c + k) a v) 2 (32 * c + k) a := by simp [mm_V, ms_R, mm_R, mm_u2]
    rw [e]
    refine mm_F_set ht (fun j t' hj => ?_)
    by_cases h : j = k
    · subst h
      rw [hj rfl]
      simp
    · rw [if_neg h]
      have : 32 * c + j ≠ 32 * c + k := by omega
      unfold mm_V
      split <;> simp [ms_R, mm_I, mm_J, mm_R, mm_u2, h]
  · intro b x t hb
    unfold mm_V
    split <;> simp [ms_R, mm_I, mm_J, mm_R, mm_u2, hb]
theorem me_setA {Y : Nat → ClassId} {K L : Nat → Nat} {M : Mm} {a k : Nat} (g : Nat → Int32) (hk : K a = k) (h : k = 13 ∨ k = 15) : va_up (mm_E Y K L M) a (.inl (Y k, L a, .inl g)) = mm_E Y K L (ms_A M a g) := by
  funext b
  by_cases hb : b = a
  · subst hb
    rw [va_up_self]
    subst hk
    rcases h with h | h <;> simp [mm_E, h, mm_A, ms_A, va_up]
  · rw [va_up_ne _ _ hb]
    unfold mm_E
    have e : mm_A (ms_A M a g) b = mm_A M b := by simp [mm_A, ms_A, va_up, hb]
    rw [e]
    rfl
theorem me_setB {Y : Nat → ClassId} {K L : Nat → Nat} {M : Mm} {a : Nat} (g : Nat → Int64) (hk : K a = 14) : va_up (mm_E Y K L M) a (.inl (Y 14, L a, .inr (.inl g))) = mm_E Y K L (ms_B M a g) := by
  funext b
  by_cases hb : b = a
  · subst hb
    rw [va_up_self]
    simp [mm_E, hk, mm_B, ms_B, va_up]
  · rw [va_up_ne _ _ hb]
    unfold mm_E
    have e : mm_B (ms_B M a g) b = mm_B M b := by simp [mm_B, ms_B, va_up, hb]
    rw [e]
    rfl
theorem me_setC {Y : Nat → ClassId} {K L : Nat → Nat} {M : Mm} {a k : Nat} (g : Nat → Option Nat) (hk : K a = k) (h : 16 ≤ k) : va_up (mm_E Y K L M) a (.inl (Y k, L a, .inr (.inr (.inr (.inr g))))) = mm_E Y K L (ms_C M a g) := by
  funext b
  by_cases hb : b = a
  · subst hb
    rw [va_up_self]
    subst hk
    simp [mm_E, show ¬ K b < 13 by omega, show ¬ K b = 14 by omega, show ¬ K b < 16 by omega, mm_C, ms_C, va_up]
  · rw [va_up_ne _ _ hb]
    unfold mm_E
    have e : mm_C (ms_C M a g) b = mm_C M b := by simp [mm_C, ms_C, va_up, hb]
    rw [e]
    rfl
end
section
/-! the judgement gW: the machine at a frame over a memory; a row an instruction -/
abbrev Cx : Type := Program × Launch × Env × Room × State × MethodId × Array Value × List Frame × Method × Code × (State → Prop) × va_G × (Nat → ClassId) × Nat × Nat
abbrev cp (X : Cx) : Program := X.1
abbrev cq (X : Cx) : Launch := X.2.1
abbrev ce (X : Cx) : Env := X.2.2.1
abbrev cR (X : Cx) : Room := X.2.2.2.1
abbrev cs (X : Cx) : State := X.2.2.2.2.1
abbrev cm (X : Cx) : MethodId := X.2.2.2.2.2.1
abbrev ca (X : Cx) : Array Value := X.2.2.2.2.2.2.1
abbrev cb (X : Cx) : List Frame := X.2.2.2.2.2.2.2.1
abbrev ch (X : Cx) : Method := X.2.2.2.2.2.2.2.2.1
abbrev cc' (X : Cx) : Code := X.2.2.2.2.2.2.2.2.2.1
abbrev cQ (X : Cx) : State → Prop := X.2.2.2.2.2.2.2.2.2.2.1
abbrev cD (X : Cx) : va_G := X.2.2.2.2.2.2.2.2.2.2.2.1
abbrev cY (X : Cx) : Nat → ClassId := X.2.2.2.2.2.2.2.2.2.2.2.2.1
abbrev cB (X : Cx) : Nat := X.2.2.2.2.2.2.2.2.2.2.2.2.2.1
abbrev cL (X : Cx) : Nat := X.2.2.2.2.2.2.2.2.2.2.2.2.2.2
def gwl : List Cond := lw_tbl.filter goodWord
def nwl : List Cond := tables_1.filter (fun w => match w with | .methodLinkNest _ _ _ _ => true | _ => false)
def mm_N (U : State) : Prop := (∀ w ∈ nwl, va_Nw w U) ∧ va_AO RX4 U ∧ va_AO RX2 U
/-- what a body may use: the machine, its bytes, its class, the shared words, the classes' layout, its room -/
def cOk (X : Cx) (bt : ByteArray) (own : String) (d : Nat) : Prop :=
  (cp X).tables.exec = Jvm.exec ∧ (cc' X).code = bt ∧ (cc' X).maxLocals = cL X ∧ (cs X).vm.findClass own = some (cm X).cls ∧ (∀ w ∈ gwl, w.before (ca X) (cs X) = true) ∧ va_K (cD X) vwCl (mm_tys (cY X)) (cs X) ∧ mm_N (cs X) ∧ cB X ≤ (cs X).heap.size ∧ (ch X).locks = false ∧ d ≤ (cR X).frames ∧ 41 * d ≤ (cR X).locals
def gW (X : Cx) (k1 k2 n : Nat) (K L : Nat → Nat) (M : Mm) (pc : Nat) (ls : List (Nat × Value)) (st : List Value) : Prop :=
  ∀ (H : Heap) (locs : List Loc) (ar : Array Slot), mm_H (cD X) (cY X) (cB X) n K L M H → va_S (fun q => cB X ≤ q) (cs X).heap H locs → lv_has ar (cL X) ls →
    W (cp X) (cq X) (ce X) (cR X) (cs X) (cm X) (ca X) (cb X) (ch X) (cc' X) H locs k1 k2 (cQ X) (F0 (cm X) pc ar st)
section GW
variable {X : Cx} {bt : ByteArray} {own : String} {d k1 k2 n : Nat} {K L : Nat → Nat} {M : Mm} {pc : Nat} {ls : List (Nat × Value)} {st : List Value}
theorem gsub (is : List Nat) {ls' : List (Nat × Value)} (h : lv_pick ls is = ls') (k : gW X k1 k2 n K L M pc ls' st) : gW X k1 k2 n K L M pc ls st := fun H locs ar h1 h2 h3 => k H locs ar h1 h2 (lv_sub h3 is h)
theorem g_iconst (o : cOk X bt own d) {c : Int} {v : Int32} (hd : decode bt pc = .ok (.iconst c, 1)) (hv : Int32.ofInt c = v) (k : gW X k1 k2 n K L M (pc + 1) ls (.int v :: st)) : gW X k1 k2 n K L M pc ls (st) := fun H locs ar h1 h2 h3 => lv_iconst o.1 o.2.1 hd hv (k H locs ar h1 h2 h3)
theorem g_bipush (o : cOk X bt own d) {c : Int} {v : Int32} (hd : decode bt pc = .ok (.bipush c, 2)) (hv : (Int8.ofInt c).toInt32 = v) (k : gW X k1 k2 n K L M (pc + 2) ls (.int v :: st)) : gW X k1 k2 n K L M pc ls (st) := fun H locs ar h1 h2 h3 => lv_bipush o.1 o.2.1 hd hv (k H locs ar h1 h2 h3)
theorem g_sipush (o : cOk X bt own d) {c : Int} {v : Int32} (hd : decode bt pc = .ok (.sipush c, 3)) (hv : (Int16.ofInt c).toInt32 = v) (k : gW X k1 k2 n K L M (pc + 3) ls (.int v :: st)) : gW X k1 k2 n K L M pc ls (st) := fun H locs ar h1 h2 h3 => lv_sipush o.1 o.2.1 hd hv (k H locs ar h1 h2 h3)
theorem g_lconst (o : cOk X bt own d) {c : Fin 2} {v : Int64} (hd : decode bt pc = .ok (.lconst c, 1)) (hv : Int64.ofNat (c : Nat) = v) (k : gW X k1 k2 n K L M (pc + 1) ls (.long v :: st)) : gW X k1 k2 n K L M pc ls (st) := fun H locs ar h1 h2 h3 => lv_lconst o.1 o.2.1 hd hv (k H locs ar h1 h2 h3)
theorem g_null (o : cOk X bt own d) (hd : decode bt pc = .ok (.aconst_null, 1)) (k : gW X k1 k2 n K L M (pc + 1) ls (va_rf none :: st)) : gW X k1 k2 n K L M pc ls (st) := fun H locs ar h1 h2 h3 => lv_null o.1 o.2.1 hd (k H locs ar h1 h2 h3)
theorem g_ldc (o : cOk X bt own d) {i : Nat} {v : Int32} (hw : Cond.constant own i v ∈ gwl) (hd : decode bt pc = .ok (.ldc i, 2)) (k : gW X k1 k2 n K L M (pc + 2) ls (.int v :: st)) : gW X k1 k2 n K L M pc ls st := fun H locs ar h1 h2 h3 => lv_ldc o.1 o.2.1 o.2.2.2.1 (o.2.2.2.2.1 _ hw) hd (k H locs ar h1 h2 h3)
theorem g_ldc2 (o : cOk X bt own d) {i : Nat} {v : Int64} (hw : Cond.constantLong own i v ∈ gwl) (hd : decode bt pc = .ok (.ldc2_w i, 3)) (k : gW X k1 k2 n K L M (pc + 3) ls (.long v :: st)) : gW X k1 k2 n K L M pc ls st := fun H locs ar h1 h2 h3 => lv_ldc2 o.1 o.2.1 o.2.2.2.1 (o.2.2.2.2.1 _ hw) hd (k H locs ar h1 h2 h3)
theorem g_iload (o : cOk X bt own d) {i : Nat} {x : Int32} (hd : decode bt pc = .ok (.iload i, 2)) (j : Nat) (hl : ls[j]? = some (i, .int x)) (k : gW X k1 k2 n K L M (pc + 2) ls (.int x :: st)) : gW X k1 k2 n K L M pc ls st := fun H locs ar h1 h2 h3 => lv_iload o.1 o.2.1 hd (lv_at h3 j hl) (k H locs ar h1 h2 h3)
theorem g_iload_n (o : cOk X bt own d) {c : Fin 4} {x : Int32} (hd : decode bt pc = .ok (.iload_n c, 1)) (j : Nat) (hl : ls[j]? = some ((c : Nat), .int x)) (k : gW X k1 k2 n K L M (pc + 1) ls (.int x :: st)) : gW X k1 k2 n K L M pc ls st := fun H locs ar h1 h2 h3 => lv_iload_n o.1 o.2.1 hd rfl (lv_at h3 j hl) (k H locs ar h1 h2 h3)
theorem g_lload (o : cOk X bt own d) {i : Nat} {x : Int64} (hd : decode bt pc = .ok (.lload i, 2)) (j : Nat) (hl : ls[j]? = some (i, .long x)) (k : gW X k1 k2 n K L M (pc + 2) ls (.long x :: st)) : gW X k1 k2 n K L M pc ls st := fun H locs ar h1 h2 h3 => lv_lload o.1 o.2.1 hd (lv_at h3 j hl) (k H locs ar h1 h2 h3)
theorem g_lload_n (o : cOk X bt own d) {c : Fin 4} {x : Int64} (hd : decode bt pc = .ok (.lload_n c, 1)) (j : Nat) (hl : ls[j]? = some ((c : Nat), .long x)) (k : gW X k1 k2 n K L M (pc + 1) ls (.long x :: st)) : gW X k1 k2 n K L M pc ls st := fun H locs ar h1 h2 h3 => lv_lload_n o.1 o.2.1 hd rfl (lv_at h3 j hl) (k H locs ar h1 h2 h3)
theorem g_aload (o : cOk X bt own d) {i : Nat} {r : Option Nat} (hd : decode bt pc = .ok (.aload i, 2)) (j : Nat) (hl : ls[j]? = some (i, va_rf r)) (k : gW X k1 k2 n K L M (pc + 2) ls (va_rf r :: st)) : gW X k1 k2 n K L M pc ls st := fun H locs ar h1 h2 h3 => by
  cases r with
  | none => exact lv_aloadN o.1 o.2.1 hd (lv_at h3 j hl) (k H locs ar h1 h2 h3)
  | some a => exact lv_aload o.1 o.2.1 hd (lv_at h3 j hl) (k H locs ar h1 h2 h3)
theorem g_aload_n (o : cOk X bt own d) {c : Fin 4} {r : Option Nat} (hd : decode bt pc = .ok (.aload_n c, 1)) (j : Nat) (hl : ls[j]? = some ((c : Nat), va_rf r)) (k : gW X k1 k2 n K L M (pc + 1) ls (va_rf r :: st)) : gW X k1 k2 n K L M pc ls st := fun H locs ar h1 h2 h3 => by
  cases r with
  | none => exact lv_aload_nN o.1 o.2.1 hd rfl (lv_at h3 j hl) (k H locs ar h1 h2 h3)
  | some a => exact lv_aload_n o.1 o.2.1 hd rfl (lv_at h3 j hl) (k H locs ar h1 h2 h3)
theorem g_istore (o : cOk X bt own d) {i : Nat} {x : Int32} {ls' : List (Nat × Value)} (hd : decode bt pc = .ok (.istore i, 2)) (hn : i < cL X) (hl : (i, Value.int x) :: ls.filter (fun q => !(q.1 == i) && !(q.1 + 1 == i && q.2.category == 2)) = ls') (k : gW X k1 k2 n K L M (pc + 2) ls' st) : gW X k1 k2 n K L M pc ls (Value.int x :: st) := fun H locs ar h1 h2 h3 => lv_istore o.1 o.2.1 hd h3 hn hl (fun ar h4 => k H locs ar h1 h2 h4)
theorem g_istore_n (o : cOk X bt own d) {i : Nat} {c : Fin 4} {x : Int32} {ls' : List (Nat × Value)} (hd : decode bt pc = .ok (.istore_n c, 1)) (hi : (c : Nat) = i) (hn : i < cL X) (hl : (i, Value.int x) :: ls.filter (fun q => !(q.1 == i) && !(q.1 + 1 == i && q.2.category == 2)) = ls') (k : gW X k1 k2 n K L M (pc + 1) ls' st) : gW X k1 k2 n K L M pc ls (Value.int x :: st) := fun H locs ar h1 h2 h3 => lv_istore_n o.1 o.2.1 hd hi h3 hn hl (fun ar h4 => k H locs ar h1 h2 h4)
theorem g_lstore (o : cOk X bt own d) {i : Nat} {x : Int64} {ls' : List (Nat × Value)} (hd : decode bt pc = .ok (.lstore i, 2)) (hn : i + 1 < cL X) (hl : (i, Value.long x) :: ls.filter (fun q => !(q.1 == i) && (!(q.1 == i + 1) && !(q.1 + 1 == i && q.2.category == 2))) = ls') (k : gW X k1 k2 n K L M (pc + 2) ls' st) : gW X k1 k2 n K L M pc ls (Value.long x :: st) := fun H locs ar h1 h2 h3 => lv_lstore o.1 o.2.1 hd h3 hn hl (fun ar h4 => k H locs ar h1 h2 h4)
theorem g_lstore_n (o : cOk X bt own d) {i : Nat} {c : Fin 4} {x : Int64} {ls' : List (Nat × Value)} (hd : decode bt pc = .ok (.lstore_n c, 1)) (hi : (c : Nat) = i) (hn : i + 1 < cL X) (hl : (i, Value.long x) :: ls.filter (fun q => !(q.1 == i) && (!(q.1 == i + 1) && !(q.1 + 1 == i && q.2.category == 2))) = ls') (k : gW X k1 k2 n K L M (pc + 1) ls' st) : gW X k1 k2 n K L M pc ls (Value.long x :: st) := fun H locs ar h1 h2 h3 => lv_lstore_n o.1 o.2.1 hd hi h3 hn hl (fun ar h4 => k H locs ar h1 h2 h4)
theorem g_astore (o : cOk X bt own d) {i : Nat} {r : Option Nat} {ls' : List (Nat × Value)} (hd : decode bt pc = .ok (.astore i, 2)) (hn : i < cL X) (hl : (i, va_rf r) :: ls.filter (fun q => !(q.1 == i) && !(q.1 + 1 == i && q.2.category == 2)) = ls') (k : gW X k1 k2 n K L M (pc + 2) ls' st) : gW X k1 k2 n K L M pc ls (va_rf r :: st) := fun H locs ar h1 h2 h3 => by
  cases r with
  | none => exact lv_astoreN o.1 o.2.1 hd h3 hn hl (fun ar h4 => k H locs ar h1 h2 h4)
  | some a => exact lv_astore o.1 o.2.1 hd h3 hn hl (fun ar h4 => k H locs ar h1 h2 h4)
theorem g_astore_n (o : cOk X bt own d) {i : Nat} {c : Fin 4} {r : Option Nat} {ls' : List (Nat × Value)} (hd : decode bt pc = .ok (.astore_n c, 1)) (hi : (c : Nat) = i) (hn : i < cL X) (hl : (i, va_rf r) :: ls.filter (fun q => !(q.1 == i) && !(q.1 + 1 == i && q.2.category == 2)) = ls') (k : gW X k1 k2 n K L M (pc + 1) ls' st) : gW X k1 k2 n K L M pc ls (va_rf r :: st) := fun H locs ar h1 h2 h3 => by
  cases r with
  | none => exact lv_astore_nN o.1 o.2.1 hd hi h3 hn hl (fun ar h4 => k H locs ar h1 h2 h4)
  | some a => exact lv_astore_n o.1 o.2.1 hd hi h3 hn hl (fun ar h4 => k H locs ar h1 h2 h4)
theorem g_iinc (o : cOk X bt own d) {i : Nat} {c : Int} {x v : Int32} {ls' : List (Nat × Value)} (hd : decode bt pc = .ok (.iinc i c, 3)) (j : Nat) (hj : ls[j]? = some (i, .int x)) (hv : x + Int32.ofInt c = v) (hn : i < cL X) (hl : (i, Value.int v) :: ls.filter (fun q => !(q.1 == i) && !(q.1 + 1 == i && q.2.category == 2)) = ls') (k : gW X k1 k2 n K L M (pc + 3) ls' st) : gW X k1 k2 n K L M pc ls st := fun H locs ar h1 h2 h3 => lv_iinc o.1 o.2.1 hd h3 hj hv hn hl (fun ar h4 => k H locs ar h1 h2 h4)
theorem g_iadd (o : cOk X bt own d) {x y : Int32} (hd : decode bt pc = .ok (.iadd, 1)) (k : gW X k1 k2 n K L M (pc + 1) ls (.int (x + y) :: st)) : gW X k1 k2 n K L M pc ls (.int y :: .int x :: st) := fun H locs ar h1 h2 h3 => lv_iadd o.1 o.2.1 hd (k H locs ar h1 h2 h3)
theorem g_isub (o : cOk X bt own d) {x y : Int32} (hd : decode bt pc = .ok (.isub, 1)) (k : gW X k1 k2 n K L M (pc + 1) ls (.int (x - y) :: st)) : gW X k1 k2 n K L M pc ls (.int y :: .int x :: st) := fun H locs ar h1 h2 h3 => lv_isub o.1 o.2.1 hd (k H locs ar h1 h2 h3)
theorem g_imul (o : cOk X bt own d) {x y : Int32} (hd : decode bt pc = .ok (.imul, 1)) (k : gW X k1 k2 n K L M (pc + 1) ls (.int (x * y) :: st)) : gW X k1 k2 n K L M pc ls (.int y :: .int x :: st) := fun H locs ar h1 h2 h3 => lv_imul o.1 o.2.1 hd (k H locs ar h1 h2 h3)
theorem g_iand (o : cOk X bt own d) {x y : Int32} (hd : decode bt pc = .ok (.iand, 1)) (k : gW X k1 k2 n K L M (pc + 1) ls (.int (x &&& y) :: st)) : gW X k1 k2 n K L M pc ls (.int y :: .int x :: st) := fun H locs ar h1 h2 h3 => lv_iand o.1 o.2.1 hd (k H locs ar h1 h2 h3)
theorem g_ior (o : cOk X bt own d) {x y : Int32} (hd : decode bt pc = .ok (.ior, 1)) (k : gW X k1 k2 n K L M (pc + 1) ls (.int (x ||| y) :: st)) : gW X k1 k2 n K L M pc ls (.int y :: .int x :: st) := fun H locs ar h1 h2 h3 => lv_ior o.1 o.2.1 hd (k H locs ar h1 h2 h3)
theorem g_ishl (o : cOk X bt own d) {x y : Int32} (hd : decode bt pc = .ok (.ishl, 1)) (k : gW X k1 k2 n K L M (pc + 1) ls (.int (x <<< (y &&& 31)) :: st)) : gW X k1 k2 n K L M pc ls (.int y :: .int x :: st) := fun H locs ar h1 h2 h3 => lv_ishl o.1 o.2.1 hd (k H locs ar h1 h2 h3)
theorem g_ishr (o : cOk X bt own d) {x y : Int32} (hd : decode bt pc = .ok (.ishr, 1)) (k : gW X k1 k2 n K L M (pc + 1) ls (.int (x >>> (y &&& 31)) :: st)) : gW X k1 k2 n K L M pc ls (.int y :: .int x :: st) := fun H locs ar h1 h2 h3 => lv_ishr o.1 o.2.1 hd (k H locs ar h1 h2 h3)
theorem g_ladd (o : cOk X bt own d) {x y : Int64} (hd : decode bt pc = .ok (.ladd, 1)) (k : gW X k1 k2 n K L M (pc + 1) ls (.long (x + y) :: st)) : gW X k1 k2 n K L M pc ls (.long y :: .long x :: st) := fun H locs ar h1 h2 h3 => lv_ladd o.1 o.2.1 hd (k H locs ar h1 h2 h3)
theorem g_lsub (o : cOk X bt own d) {x y : Int64} (hd : decode bt pc = .ok (.lsub, 1)) (k : gW X k1 k2 n K L M (pc + 1) ls (.long (x - y) :: st)) : gW X k1 k2 n K L M pc ls (.long y :: .long x :: st) := fun H locs ar h1 h2 h3 => lv_lsub o.1 o.2.1 hd (k H locs ar h1 h2 h3)
theorem g_lmul (o : cOk X bt own d) {x y : Int64} (hd : decode bt pc = .ok (.lmul, 1)) (k : gW X k1 k2 n K L M (pc + 1) ls (.long (x * y) :: st)) : gW X k1 k2 n K L M pc ls (.long y :: .long x :: st) := fun H locs ar h1 h2 h3 => lv_lmul o.1 o.2.1 hd (k H locs ar h1 h2 h3)
theorem g_land (o : cOk X bt own d) {x y : Int64} (hd : decode bt pc = .ok (.land, 1)) (k : gW X k1 k2 n K L M (pc + 1) ls (.long (x &&& y) :: st)) : gW X k1 k2 n K L M pc ls (.long y :: .long x :: st) := fun H locs ar h1 h2 h3 => lv_land o.1 o.2.1 hd (k H locs ar h1 h2 h3)
theorem g_lor (o : cOk X bt own d) {x y : Int64} (hd : decode bt pc = .ok (.lor, 1)) (k : gW X k1 k2 n K L M (pc + 1) ls (.long (x ||| y) :: st)) : gW X k1 k2 n K L M pc ls (.long y :: .long x :: st) := fun H locs ar h1 h2 h3 => lv_lor o.1 o.2.1 hd (k H locs ar h1 h2 h3)
theorem g_irem (o : cOk X bt own d) {x y : Int32} (hd : decode bt pc = .ok (.irem, 1)) (hz : ¬ y = 0) (k : gW X k1 k2 n K L M (pc + 1) ls (.int (x - x / y * y) :: st)) : gW X k1 k2 n K L M pc ls (.int y :: .int x :: st) := fun H locs ar h1 h2 h3 => lv_irem o.1 o.2.1 hd hz (k H locs ar h1 h2 h3)
theorem g_idiv (o : cOk X bt own d) {x y : Int32} (hd : decode bt pc = .ok (.idiv, 1)) (hz : ¬ y = 0) (k : gW X k1 k2 n K L M (pc + 1) ls (.int (x / y) :: st)) : gW X k1 k2 n K L M pc ls (.int y :: .int x :: st) := fun H locs ar h1 h2 h3 => lv_idiv o.1 o.2.1 hd hz (k H locs ar h1 h2 h3)
theorem g_lrem (o : cOk X bt own d) {x y : Int64} (hd : decode bt pc = .ok (.lrem, 1)) (hz : ¬ y = 0) (k : gW X k1 k2 n K L M (pc + 1) ls (.long (x - x / y * y) :: st)) : gW X k1 k2 n K L M pc ls (.long y :: .long x :: st) := fun H locs ar h1 h2 h3 => lv_lrem o.1 o.2.1 hd hz (k H locs ar h1 h2 h3)
theorem g_ldiv (o : cOk X bt own d) {x y : Int64} (hd : decode bt pc = .ok (.ldiv, 1)) (hz : ¬ y = 0) (k : gW X k1 k2 n K L M (pc + 1) ls (.long (x / y) :: st)) : gW X k1 k2 n K L M pc ls (.long y :: .long x :: st) := fun H locs ar h1 h2 h3 => lv_ldiv o.1 o.2.1 hd hz (k H locs ar h1 h2 h3)
theorem g_ineg (o : cOk X bt own d) {x : Int32} (hd : decode bt pc = .ok (.ineg, 1)) (k : gW X k1 k2 n K L M (pc + 1) ls (.int (-x) :: st)) : gW X k1 k2 n K L M pc ls (.int x :: st) := fun H locs ar h1 h2 h3 => lv_ineg o.1 o.2.1 hd (k H locs ar h1 h2 h3)
theorem g_iushr (o : cOk X bt own d) {x y : Int32} (hd : decode bt pc = .ok (.iushr, 1)) (k : gW X k1 k2 n K L M (pc + 1) ls (.int (x.toUInt32 >>> (y.toUInt32 &&& Int32.toUInt32 31)).toInt32 :: st)) : gW X k1 k2 n K L M pc ls (.int y :: .int x :: st) := fun H locs ar h1 h2 h3 => lv_iushr o.1 o.2.1 hd rfl (k H locs ar h1 h2 h3)
theorem g_lshl (o : cOk X bt own d) {x : Int64} {y : Int32} (hd : decode bt pc = .ok (.lshl, 1)) (k : gW X k1 k2 n K L M (pc + 1) ls (.long (x <<< (y.toInt64 &&& 63)) :: st)) : gW X k1 k2 n K L M pc ls (.int y :: .long x :: st) := fun H locs ar h1 h2 h3 => lv_lshl o.1 o.2.1 hd rfl (k H locs ar h1 h2 h3)
theorem g_i2l (o : cOk X bt own d) {x : Int32} (hd : decode bt pc = .ok (.i2l, 1)) (k : gW X k1 k2 n K L M (pc + 1) ls (.long x.toInt64 :: st)) : gW X k1 k2 n K L M pc ls (.int x :: st) := fun H locs ar h1 h2 h3 => lv_i2l o.1 o.2.1 hd rfl (k H locs ar h1 h2 h3)
theorem g_l2i (o : cOk X bt own d) {x : Int64} (hd : decode bt pc = .ok (.l2i, 1)) (k : gW X k1 k2 n K L M (pc + 1) ls (.int x.toInt32 :: st)) : gW X k1 k2 n K L M pc ls (.long x :: st) := fun H locs ar h1 h2 h3 => lv_l2i o.1 o.2.1 hd rfl (k H locs ar h1 h2 h3)
theorem g_lcmp (o : cOk X bt own d) {x y : Int64} (hd : decode bt pc = .ok (.lcmp, 1)) (k : gW X k1 k2 n K L M (pc + 1) ls (.int (lg_cmp x y) :: st)) : gW X k1 k2 n K L M pc ls (.long y :: .long x :: st) := fun H locs ar h1 h2 h3 => W.lcmp o.1 o.2.1 hd (k H locs ar h1 h2 h3)
theorem g_dup (o : cOk X bt own d) {v : Value} (hd : decode bt pc = .ok (.dup, 1)) (hv : v.category = 1) (k : gW X k1 k2 n K L M (pc + 1) ls (v :: v :: st)) : gW X k1 k2 n K L M pc ls (v :: st) := fun H locs ar h1 h2 h3 => lv_dup o.1 o.2.1 hd hv (k H locs ar h1 h2 h3)
theorem g_dup2 (o : cOk X bt own d) {u v : Value} (hd : decode bt pc = .ok (.dup2, 1)) (hu : u.category = 1) (hv : v.category = 1) (k : gW X k1 k2 n K L M (pc + 1) ls (u :: v :: u :: v :: st)) : gW X k1 k2 n K L M pc ls (u :: v :: st) := fun H locs ar h1 h2 h3 => lv_dup2_11 o.1 o.2.1 hd hu hv (k H locs ar h1 h2 h3)
theorem g_pop (o : cOk X bt own d) {v : Value} (hd : decode bt pc = .ok (.pop, 1)) (hv : v.category = 1) (k : gW X k1 k2 n K L M (pc + 1) ls (st)) : gW X k1 k2 n K L M pc ls (v :: st) := fun H locs ar h1 h2 h3 => lv_pop o.1 o.2.1 hd hv (k H locs ar h1 h2 h3)
theorem g_icmp_eq (o : cOk X bt own d) {x y : Int32} {off : Int} {tgt : Nat} (hd : decode bt pc = .ok (.if_icmp .eq off, 3)) (ht : (pc : Int) + off = (tgt : Int)) (kt : x = y → gW X k1 k2 n K L M tgt ls st) (kf : ¬ x = y → gW X k1 k2 n K L M (pc + 3) ls st) : gW X k1 k2 n K L M pc ls (.int y :: .int x :: st) := fun H locs ar h1 h2 h3 => lv_icmp_eq o.1 o.2.1 hd ht (fun z => kt z H locs ar h1 h2 h3) (fun z => kf z H locs ar h1 h2 h3)
theorem g_icmp_lt (o : cOk X bt own d) {x y : Int32} {off : Int} {tgt : Nat} (hd : decode bt pc = .ok (.if_icmp .lt off, 3)) (ht : (pc : Int) + off = (tgt : Int)) (kt : x < y → gW X k1 k2 n K L M tgt ls st) (kf : ¬ x < y → gW X k1 k2 n K L M (pc + 3) ls st) : gW X k1 k2 n K L M pc ls (.int y :: .int x :: st) := fun H locs ar h1 h2 h3 => lv_icmp_lt o.1 o.2.1 hd ht (fun z => kt z H locs ar h1 h2 h3) (fun z => kf z H locs ar h1 h2 h3)
theorem g_icmp_ge (o : cOk X bt own d) {x y : Int32} {off : Int} {tgt : Nat} (hd : decode bt pc = .ok (.if_icmp .ge off, 3)) (ht : (pc : Int) + off = (tgt : Int)) (kt : y ≤ x → gW X k1 k2 n K L M tgt ls st) (kf : ¬ y ≤ x → gW X k1 k2 n K L M (pc + 3) ls st) : gW X k1 k2 n K L M pc ls (.int y :: .int x :: st) := fun H locs ar h1 h2 h3 => lv_icmp_ge o.1 o.2.1 hd ht (fun z => kt z H locs ar h1 h2 h3) (fun z => kf z H locs ar h1 h2 h3)
theorem g_icmp_gt (o : cOk X bt own d) {x y : Int32} {off : Int} {tgt : Nat} (hd : decode bt pc = .ok (.if_icmp .gt off, 3)) (ht : (pc : Int) + off = (tgt : Int)) (kt : y < x → gW X k1 k2 n K L M tgt ls st) (kf : ¬ y < x → gW X k1 k2 n K L M (pc + 3) ls st) : gW X k1 k2 n K L M pc ls (.int y :: .int x :: st) := fun H locs ar h1 h2 h3 => lv_icmp_gt o.1 o.2.1 hd ht (fun z => kt z H locs ar h1 h2 h3) (fun z => kf z H locs ar h1 h2 h3)
theorem g_icmp_le (o : cOk X bt own d) {x y : Int32} {off : Int} {tgt : Nat} (hd : decode bt pc = .ok (.if_icmp .le off, 3)) (ht : (pc : Int) + off = (tgt : Int)) (kt : x ≤ y → gW X k1 k2 n K L M tgt ls st) (kf : ¬ x ≤ y → gW X k1 k2 n K L M (pc + 3) ls st) : gW X k1 k2 n K L M pc ls (.int y :: .int x :: st) := fun H locs ar h1 h2 h3 => lv_icmp_le o.1 o.2.1 hd ht (fun z => kt z H locs ar h1 h2 h3) (fun z => kf z H locs ar h1 h2 h3)
theorem g_icmp_ne (o : cOk X bt own d) {x y : Int32} {off : Int} {tgt : Nat} (hd : decode bt pc = .ok (.if_icmp .ne off, 3)) (ht : (pc : Int) + off = (tgt : Int)) (kt : ¬ x = y → gW X k1 k2 n K L M tgt ls st) (kf : x = y → gW X k1 k2 n K L M (pc + 3) ls st) : gW X k1 k2 n K L M pc ls (.int y :: .int x :: st) := fun H locs ar h1 h2 h3 => lv_icmp_ne o.1 o.2.1 hd ht (fun z => kt z H locs ar h1 h2 h3) (fun z => kf z H locs ar h1 h2 h3)
theorem g_if_eq (o : cOk X bt own d) {x : Int32} {off : Int} {tgt : Nat} (hd : decode bt pc = .ok (.ifCond .eq off, 3)) (ht : (pc : Int) + off = (tgt : Int)) (kt : x = 0 → gW X k1 k2 n K L M tgt ls st) (kf : ¬ x = 0 → gW X k1 k2 n K L M (pc + 3) ls st) : gW X k1 k2 n K L M pc ls (.int x :: st) := fun H locs ar h1 h2 h3 => lv_if_eq o.1 o.2.1 hd ht (fun z => kt z H locs ar h1 h2 h3) (fun z => kf z H locs ar h1 h2 h3)
theorem g_if_lt (o : cOk X bt own d) {x : Int32} {off : Int} {tgt : Nat} (hd : decode bt pc = .ok (.ifCond .lt off, 3)) (ht : (pc : Int) + off = (tgt : Int)) (kt : x < 0 → gW X k1 k2 n K L M tgt ls st) (kf : ¬ x < 0 → gW X k1 k2 n K L M (pc + 3) ls st) : gW X k1 k2 n K L M pc ls (.int x :: st) := fun H locs ar h1 h2 h3 => lv_if_lt o.1 o.2.1 hd ht (fun z => kt z H locs ar h1 h2 h3) (fun z => kf z H locs ar h1 h2 h3)
theorem g_if_ge (o : cOk X bt own d) {x : Int32} {off : Int} {tgt : Nat} (hd : decode bt pc = .ok (.ifCond .ge off, 3)) (ht : (pc : Int) + off = (tgt : Int)) (kt : 0 ≤ x → gW X k1 k2 n K L M tgt ls st) (kf : ¬ 0 ≤ x → gW X k1 k2 n K L M (pc + 3) ls st) : gW X k1 k2 n K L M pc ls (.int x :: st) := fun H locs ar h1 h2 h3 => lv_if_ge o.1 o.2.1 hd ht (fun z => kt z H locs ar h1 h2 h3) (fun z => kf z H locs ar h1 h2 h3)
theorem g_if_gt (o : cOk X bt own d) {x : Int32} {off : Int} {tgt : Nat} (hd : decode bt pc = .ok (.ifCond .gt off, 3)) (ht : (pc : Int) + off = (tgt : Int)) (kt : 0 < x → gW X k1 k2 n K L M tgt ls st) (kf : ¬ 0 < x → gW X k1 k2 n K L M (pc + 3) ls st) : gW X k1 k2 n K L M pc ls (.int x :: st) := fun H locs ar h1 h2 h3 => lv_if_gt o.1 o.2.1 hd ht (fun z => kt z H locs ar h1 h2 h3) (fun z => kf z H locs ar h1 h2 h3)
theorem g_if_le (o : cOk X bt own d) {x : Int32} {off : Int} {tgt : Nat} (hd : decode bt pc = .ok (.ifCond .le off, 3)) (ht : (pc : Int) + off = (tgt : Int)) (kt : x ≤ 0 → gW X k1 k2 n K L M tgt ls st) (kf : ¬ x ≤ 0 → gW X k1 k2 n K L M (pc + 3) ls st) : gW X k1 k2 n K L M pc ls (.int x :: st) := fun H locs ar h1 h2 h3 => lv_if_le o.1 o.2.1 hd ht (fun z => kt z H locs ar h1 h2 h3) (fun z => kf z H locs ar h1 h2 h3)
theorem g_if_ne (o : cOk X bt own d) {x : Int32} {off : Int} {tgt : Nat} (hd : decode bt pc = .ok (.ifCond .ne off, 3)) (ht : (pc : Int) + off = (tgt : Int)) (kt : ¬ x = 0 → gW X k1 k2 n K L M tgt ls st) (kf : x = 0 → gW X k1 k2 n K L M (pc + 3) ls st) : gW X k1 k2 n K L M pc ls (.int x :: st) := fun H locs ar h1 h2 h3 => lv_if_ne o.1 o.2.1 hd ht (fun z => kt z H locs ar h1 h2 h3) (fun z => kf z H locs ar h1 h2 h3)
theorem g_goto (o : cOk X bt own d) {off : Int} {tgt : Nat} (hd : decode bt pc = .ok (.goto off, 3)) (ht : (pc : Int) + off = (tgt : Int)) (k : gW X k1 k2 n K L M tgt ls st) : gW X k1 k2 n K L M pc ls st := fun H locs ar h1 h2 h3 => lv_goto o.1 o.2.1 hd ht (k H locs ar h1 h2 h3)
theorem g_ifnull (o : cOk X bt own d) {r : Option Nat} {off : Int} {tgt : Nat} (hd : decode bt pc = .ok (.ifnull off, 3)) (ht : (pc : Int) + off = (tgt : Int)) (kt : r = none → gW X k1 k2 n K L M tgt ls st) (kf : ¬ r = none → gW X k1 k2 n K L M (pc + 3) ls st) : gW X k1 k2 n K L M pc ls (va_rf r :: st) := fun H locs ar h1 h2 h3 => by
  cases r with
  | none => exact lv_ifnullN o.1 o.2.1 hd ht (kt rfl H locs ar h1 h2 h3)
  | some a => exact lv_ifnull o.1 o.2.1 hd (kf (fun h => by cases h) H locs ar h1 h2 h3)
theorem g_ifnonnull (o : cOk X bt own d) {r : Option Nat} {off : Int} {tgt : Nat} (hd : decode bt pc = .ok (.ifnonnull off, 3)) (ht : (pc : Int) + off = (tgt : Int)) (kt : ¬ r = none → gW X k1 k2 n K L M tgt ls st) (kf : r = none → gW X k1 k2 n K L M (pc + 3) ls st) : gW X k1 k2 n K L M pc ls (va_rf r :: st) := fun H locs ar h1 h2 h3 => by
  cases r with
  | none => exact lv_ifnonnullN o.1 o.2.1 hd (kf rfl H locs ar h1 h2 h3)
  | some a => exact lv_ifnonnull o.1 o.2.1 hd ht (kt (fun h => by cases h) H locs ar h1 h2 h3)
theorem g_tableIn (o : cOk X bt own d) {dflt lo hi : Int} {offs : Array Int} {len : Nat} {x : Int32} {off : Int} {tgt : Nat} (hd : decode bt pc = .ok (.tableswitch dflt lo hi offs, len)) (h1 : ¬ x.toInt < lo) (h2 : ¬ hi < x.toInt) (ho : offs[(x.toInt - lo).toNat]? = some off) (ht : (pc : Int) + off = (tgt : Int)) (k : gW X k1 k2 n K L M tgt ls st) : gW X k1 k2 n K L M pc ls (.int x :: st) := fun H locs ar i1 i2 i3 => lv_tableIn o.1 o.2.1 hd h1 h2 ho ht (k H locs ar i1 i2 i3)
theorem g_tableOut (o : cOk X bt own d) {dflt lo hi : Int} {offs : Array Int} {len : Nat} {x : Int32} {tgt : Nat} (hd : decode bt pc = .ok (.tableswitch dflt lo hi offs, len)) (h : x.toInt < lo ∨ hi < x.toInt) (ht : (pc : Int) + dflt = (tgt : Int)) (k : gW X k1 k2 n K L M tgt ls st) : gW X k1 k2 n K L M pc ls (.int x :: st) := fun H locs ar i1 i2 i3 => lv_tableOut o.1 o.2.1 hd h ht (k H locs ar i1 i2 i3)
theorem g_lookup (o : cOk X bt own d) {dflt : Int} {ps : Array (Int × Int)} {len : Nat} {x : Int32} {off : Int} {tgt : Nat} (hd : decode bt pc = .ok (.lookupswitch dflt ps, len)) (hp : (ps.toList.zip (ps.toList.drop 1)).all (fun (a, next) => a.1 < next.1) = true) (ho : Op.lookupswitch.offset ps.toList dflt x.toInt = off) (ht : (pc : Int) + off = (tgt : Int)) (k : gW X k1 k2 n K L M tgt ls st) : gW X k1 k2 n K L M pc ls (.int x :: st) := fun H locs ar i1 i2 i3 => lv_lookup o.1 o.2.1 hd hp ho ht (k H locs ar i1 i2 i3)
end GW
end
section
/-! the classes by their numbers; fields, arrays, new cells over the memory -/
def kC (c : Nat) : String := match c with
  | 0 => RX0
  | 1 => RX1
  | 2 => RX2
  | 3 => RX3
  | 4 => RX4
  | 5 => RX5
  | 6 => RX6
  | 7 => RX7
  | 8 => RX8
  | 9 => RX9
  | 10 => RX10
  | 11 => RX11
  | _ => RX12
def kT (c : Nat) : u_T := match c with
  | 0 => TX0
  | 1 => TX1
  | 2 => TX2
  | 3 => TX3
  | 4 => TX4
  | 5 => TX5
  | 6 => TX6
  | 7 => TX7
  | 8 => TX8
  | 9 => TX9
  | 10 => TX10
  | 11 => TX11
  | _ => TX12
def kY (c : Nat) : Nat → FieldType := match c with
  | 0 => tyX0
  | 1 => tyX1
  | 2 => tyX2
  | 3 => tyX3
  | 4 => tyX4
  | 5 => tyX5
  | 6 => tyX6
  | 7 => tyX7
  | 8 => tyX8
  | 9 => tyX9
  | 10 => tyX10
  | 11 => tyX11
  | _ => tyX12
def kN (c : Nat) : Nat := match c with
  | 0 => 7
  | 1 => 8
  | 2 => 5
  | 3 => 3
  | 4 => 4
  | 5 => 4
  | 6 => 5
  | 7 => 2
  | 8 => 1
  | 9 => 13
  | 10 => 11
  | 11 => 6
  | _ => 25
theorem kl_at {c : Nat} (h : c < 13) : vwCl[c]? = some (kC c, kT c, kN c) := by
  rcases (show c = 0 ∨ c = 1 ∨ c = 2 ∨ c = 3 ∨ c = 4 ∨ c = 5 ∨ c = 6 ∨ c = 7 ∨ c = 8 ∨ c = 9 ∨ c = 10 ∨ c = 11 ∨ c = 12 by omega) with rfl | rfl | rfl | rfl | rfl | rfl | rfl | rfl | rfl | rfl | rfl | rfl | rfl <;> rfl
theorem kt_len {c : Nat} (h : c < 13) : (mm_T c).length = kN c := by
  rcases (show c = 0 ∨ c = 1 ∨ c = 2 ∨ c = 3 ∨ c = 4 ∨ c = 5 ∨ c = 6 ∨ c = 7 ∨ c = 8 ∨ c = 9 ∨ c = 10 ∨ c = 11 ∨ c = 12 by omega) with rfl | rfl | rfl | rfl | rfl | rfl | rfl | rfl | rfl | rfl | rfl | rfl | rfl <;> rfl
theorem ky_ok {c : Nat} (h : c < 13) : ∀ k, k < kN c → parseFieldDescriptor (kT c k).2.2.1 = some (kY c k) := by
  rcases (show c = 0 ∨ c = 1 ∨ c = 2 ∨ c = 3 ∨ c = 4 ∨ c = 5 ∨ c = 6 ∨ c = 7 ∨ c = 8 ∨ c = 9 ∨ c = 10 ∨ c = 11 ∨ c = 12 by omega) with rfl | rfl | rfl | rfl | rfl | rfl | rfl | rfl | rfl | rfl | rfl | rfl | rfl
  · exact tyX0_ok
  · exact tyX1_ok
  · exact tyX2_ok
  · exact tyX3_ok
  · exact tyX4_ok
  · exact tyX5_ok
  · exact tyX6_ok
  · exact tyX7_ok
  · exact tyX8_ok
  · exact tyX9_ok
  · exact tyX10_ok
  · exact tyX11_ok
  · exact tyX12_ok
theorem kn_ok {c : Nat} (h : c < 13) : ∀ a, a < kN c → ∀ b, b < kN c → a ≠ b → (kT c a).2.1 ≠ (kT c b).2.1 := by
  rcases (show c = 0 ∨ c = 1 ∨ c = 2 ∨ c = 3 ∨ c = 4 ∨ c = 5 ∨ c = 6 ∨ c = 7 ∨ c = 8 ∨ c = 9 ∨ c = 10 ∨ c = 11 ∨ c = 12 by omega) with rfl | rfl | rfl | rfl | rfl | rfl | rfl | rfl | rfl | rfl | rfl | rfl | rfl
  · exact nmX0
  · exact nmX1
  · exact nmX2
  · exact nmX3
  · exact nmX4
  · exact nmX5
  · exact nmX6
  · exact nmX7
  · exact nmX8
  · exact nmX9
  · exact nmX10
  · exact nmX11
  · exact nmX12
theorem gw_in {w : Cond} {i : Nat} (h : lw_tbl[i]? = some w) (hg : goodWord w = true) : w ∈ gwl := List.mem_filter.mpr ⟨List.mem_of_getElem? h, hg⟩
theorem gw_inT {w : Cond} {i : Nat} (h : tables_1[i]? = some w) (hg : goodWord w = true) : w ∈ gwl := List.mem_filter.mpr ⟨List.mem_append_right _ (List.mem_of_getElem? h), hg⟩
theorem kw_0 : ∀ w ∈ u_ws RX0 TX0 7, w ∈ gwl := by
  intro w h
  obtain ⟨k, hk, rfl⟩ := List.mem_map.mp h
  have hk := List.mem_range.mp hk
  rcases (show k = 0 ∨ k = 1 ∨ k = 2 ∨ k = 3 ∨ k = 4 ∨ k = 5 ∨ k = 6 by omega) with rfl | rfl | rfl | rfl | rfl | rfl | rfl
  · exact gw_inT (i := 344) (by decide +kernel) (by decide +kernel)
  · exact gw_inT (i := 346) (by decide +kernel) (by decide +kernel)
  · exact gw_inT (i := 348) (by decide +kernel) (by decide +kernel)
  · exact gw_inT (i := 350) (by decide +kernel) (by decide +kernel)
  · exact gw_inT (i := 352) (by decide +kernel) (by decide +kernel)
  · exact gw_inT (i := 354) (by decide +kernel) (by decide +kernel)
  · exact gw_inT (i := 356) (by decide +kernel) (by decide +kernel)
theorem kw_1 : ∀ w ∈ u_ws RX1 TX1 8, w ∈ gwl := by
  intro w h
  obtain ⟨k, hk, rfl⟩ := List.mem_map.mp h
  have hk := List.mem_range.mp hk
  rcases (show k = 0 ∨ k = 1 ∨ k = 2 ∨ k = 3 ∨ k = 4 ∨ k = 5 ∨ k = 6 ∨ k = 7 by omega) with rfl | rfl | rfl | rfl | rfl | rfl | rfl | rfl
  · exact gw_inT (i := 75) (by decide +kernel) (by decide +kernel)
  · exact gw_inT (i := 77) (by decide +kernel) (by decide +kernel)
  · exact gw_inT (i := 79) (by decide +kernel) (by decide +kernel)
  · exact gw_inT (i := 81) (by decide +kernel) (by decide +kernel)
  · exact gw_inT (i := 83) (by decide +kernel) (by decide +kernel)
  · exact gw_inT (i := 85) (by decide +kernel) (by decide +kernel)
  · exact gw_inT (i := 87) (by decide +kernel) (by decide +kernel)
  · exact gw_inT (i := 89) (by decide +kernel) (by decide +kernel)
theorem kw_2 : ∀ w ∈ u_ws RX2 TX2 5, w ∈ gwl := by
  intro w h
  obtain ⟨k, hk, rfl⟩ := List.mem_map.mp h
  have hk := List.mem_range.mp hk
  rcases (show k = 0 ∨ k = 1 ∨ k = 2 ∨ k = 3 ∨ k = 4 by omega) with rfl | rfl | rfl | rfl | rfl
  · exact gw_inT (i := 421) (by decide +kernel) (by decide +kernel)
  · exact gw_inT (i := 423) (by decide +kernel) (by decide +kernel)
  · exact gw_inT (i := 425) (by decide +kernel) (by decide +kernel)
  · exact gw_inT (i := 427) (by decide +kernel) (by decide +kernel)
  · exact gw_inT (i := 429) (by decide +kernel) (by decide +kernel)
theorem kw_3 : ∀ w ∈ u_ws RX3 TX3 3, w ∈ gwl := by
  intro w h
  obtain ⟨k, hk, rfl⟩ := List.mem_map.mp h
  have hk := List.mem_range.mp hk
  rcases (show k = 0 ∨ k = 1 ∨ k = 2 by omega) with rfl | rfl | rfl
  · exact gw_inT (i := 319) (by decide +kernel) (by decide +kernel)
  · exact gw_inT (i := 321) (by decide +kernel) (by decide +kernel)
  · exact gw_inT (i := 323) (by decide +kernel) (by decide +kernel)
theorem kw_4 : ∀ w ∈ u_ws RX4 TX4 4, w ∈ gwl := by
  intro w h
  obtain ⟨k, hk, rfl⟩ := List.mem_map.mp h
  have hk := List.mem_range.mp hk
  rcases (show k = 0 ∨ k = 1 ∨ k = 2 ∨ k = 3 by omega) with rfl | rfl | rfl | rfl
  · exact gw_inT (i := 47) (by decide +kernel) (by decide +kernel)
  · exact gw_inT (i := 49) (by decide +kernel) (by decide +kernel)
  · exact gw_inT (i := 51) (by decide +kernel) (by decide +kernel)
  · exact gw_inT (i := 53) (by decide +kernel) (by decide +kernel)
theorem kw_5 : ∀ w ∈ u_ws RX5 TX5 4, w ∈ gwl := by
  intro w h
  obtain ⟨k, hk, rfl⟩ := List.mem_map.mp h
  have hk := List.mem_range.mp hk
  rcases (show k = 0 ∨ k = 1 ∨ k = 2 ∨ k = 3 by omega) with rfl | rfl | rfl | rfl
  · exact gw_inT (i := 103) (by decide +kernel) (by decide +kernel)
  · exact gw_inT (i := 105) (by decide +kernel) (by decide +kernel)
  · exact gw_inT (i := 107) (by decide +kernel) (by decide +kernel)
  · exact gw_inT (i := 109) (by decide +kernel) (by decide +kernel)
theorem kw_6 : ∀ w ∈ u_ws RX6 TX6 5, w ∈ gwl := by
  intro w h
  obtain ⟨k, hk, rfl⟩ := List.mem_map.mp h
  have hk := List.mem_range.mp hk
  rcases (show k = 0 ∨ k = 1 ∨ k = 2 ∨ k = 3 ∨ k = 4 by omega) with rfl | rfl | rfl | rfl | rfl
  · exact gw_inT (i := 283) (by decide +kernel) (by decide +kernel)
  · exact gw_inT (i := 285) (by decide +kernel) (by decide +kernel)
  · exact gw_inT (i := 287) (by decide +kernel) (by decide +kernel)
  · exact gw_inT (i := 289) (by decide +kernel) (by decide +kernel)
  · exact gw_inT (i := 291) (by decide +kernel) (by decide +kernel)
theorem kw_7 : ∀ w ∈ u_ws RX7 TX7 2, w ∈ gwl := by
  intro w h
  obtain ⟨k, hk, rfl⟩ := List.mem_map.mp h
  have hk := List.mem_range.mp hk
  rcases (show k = 0 ∨ k = 1 by omega) with rfl | rfl
  · exact gw_inT (i := 302) (by decide +kernel) (by decide +kernel)
  · exact gw_inT (i := 304) (by decide +kernel) (by decide +kernel)
theorem kw_8 : ∀ w ∈ u_ws RX8 TX8 1, w ∈ gwl := by
  intro w h
  obtain ⟨k, hk, rfl⟩ := List.mem_map.mp h
  have hk := List.mem_range.mp hk
  rcases (show k = 0 by omega) with rfl
  · exact gw_inT (i := 57) (by decide +kernel) (by decide +kernel)
theorem kw_9 : ∀ w ∈ u_ws RX9 TX9 13, w ∈ gwl := by
  intro w h
  obtain ⟨k, hk, rfl⟩ := List.mem_map.mp h
  have hk := List.mem_range.mp hk
  rcases (show k = 0 ∨ k = 1 ∨ k = 2 ∨ k = 3 ∨ k = 4 ∨ k = 5 ∨ k = 6 ∨ k = 7 ∨ k = 8 ∨ k = 9 ∨ k = 10 ∨ k = 11 ∨ k = 12 by omega) with rfl | rfl | rfl | rfl | rfl | rfl | rfl | rfl | rfl | rfl | rfl | rfl | rfl
  · exact gw_inT (i := 463) (by decide +kernel) (by decide +kernel)
  · exact gw_inT (i := 465) (by decide +kernel) (by decide +kernel)
  · exact gw_inT (i := 467) (by decide +kernel) (by decide +kernel)
  · exact gw_inT (i := 469) (by decide +kernel) (by decide +kernel)
  · exact gw_inT (i := 471) (by decide +kernel) (by decide +kernel)
  · exact gw_inT (i := 473) (by decide +kernel) (by decide +kernel)
  · exact gw_inT (i := 475) (by decide +kernel) (by decide +kernel)
  · exact gw_inT (i := 477) (by decide +kernel) (by decide +kernel)
  · exact gw_inT (i := 479) (by decide +kernel) (by decide +kernel)
  · exact gw_inT (i := 481) (by decide +kernel) (by decide +kernel)
  · exact gw_inT (i := 483) (by decide +kernel) (by decide +kernel)
  · exact gw_inT (i := 485) (by decide +kernel) (by decide +kernel)
  · exact gw_inT (i := 487) (by decide +kernel) (by decide +kernel)
theorem kw_10 : ∀ w ∈ u_ws RX10 TX10 11, w ∈ gwl := by
  intro w h
  obtain ⟨k, hk, rfl⟩ := List.mem_map.mp h
  have hk := List.mem_range.mp hk
  rcases (show k = 0 ∨ k = 1 ∨ k = 2 ∨ k = 3 ∨ k = 4 ∨ k = 5 ∨ k = 6 ∨ k = 7 ∨ k = 8 ∨ k = 9 ∨ k = 10 by omega) with rfl | rfl | rfl | rfl | rfl | rfl | rfl | rfl | rfl | rfl | rfl
  · exact gw_inT (i := 385) (by decide +kernel) (by decide +kernel)
  · exact gw_inT (i := 387) (by decide +kernel) (by decide +kernel)
  · exact gw_inT (i := 389) (by decide +kernel) (by decide +kernel)
  · exact gw_inT (i := 391) (by decide +kernel) (by decide +kernel)
  · exact gw_inT (i := 393) (by decide +kernel) (by decide +kernel)
  · exact gw_inT (i := 395) (by decide +kernel) (by decide +kernel)
  · exact gw_inT (i := 397) (by decide +kernel) (by decide +kernel)
  · exact gw_inT (i := 399) (by decide +kernel) (by decide +kernel)
  · exact gw_inT (i := 401) (by decide +kernel) (by decide +kernel)
  · exact gw_inT (i := 403) (by decide +kernel) (by decide +kernel)
  · exact gw_inT (i := 405) (by decide +kernel) (by decide +kernel)
theorem kw_11 : ∀ w ∈ u_ws RX11 TX11 6, w ∈ gwl := by
  intro w h
  obtain ⟨k, hk, rfl⟩ := List.mem_map.mp h
  have hk := List.mem_range.mp hk
  rcases (show k = 0 ∨ k = 1 ∨ k = 2 ∨ k = 3 ∨ k = 4 ∨ k = 5 by omega) with rfl | rfl | rfl | rfl | rfl | rfl
  · exact gw_inT (i := 118) (by decide +kernel) (by decide +kernel)
  · exact gw_inT (i := 120) (by decide +kernel) (by decide +kernel)
  · exact gw_inT (i := 122) (by decide +kernel) (by decide +kernel)
  · exact gw_inT (i := 124) (by decide +kernel) (by decide +kernel)
  · exact gw_inT (i := 126) (by decide +kernel) (by decide +kernel)
  · exact gw_inT (i := 128) (by decide +kernel) (by decide +kernel)
theorem kw_12 : ∀ w ∈ u_ws RX12 TX12 25, w ∈ gwl := by
  intro w h
  obtain ⟨k, hk, rfl⟩ := List.mem_map.mp h
  have hk := List.mem_range.mp hk
  rcases (show k = 0 ∨ k = 1 ∨ k = 2 ∨ k = 3 ∨ k = 4 ∨ k = 5 ∨ k = 6 ∨ k = 7 ∨ k = 8 ∨ k = 9 ∨ k = 10 ∨ k = 11 ∨ k = 12 ∨ k = 13 ∨ k = 14 ∨ k = 15 ∨ k = 16 ∨ k = 17 ∨ k = 18 ∨ k = 19 ∨ k = 20 ∨ k = 21 ∨ k = 22 ∨ k = 23 ∨ k = 24 by omega) with rfl | rfl | rfl | rfl | rfl | rfl | rfl | rfl | rfl | rfl | rfl | rfl | rfl | rfl | rfl | rfl | rfl | rfl | rfl | rfl | rfl | rfl | rfl | rfl | rfl
  · exact gw_inT (i := 1029) (by decide +kernel) (by decide +kernel)
  · exact gw_inT (i := 1031) (by decide +kernel) (by decide +kernel)
  · exact gw_inT (i := 1033) (by decide +kernel) (by decide +kernel)
  · exact gw_inT (i := 1035) (by decide +kernel) (by decide +kernel)
  · exact gw_inT (i := 1037) (by decide +kernel) (by decide +kernel)
  · exact gw_inT (i := 1039) (by decide +kernel) (by decide +kernel)
  · exact gw_inT (i := 1041) (by decide +kernel) (by decide +kernel)
  · exact gw_inT (i := 1043) (by decide +kernel) (by decide +kernel)
  · exact gw_inT (i := 1045) (by decide +kernel) (by decide +kernel)
  · exact gw_inT (i := 1047) (by decide +kernel) (by decide +kernel)
  · exact gw_inT (i := 1049) (by decide +kernel) (by decide +kernel)
  · exact gw_inT (i := 1051) (by decide +kernel) (by decide +kernel)
  · exact gw_inT (i := 1053) (by decide +kernel) (by decide +kernel)
  · exact gw_inT (i := 1055) (by decide +kernel) (by decide +kernel)
  · exact gw_inT (i := 1057) (by decide +kernel) (by decide +kernel)
  · exact gw_inT (i := 1059) (by decide +kernel) (by decide +kernel)
  · exact gw_inT (i := 1061) (by decide +kernel) (by decide +kernel)
  · exact gw_inT (i := 1063) (by decide +kernel) (by decide +kernel)
  · exact gw_inT (i := 1065) (by decide +kernel) (by decide +kernel)
  · exact gw_inT (i := 1067) (by decide +kernel) (by decide +kernel)
  · exact gw_inT (i := 1069) (by decide +kernel) (by decide +kernel)
  · exact gw_inT (i := 1071) (by decide +kernel) (by decide +kernel)
  · exact gw_inT (i := 1073) (by decide +kernel) (by decide +kernel)
  · exact gw_inT (i := 1075) (by decide +kernel) (by decide +kernel)
  · exact gw_inT (i := 1077) (by decide +kernel) (by decide +kernel)
theorem kw_in {c : Nat} (h : c < 13) : ∀ w ∈ u_ws (kC c) (kT c) (kN c), w ∈ gwl := by
  rcases (show c = 0 ∨ c = 1 ∨ c = 2 ∨ c = 3 ∨ c = 4 ∨ c = 5 ∨ c = 6 ∨ c = 7 ∨ c = 8 ∨ c = 9 ∨ c = 10 ∨ c = 11 ∨ c = 12 by omega) with rfl | rfl | rfl | rfl | rfl | rfl | rfl | rfl | rfl | rfl | rfl | rfl | rfl
  · exact kw_0
  · exact kw_1
  · exact kw_2
  · exact kw_3
  · exact kw_4
  · exact kw_5
  · exact kw_6
  · exact kw_7
  · exact kw_8
  · exact kw_9
  · exact kw_10
  · exact kw_11
  · exact kw_12
def rc (K : Nat → Nat) (r : Option Nat) (c : Nat) : Option Nat := match r with
  | none => none
  | some a => if K a = c then some a else none
def rx (K L : Nat → Nat) (r : Option Nat) (c : Nat) (i : Int32) : Option Nat := match r with
  | none => none
  | some a => if K a = c ∧ ¬ (i < 0 ∨ L a ≤ i.toNatClampNeg) then some a else none
theorem rc_at {K : Nat → Nat} {r : Option Nat} {c a : Nat} (h : rc K r c = some a) : r = some a ∧ K a = c := by
  cases r with
  | none => cases h
  | some b =>
    simp only [rc] at h
    split at h
    · cases h
      exact ⟨rfl, by assumption⟩
    · cases h
theorem rx_at {K L : Nat → Nat} {r : Option Nat} {c a : Nat} {i : Int32} (h : rx K L r c i = some a) : r = some a ∧ K a = c ∧ vp_in i (L a) := by
  cases r with
  | none => cases h
  | some b =>
    simp only [rx] at h
    split at h
    · cases h
      rename_i h1
      exact ⟨rfl, h1.1, h1.2⟩
    · cases h
theorem ob {α β : Type} {x : Option α} {f : α → Option β} {r : β} (h : Option.bind x f = some r) : ∃ a, x = some a ∧ f a = some r := by
  cases x with
  | none => cases h
  | some a => exact ⟨a, rfl, h⟩
theorem va_S_sz {A : Nat → Prop} {H0 H : Heap} {locs : List Loc} (h : va_S A H0 H locs) : H0.size ≤ H.size := h.1
section GH
variable {X : Cx} {bt : ByteArray} {own : String} {d k1 k2 n : Nat} {K L : Nat → Nat} {M : Mm} {pc : Nat} {ls : List (Nat × Value)} {st : List Value}
abbrev kLink (own : String) (i c k : Nat) : Cond := .fieldLink own i (kT c k).1 (kT c k).2.1 (kT c k).2.2.1
theorem g_get (o : cOk X bt own d) {a c k t i : Nat} (hw : kLink own i c k ∈ gwl) (hK : K a = c) (hc : c < 13) (ht : (mm_T c)[k]? = some t) (hd : decode bt pc = .ok (.getfield i, 3)) (kk : gW X k1 k2 n K L M (pc + 3) ls (mm_V M t (32 * c + k) a :: st)) : gW X k1 k2 n K L M pc ls (.ref a :: st) := fun H locs ar h1 h2 h3 => by
  obtain ⟨q, hq⟩ := mw_at h1 (a := a) (by omega)
  rw [mm_E_o hK hc] at hq
  exact va_get o.1 o.2.1 o.2.2.2.2.1 (kw_in hc) o.2.2.2.1 o.2.2.2.2.2.1 h1.2.2 q hq (kl_at hc) k (by have := (List.getElem?_eq_some_iff.mp ht).1; rw [kt_len hc] at this; exact this) (o.2.2.2.2.1 _ hw) (fun _ h => h) (mm_F_at ht) hd (kk H locs ar h1 h2 h3)
theorem g_getI (o : cOk X bt own d) {r : Option Nat} {a c k i : Nat} (hw : kLink own i c k ∈ gwl) (hr : rc K r c = some a) (hc : c < 13) (ht : (mm_T c)[k]? = some 0) (hd : decode bt pc = .ok (.getfield i, 3)) (kk : gW X k1 k2 n K L M (pc + 3) ls (.int (mm_I M (32 * c + k) a) :: st)) : gW X k1 k2 n K L M pc ls (va_rf r :: st) := by
  obtain ⟨rfl, hk⟩ := rc_at hr
  exact g_get o hw hk hc ht hd kk
theorem g_getJ (o : cOk X bt own d) {r : Option Nat} {a c k i : Nat} (hw : kLink own i c k ∈ gwl) (hr : rc K r c = some a) (hc : c < 13) (ht : (mm_T c)[k]? = some 1) (hd : decode bt pc = .ok (.getfield i, 3)) (kk : gW X k1 k2 n K L M (pc + 3) ls (.long (mm_J M (32 * c + k) a) :: st)) : gW X k1 k2 n K L M pc ls (va_rf r :: st) := by
  obtain ⟨rfl, hk⟩ := rc_at hr
  exact g_get o hw hk hc ht hd kk
theorem g_getR (o : cOk X bt own d) {r : Option Nat} {a c k i : Nat} (hw : kLink own i c k ∈ gwl) (hr : rc K r c = some a) (hc : c < 13) (ht : (mm_T c)[k]? = some 2) (hd : decode bt pc = .ok (.getfield i, 3)) (kk : gW X k1 k2 n K L M (pc + 3) ls (va_rf (mm_R M (32 * c + k) a) :: st)) : gW X k1 k2 n K L M pc ls (va_rf r :: st) := by
  obtain ⟨rfl, hk⟩ := rc_at hr
  exact g_get o hw hk hc ht hd kk
theorem g_sz {H H1 : Heap} {locs : List Loc} {T : State} (hz : (cs X).heap.size + k1 = cB X + n) (h1 : mm_H (cD X) (cY X) (cB X) n K L M H) (hs : va_S (fun q => cB X ≤ q) H H1 locs) (hT : T.heap = H1) (Z : Stand (cp X) (cq X) (ce X) (cR X) (cs X) (cm X) (ca X) (cb X) (ch X) (cc' X) T locs k1 k2) : H1.size = H.size := by
  have e1 := Z.heapSize
  rw [hT] at e1
  have e2 := hs.1
  have e3 := h1.1
  omega
theorem g_back {H H1 : Heap} {locs locs1 : List Loc} (h2 : va_S (fun q => cB X ≤ q) (cs X).heap H locs) (h4 : va_S (fun q => cB X ≤ q) H H1 locs1) : va_S (fun q => cB X ≤ q) (cs X).heap H1 locs1 := ⟨Nat.le_trans h2.1 h4.1, fun q a b => (h4.2.1 q (Nat.lt_of_lt_of_le a h2.1) b).trans (h2.2.1 q a b), h4.2.2⟩
theorem g_put (o : cOk X bt own d) (hz : (cs X).heap.size + k1 = cB X + n) {M' : Mm} {v : Value} {a c k i : Nat} (hw : kLink own i c k ∈ gwl) (hK : K a = c) (hc : c < 13) (hk : k < (mm_T c).length) (hfin : (kT c k).2.2.2 = false) (hn : narrow (kY c k) v = v) (hf : fits (kY c k) v = true) (he : va_up (mm_E (cY X) K L M) a (.inr (c, (mm_F M c a).set k v)) = mm_E (cY X) K L M') (hd : decode bt pc = .ok (.putfield i, 3)) (kk : gW X k1 k2 n K L M' (pc + 3) ls st) : gW X k1 k2 n K L M pc ls (v :: .ref a :: st) := fun H locs ar h1 h2 h3 => by
  obtain ⟨q, hq⟩ := mw_at h1 (a := a) (by omega)
  have hq0 := hq
  rw [mm_E_o hK hc] at hq
  have hkN : k < kN c := by rw [← kt_len hc]; exact hk
  have hA : va_S (fun q => cB X ≤ q) H H locs := ⟨Nat.le_refl _, fun _ _ _ => rfl, h2.2.2⟩
  exact va_put o.1 o.2.1 o.2.2.2.2.1 (kw_in hc) (kY c) (ky_ok hc) (kn_ok hc) o.2.2.2.1 o.2.2.2.2.2.1 h1.2.2 (mw_D _ _ _) hA q hq (kl_at hc) k hkN (o.2.2.2.2.1 _ hw) (fun _ h => h) hfin (ky_ok hc k hkN) hn hf (by rw [mm_F, List.length_mapIdx]; exact hk) hd (fun H1 locs1 p1 p2 p3 T hT Z => kk H1 locs1 ar (mw_set h1 (by omega) hq0 he (g_sz hz h1 p3 hT Z) p1) (g_back h2 p3) h3 T hT Z)
theorem g_putF (o : cOk X bt own d) (hz : (cs X).heap.size + k1 = cB X + n) (hin : (ch X).name = "<init>") {M' : Mm} {v : Value} {a c k i : Nat} (hw : kLink own i c k ∈ gwl) (hK : K a = c) (hc : c < 13) (hk : k < (mm_T c).length) (hfin : (kT c k).2.2.2 = true) (hdc : (kT c k).1 = own) (hn : narrow (kY c k) v = v) (hf : fits (kY c k) v = true) (he : va_up (mm_E (cY X) K L M) a (.inr (c, (mm_F M c a).set k v)) = mm_E (cY X) K L M') (hd : decode bt pc = .ok (.putfield i, 3)) (kk : gW X k1 k2 n K L M' (pc + 3) ls st) : gW X k1 k2 n K L M pc ls (v :: .ref a :: st) := fun H locs ar h1 h2 h3 => by
  obtain ⟨q, hq⟩ := mw_at h1 (a := a) (by omega)
  have hq0 := hq
  rw [mm_E_o hK hc] at hq
  have hkN : k < kN c := by rw [← kt_len hc]; exact hk
  have hA : va_S (fun q => cB X ≤ q) H H locs := ⟨Nat.le_refl _, fun _ _ _ => rfl, h2.2.2⟩
  exact va_putF o.1 o.2.1 o.2.2.2.2.1 (kw_in hc) (kY c) (ky_ok hc) (kn_ok hc) o.2.2.2.1 o.2.2.2.2.2.1 h1.2.2 (mw_D _ _ _) hA q hq (kl_at hc) k hkN (o.2.2.2.2.1 _ hw) (fun _ h => h) hfin hin hdc (ky_ok hc k hkN) hn hf (by rw [mm_F, List.length_mapIdx]; exact hk) hd (fun H1 locs1 p1 p2 p3 T hT Z => kk H1 locs1 ar (mw_set h1 (by omega) hq0 he (g_sz hz h1 p3 hT Z) p1) (g_back h2 p3) h3 T hT Z)
theorem kfit_r {ty : FieldType} (h : refKind ty = true) (r : Option Nat) : narrow ty (va_rf r) = va_rf r ∧ fits ty (va_rf r) = true := by
  cases ty <;> first | (exact absurd h (by decide)) | (cases r <;> exact ⟨rfl, rfl⟩)
theorem g_putI (o : cOk X bt own d) (hz : (cs X).heap.size + k1 = cB X + n) {r : Option Nat} {v : Int32} {a c k i : Nat} (hw : kLink own i c k ∈ gwl) (hr : rc K r c = some a) (hc : c < 13) (ht : (mm_T c)[k]? = some 0) (hfin : (kT c k).2.2.2 = false) (hy : kY c k = .int) (hd : decode bt pc = .ok (.putfield i, 3)) (kk : gW X k1 k2 n K L (ms_I M (32 * c + k) a v) (pc + 3) ls st) : gW X k1 k2 n K L M pc ls (.int v :: va_rf r :: st) := by
  obtain ⟨rfl, hk⟩ := rc_at hr
  exact g_put o hz hw hk hc (List.getElem?_eq_some_iff.mp ht).1 hfin (by rw [hy]; rfl) (by rw [hy]; rfl) (me_setI v hk hc ht) hd kk
theorem g_putZ (o : cOk X bt own d) (hz : (cs X).heap.size + k1 = cB X + n) {r : Option Nat} {v : Int32} {a c k i : Nat} (hw : kLink own i c k ∈ gwl) (hr : rc K r c = some a) (hc : c < 13) (ht : (mm_T c)[k]? = some 0) (hfin : (kT c k).2.2.2 = false) (hy : kY c k = .boolean) (hv : v = 0 ∨ v = 1) (hd : decode bt pc = .ok (.putfield i, 3)) (kk : gW X k1 k2 n K L (ms_I M (32 * c + k) a v) (pc + 3) ls st) : gW X k1 k2 n K L M pc ls (.int v :: va_rf r :: st) := by
  obtain ⟨rfl, hk⟩ := rc_at hr
  exact g_put o hz hw hk hc (List.getElem?_eq_some_iff.mp ht).1 hfin (by rw [hy]; rcases hv with rfl | rfl <;> decide) (by rw [hy]; rcases hv with rfl | rfl <;> decide) (me_setI v hk hc ht) hd kk
theorem g_putJ (o : cOk X bt own d) (hz : (cs X).heap.size + k1 = cB X + n) {r : Option Nat} {v : Int64} {a c k i : Nat} (hw : kLink own i c k ∈ gwl) (hr : rc K r c = some a) (hc : c < 13) (ht : (mm_T c)[k]? = some 1) (hfin : (kT c k).2.2.2 = false) (hy : kY c k = .long) (hd : decode bt pc = .ok (.putfield i, 3)) (kk : gW X k1 k2 n K L (ms_J M (32 * c + k) a v) (pc + 3) ls st) : gW X k1 k2 n K L M pc ls (.long v :: va_rf r :: st) := by
  obtain ⟨rfl, hk⟩ := rc_at hr
  exact g_put o hz hw hk hc (List.getElem?_eq_some_iff.mp ht).1 hfin (by rw [hy]; rfl) (by rw [hy]; rfl) (me_setJ v hk hc ht) hd kk
theorem g_putR (o : cOk X bt own d) (hz : (cs X).heap.size + k1 = cB X + n) {r v : Option Nat} {a c k i : Nat} (hw : kLink own i c k ∈ gwl) (hr : rc K r c = some a) (hc : c < 13) (ht : (mm_T c)[k]? = some 2) (hfin : (kT c k).2.2.2 = false) (hy : refKind (kY c k) = true) (hd : decode bt pc = .ok (.putfield i, 3)) (kk : gW X k1 k2 n K L (ms_R M (32 * c + k) a v) (pc + 3) ls st) : gW X k1 k2 n K L M pc ls (va_rf v :: va_rf r :: st) := by
  obtain ⟨rfl, hk⟩ := rc_at hr
  exact g_put o hz hw hk hc (List.getElem?_eq_some_iff.mp ht).1 hfin (kfit_r hy v).1 (kfit_r hy v).2 (me_setR v hk hc ht) hd kk
theorem g_putFR (o : cOk X bt own d) (hz : (cs X).heap.size + k1 = cB X + n) (hin : (ch X).name = "<init>") {r v : Option Nat} {a c k i : Nat} (hw : kLink own i c k ∈ gwl) (hr : rc K r c = some a) (hc : c < 13) (ht : (mm_T c)[k]? = some 2) (hfin : (kT c k).2.2.2 = true) (hdc : (kT c k).1 = own) (hy : refKind (kY c k) = true) (hd : decode bt pc = .ok (.putfield i, 3)) (kk : gW X k1 k2 n K L (ms_R M (32 * c + k) a v) (pc + 3) ls st) : gW X k1 k2 n K L M pc ls (va_rf v :: va_rf r :: st) := by
  obtain ⟨rfl, hk⟩ := rc_at hr
  exact g_putF o hz hin hw hk hc (List.getElem?_eq_some_iff.mp ht).1 hfin hdc (kfit_r hy v).1 (kfit_r hy v).2 (me_setR v hk hc ht) hd kk
theorem g_iald (o : cOk X bt own d) {r : Option Nat} {a : Nat} {i : Int32} (hr : rx K L r 13 i = some a) (hd : decode bt pc = .ok (.iaload, 1)) (kk : gW X k1 k2 n K L M (pc + 1) ls (.int (mm_A M a i.toNatClampNeg) :: st)) : gW X k1 k2 n K L M pc ls (.int i :: va_rf r :: st) := fun H locs ar h1 h2 h3 => by
  obtain ⟨rfl, hK, hi⟩ := rx_at hr
  obtain ⟨q, hq⟩ := mw_at h1 (a := a) (by omega)
  rw [mm_E_i hK] at hq
  exact va_iald o.1 o.2.1 o.2.2.2.2.2.1 h1.2.2 q 0 hq rfl hi hd (kk H locs ar h1 h2 h3)
theorem g_zald (o : cOk X bt own d) {r : Option Nat} {a : Nat} {i : Int32} (hr : rx K L r 15 i = some a) (hd : decode bt pc = .ok (.baload, 1)) (kk : gW X k1 k2 n K L M (pc + 1) ls (.int (mm_A M a i.toNatClampNeg) :: st)) : gW X k1 k2 n K L M pc ls (.int i :: va_rf r :: st) := fun H locs ar h1 h2 h3 => by
  obtain ⟨rfl, hK, hi⟩ := rx_at hr
  obtain ⟨q, hq⟩ := mw_at h1 (a := a) (by omega)
  rw [mm_E_z hK] at hq
  exact va_zald o.1 o.2.1 o.2.2.2.2.2.1 h1.2.2 q 2 hq rfl hi hd (kk H locs ar h1 h2 h3)
theorem g_lald (o : cOk X bt own d) {r : Option Nat} {a : Nat} {i : Int32} (hr : rx K L r 14 i = some a) (hd : decode bt pc = .ok (.laload, 1)) (kk : gW X k1 k2 n K L M (pc + 1) ls (.long (mm_B M a i.toNatClampNeg) :: st)) : gW X k1 k2 n K L M pc ls (.int i :: va_rf r :: st) := fun H locs ar h1 h2 h3 => by
  obtain ⟨rfl, hK, hi⟩ := rx_at hr
  obtain ⟨q, hq⟩ := mw_at h1 (a := a) (by omega)
  rw [mm_E_l hK] at hq
  exact va_lald o.1 o.2.1 o.2.2.2.2.2.1 h1.2.2 q 1 hq rfl hi hd (kk H locs ar h1 h2 h3)
theorem g_aald (o : cOk X bt own d) {r : Option Nat} {a k : Nat} {i : Int32} (hk : k = 16 ∨ k = 17) (hr : rx K L r k i = some a) (hd : decode bt pc = .ok (.aaload, 1)) (kk : gW X k1 k2 n K L M (pc + 1) ls (va_rf (mm_C M a i.toNatClampNeg) :: st)) : gW X k1 k2 n K L M pc ls (.int i :: va_rf r :: st) := fun H locs ar h1 h2 h3 => by
  obtain ⟨rfl, hK, hi⟩ := rx_at hr
  obtain ⟨q, hq⟩ := mw_at h1 (a := a) (by omega)
  rcases hk with rfl | rfl
  · rw [mm_E_r hK (by decide)] at hq
    exact va_aldq o.1 o.2.1 o.2.2.2.2.2.1 h1.2.2 q 3 hq rfl hi hd (kk H locs ar h1 h2 h3)
  · rw [mm_E_r hK (by decide)] at hq
    exact va_aldq o.1 o.2.1 o.2.2.2.2.2.1 h1.2.2 q 4 hq rfl hi hd (kk H locs ar h1 h2 h3)
theorem g_iast (o : cOk X bt own d) (hz : (cs X).heap.size + k1 = cB X + n) {r : Option Nat} {a : Nat} {i v : Int32} (hr : rx K L r 13 i = some a) (hd : decode bt pc = .ok (.iastore, 1)) (kk : gW X k1 k2 n K L (ms_A M a (upd (mm_A M a) i.toNatClampNeg v)) (pc + 1) ls st) : gW X k1 k2 n K L M pc ls (.int v :: .int i :: va_rf r :: st) := fun H locs ar h1 h2 h3 => by
  obtain ⟨rfl, hK, hi⟩ := rx_at hr
  obtain ⟨q, hq⟩ := mw_at h1 (a := a) (by omega)
  have hq0 := hq
  rw [mm_E_i hK] at hq
  have hA : va_S (fun q => cB X ≤ q) H H locs := ⟨Nat.le_refl _, fun _ _ _ => rfl, h2.2.2⟩
  exact va_iast o.1 o.2.1 o.2.2.2.2.2.1 h1.2.2 (mw_D _ _ _) hA q 0 hq rfl hi hd (fun H1 locs1 p1 p2 p3 T hT Z => kk H1 locs1 ar (mw_set h1 (by omega) hq0 (me_setA _ hK (Or.inl rfl)) (g_sz hz h1 p3 hT Z) p1) (g_back h2 p3) h3 T hT Z)
theorem g_zast (o : cOk X bt own d) (hz : (cs X).heap.size + k1 = cB X + n) {r : Option Nat} {a : Nat} {i v : Int32} (hr : rx K L r 15 i = some a) (hv : v = 0 ∨ v = 1) (hd : decode bt pc = .ok (.bastore, 1)) (kk : gW X k1 k2 n K L (ms_A M a (upd (mm_A M a) i.toNatClampNeg v)) (pc + 1) ls st) : gW X k1 k2 n K L M pc ls (.int v :: .int i :: va_rf r :: st) := fun H locs ar h1 h2 h3 => by
  obtain ⟨rfl, hK, hi⟩ := rx_at hr
  obtain ⟨q, hq⟩ := mw_at h1 (a := a) (by omega)
  have hq0 := hq
  rw [mm_E_z hK] at hq
  have hA : va_S (fun q => cB X ≤ q) H H locs := ⟨Nat.le_refl _, fun _ _ _ => rfl, h2.2.2⟩
  have hv' : vp_nar .boolean v = v := by rcases hv with rfl | rfl <;> decide
  exact va_zast o.1 o.2.1 o.2.2.2.2.2.1 h1.2.2 (mw_D _ _ _) hA q 2 hq rfl hi hd (fun H1 locs1 p1 p2 p3 T hT Z => kk H1 locs1 ar (mw_set h1 (by omega) hq0 (by rw [hv']; exact me_setA _ hK (Or.inr rfl)) (g_sz hz h1 p3 hT Z) p1) (g_back h2 p3) h3 T hT Z)
theorem g_last (o : cOk X bt own d) (hz : (cs X).heap.size + k1 = cB X + n) {r : Option Nat} {a : Nat} {i : Int32} {v : Int64} (hr : rx K L r 14 i = some a) (hd : decode bt pc = .ok (.lastore, 1)) (kk : gW X k1 k2 n K L (ms_B M a (vp_updL (mm_B M a) i.toNatClampNeg v)) (pc + 1) ls st) : gW X k1 k2 n K L M pc ls (.long v :: .int i :: va_rf r :: st) := fun H locs ar h1 h2 h3 => by
  obtain ⟨rfl, hK, hi⟩ := rx_at hr
  obtain ⟨q, hq⟩ := mw_at h1 (a := a) (by omega)
  have hq0 := hq
  rw [mm_E_l hK] at hq
  have hA : va_S (fun q => cB X ≤ q) H H locs := ⟨Nat.le_refl _, fun _ _ _ => rfl, h2.2.2⟩
  exact va_last o.1 o.2.1 o.2.2.2.2.2.1 h1.2.2 (mw_D _ _ _) hA q 1 hq rfl hi hd (fun H1 locs1 p1 p2 p3 T hT Z => kk H1 locs1 ar (mw_set h1 (by omega) hq0 (me_setB _ hK) (g_sz hz h1 p3 hT Z) p1) (g_back h2 p3) h3 T hT Z)
theorem g_aast (o : cOk X bt own d) (hz : (cs X).heap.size + k1 = cB X + n) {r v : Option Nat} {a b k c : Nat} {i : Int32} (hk : k = 16 ∧ c = 2 ∨ k = 17 ∧ c = 4) (hr : rx K L r k i = some a) (hv : rc K v c = some b) (hd : decode bt pc = .ok (.aastore, 1)) (kk : gW X k1 k2 n K L (ms_C M a (va_up (mm_C M a) i.toNatClampNeg (some b))) (pc + 1) ls st) : gW X k1 k2 n K L M pc ls (va_rf v :: .int i :: va_rf r :: st) := fun H locs ar h1 h2 h3 => by
  obtain ⟨rfl, hK, hi⟩ := rx_at hr
  obtain ⟨rfl, hKb⟩ := rc_at hv
  obtain ⟨q, hq⟩ := mw_at h1 (a := a) (by omega)
  obtain ⟨q2, hq2⟩ := mw_at h1 (a := b) (by omega)
  have hq0 := hq
  have hA : va_S (fun q => cB X ≤ q) H H locs := ⟨Nat.le_refl _, fun _ _ _ => rfl, h2.2.2⟩
  rcases hk with ⟨rfl, rfl⟩ | ⟨rfl, rfl⟩
  · rw [mm_E_r hK (by decide)] at hq
    rw [mm_E_o hKb (by decide)] at hq2
    exact va_astq (r := (RX2, TX2, 5)) o.1 o.2.1 o.2.2.2.2.2.1 h1.2.2 (mw_D _ _ _) hA q 3 q2 2 hq rfl hq2 rfl hi hd (fun H1 locs1 p1 p2 p3 T hT Z => kk H1 locs1 ar (mw_set h1 (by omega) hq0 (me_setC _ hK (by decide)) (g_sz hz h1 p3 hT Z) p1) (g_back h2 p3) h3 T hT Z)
  · rw [mm_E_r hK (by decide)] at hq
    rw [mm_E_o hKb (by decide)] at hq2
    exact va_astq (r := (RX4, TX4, 4)) o.1 o.2.1 o.2.2.2.2.2.1 h1.2.2 (mw_D _ _ _) hA q 4 q2 4 hq rfl hq2 rfl hi hd (fun H1 locs1 p1 p2 p3 T hT Z => kk H1 locs1 ar (mw_set h1 (by omega) hq0 (me_setC _ hK (by decide)) (g_sz hz h1 p3 hT Z) p1) (g_back h2 p3) h3 T hT Z)
/-- arraylength of an int row -/
theorem g_alen (o : cOk X bt own d) {r : Option Nat} {a : Nat} (hr : rc K r 13 = some a) (hd : decode bt pc = .ok (.arraylength, 1)) (kk : gW X k1 k2 n K L M (pc + 1) ls (.int (Int32.ofNat (L a)) :: st)) : gW X k1 k2 n K L M pc ls (va_rf r :: st) := fun H locs ar h1 h2 h3 => by
  obtain ⟨rfl, hK⟩ := rc_at hr
  obtain ⟨q, hq⟩ := mw_at h1 (a := a) (by omega)
  rw [mm_E_i hK] at hq
  exact va_alen o.1 o.2.1 o.2.2.2.2.2.1 h1.2.2 q 0 hq (ty := .int) rfl rfl hd (kk H locs ar h1 h2 h3)
def rp (K L : Nat → Nat) (r : Option Nat) (sp n : Int32) : Option Nat := match r with
  | none => none
  | some a => if K a = 13 ∧ ¬ sp < 0 ∧ ¬ n < 0 ∧ sp.toNatClampNeg + n.toNatClampNeg ≤ L a then some a else none
theorem rp_at {K L : Nat → Nat} {r : Option Nat} {a : Nat} {sp n : Int32} (h : rp K L r sp n = some a) : r = some a ∧ K a = 13 ∧ ¬ sp < 0 ∧ ¬ n < 0 ∧ sp.toNatClampNeg + n.toNatClampNeg ≤ L a := by
  cases r with
  | none => cases h
  | some b =>
    simp only [rp] at h
    split at h
    · cases h
      rename_i h1
      exact ⟨rfl, h1⟩
    · cases h
theorem g_copy (o : cOk X bt own d) (hz : (cs X).heap.size + k1 = cB X + n) {r v : Option Nat} {a b ix : Nat} {sp dp m : Int32} (hw : Cond.methodLink own ix arraycopyName ∈ gwl) (hd1 : 1 ≤ d) (hr : rp K L r sp m = some a) (hv : rp K L v dp m = some b) (hst : (st.map fun v => v.category).sum ≤ 8) (hd : decode bt pc = .ok (.invokestatic ix, 3)) (kk : gW X k1 k2 n K L (ms_A M b (va_cpy (mm_A M a) (mm_A M b) sp.toNatClampNeg dp.toNatClampNeg m.toNatClampNeg)) (pc + 3) ls st) : gW X k1 k2 n K L M pc ls (.int m :: .int dp :: va_rf v :: .int sp :: va_rf r :: st) := fun H locs ar h1 h2 h3 => by
  obtain ⟨rfl, hK, e1, e2, e3⟩ := rp_at hr
  obtain ⟨rfl, hKb, e4, -, e6⟩ := rp_at hv
  obtain ⟨q, hq⟩ := mw_at h1 (a := a) (by omega)
  obtain ⟨q2, hq2⟩ := mw_at h1 (a := b) (by omega)
  have hq0 := hq2
  have hA : va_S (fun q => cB X ≤ q) H H locs := ⟨Nat.le_refl _, fun _ _ _ => rfl, h2.2.2⟩
  rw [mm_E_i hK] at hq
  rw [mm_E_i hKb] at hq2
  obtain ⟨-, -, o3, o4, o5, o6, -, -, -, o10, o11⟩ := id o
  refine va_copyi (ty := .int) o.1 o.2.1 (o3.trans h3.1.symm) o4 (o5 _ hw) (o5 _ (gw_inT (i := 731) (by decide +kernel) (by decide +kernel))) (o5 _ (gw_inT (i := 730) (by decide +kernel) (by decide +kernel))) (o5 _ (gw_inT (i := 16) (by decide +kernel) (by decide +kernel))) o6 h1.2.2 (mw_D _ _ _) hA q q2 0 0 hq hq2 rfl rfl rfl e1 e4 e2 e3 e6 (fun i _ => rfl) (by omega) ?_ hd (fun H1 locs1 p1 p2 p3 T hT Z => kk H1 locs1 ar (mw_set h1 (by omega) hq0 (me_setA _ hKb (Or.inl rfl)) (g_sz hz h1 p3 hT Z) p1) (g_back h2 p3) h3 T hT Z)
  have : nativeFrameWords "java/lang/System" "arraycopy" 5 + 11 ≤ 33 := by decide +kernel
  omega
end GH
end
section
/-! new cells, returns, calls, contracts -/
def mz (M : Mm) (a : Nat) : Mm := (fun x b => if b = a then 0 else M.1 x b, fun x b => if b = a then 0 else M.2.1 x b, fun x b => if b = a then none else M.2.2.1 x b, fun b j => if b = a then 0 else M.2.2.2.1 b j, fun b j => if b = a then 0 else M.2.2.2.2.1 b j, fun b j => if b = a then none else M.2.2.2.2.2 b j)
theorem mz_V {M : Mm} {a b t x : Nat} (h : b ≠ a) : mm_V (mz M a) t x b = mm_V M t x b := by
  unfold mm_V
  split <;> simp [mz, mm_I, mm_J, mm_R, h]
theorem mz_E {Y : Nat → ClassId} {K L : Nat → Nat} {M : Mm} {a b c z : Nat} (h : b ≠ a) : mm_E Y (va_up K a c) (va_up L a z) (mz M a) b = mm_E Y K L M b := by
  unfold mm_E
  rw [va_up_ne _ _ h, va_up_ne _ _ h, mm_F_off (M := M) (M' := mz M a) (fun j t => mz_V h)]
  have e1 : mm_A (mz M a) b = mm_A M b := by funext j; simp [mm_A, mz, h]
  have e2 : mm_B (mz M a) b = mm_B M b := by funext j; simp [mm_B, mz, h]
  have e3 : mm_C (mz M a) b = mm_C M b := by funext j; simp [mm_C, mz, h]
  rw [e1, e2, e3]
theorem mw_push {D : va_G} {Y : Nat → ClassId} {B n : Nat} {K L : Nat → Nat} {M : Mm} {H H1 : Heap} {q c z : Nat} {e : va_E} (h : mm_H D Y B n K L M H) (hc : c < 18) (he : ∀ a, e = mm_E Y (va_up K a c) (va_up L a z) (mz M a) a) (h1 : va_P D vwCl (mm_W B n Y K L M ++ [(q, e)]) H1) (h2 : va_D (fun q => B ≤ q) (mm_W B n Y K L M ++ [(q, e)])) (hz : H1.size ≤ B + n + 1) : q = B + n ∧ mm_H D Y B (n + 1) (va_up K (B + n) c) (va_up L (B + n) z) (mz M (B + n)) H1 := by
  have hlen : (mm_W B n Y K L M).length = n := by simp [mm_W, va_pl]
  have hlast : (mm_W B n Y K L M ++ [(q, e)])[n]? = some (q, e) := by
    rw [List.getElem?_append_right (by omega), hlen, Nat.sub_self]
    rfl
  have hq1 : q < H1.size := (h1 n _ hlast).lt
  have hq2 : B ≤ q := h2.2 n _ hlast
  have hq : q = B + n := by
    rcases Nat.lt_or_ge q (B + n) with g | g
    · obtain ⟨i, hi⟩ := mw_at h (a := q) ((h.2.1 q).mp ⟨hq2, g⟩)
      have hin : i < n := by
        have := (List.getElem?_eq_some_iff.mp hi).1
        omega
      have h3 : (mm_W B n Y K L M ++ [(q, e)])[i]? = some (q, mm_E Y K L M q) := by
        rw [List.getElem?_append_left (by omega)]
        exact hi
      have := h2.1 i n _ _ h3 hlast rfl
      omega
    · omega
  refine ⟨hq, by omega, fun a => ?_, ?_⟩
  · by_cases ha : a = B + n
    · subst ha
      rw [va_up_self]
      omega
    · rw [va_up_ne _ _ ha, ← h.2.1 a]
      omega
  · have e1 : mm_W B (n + 1) Y (va_up K (B + n) c) (va_up L (B + n) z) (mz M (B + n)) = mm_W B n Y K L M ++ [(q, e)] := by
      unfold mm_W va_pl
      rw [List.range'_concat, List.map_append, hq, he (B + n)]
      congr 1
      · apply List.map_congr_left
        intro a ha
        have hne : a ≠ B + n := by
          have := List.mem_range'_1.mp ha
          omega
        rw [mz_E hne]
      · simp
    rw [e1]
    exact h1
theorem kd_ok : ∀ c, c < 13 → ∀ j, j < kN c → ((mm_T c)[j]?.map fun t => match t with | 0 => Value.int 0 | 1 => Value.long 0 | _ => Value.null) = some (defaultValue (kY c j)) := by decide +kernel
theorem mz_self {M : Mm} {a t x : Nat} : mm_V (mz M a) t x a = match t with | 0 => Value.int 0 | 1 => Value.long 0 | _ => Value.null := by
  unfold mm_V
  split <;> simp [mz, mm_I, mm_J, mm_R, va_rf]
theorem mz_dflt {M : Mm} {a c j : Nat} (hc : c < 13) (hj : j < kN c) : defaultValue (kY c j) = vp_V (mm_F (mz M a) c a) j := by
  have h1 := kd_ok c hc j hj
  cases ht : (mm_T c)[j]? with
  | none => rw [ht] at h1; cases h1
  | some t =>
    rw [ht] at h1
    have h2 := Option.some.inj h1
    rw [← h2]
    simp [vp_V, List.getD_eq_getElem?_getD, mm_F_at ht, mz_self]
section GN
variable {X : Cx} {bt : ByteArray} {own : String} {d k1 k2 n : Nat} {K L : Nat → Nat} {M : Mm} {pc : Nat} {ls : List (Nat × Value)} {st : List Value}
theorem g_A (o : cOk X bt own d) : ∀ q, (cs X).heap.size ≤ q → (fun q => cB X ≤ q) q := fun q h => Nat.le_trans o.2.2.2.2.2.2.2.1 h
theorem g_new (o : cOk X bt own d) (hz : (cs X).heap.size + k1 = cB X + n) {c i : Nat} (hc : c < 13) (hw : Cond.classLink own i (kC c) ∈ gwl ∧ Cond.instantiable (kC c) (kN c) ∈ gwl ∧ Cond.initialized (kC c) ∈ gwl) (h1c : k1 + 1 ≤ (cR X).cells) (h2c : k2 + kN c ≤ (cR X).slots) (hd : decode bt pc = .ok (.new i, 3)) (kk : gW X (k1 + 1) (k2 + kN c) (n + 1) (va_up K (cB X + n) c) (va_up L (cB X + n) 0) (mz M (cB X + n)) (pc + 3) ls (va_rf (some (cB X + n)) :: st)) : gW X k1 k2 n K L M pc ls st := fun H locs ar h1 h2 h3 => by
  obtain ⟨-, -, o3, o4, o5, o6, -, -, -, o10, o11⟩ := id o
  refine va_new (fs := mm_F (mz M (cB X + n)) c (cB X + n)) (ci := c) o.1 o.2.1 o5 (kw_in hc) (kY c) (ky_ok hc) o4 (o5 _ hw.1) (o5 _ hw.2.1) (o5 _ hw.2.2) o6 h1.2.2 (mw_D _ _ _) h2 (g_A o) (kl_at hc) (fun j hj => mz_dflt hc hj) h1c h2c hd (fun q H1 p1 p2 p3 T hT Z => ?_)
  have e1 := Z.heapSize
  rw [hT] at e1
  obtain ⟨hq, h5⟩ := mw_push (z := 0) (c := c) h1 (by omega) (fun a => by
    rw [mm_E_o (c := c) (va_up_self _ _ _) hc]
    congr 2
    simp only [mm_F]
    congr 1
    funext k t
    rw [mz_self, mz_self]) p1 p2 (by omega)
  subst hq
  exact kk H1 locs ar h5 p3 h3 T hT Z
def ra (m : Int32) : Option Nat := if ¬ m < 0 ∧ m.toNatClampNeg ≤ 65536 then some m.toNatClampNeg else none
theorem ra_at {m : Int32} {z : Nat} (h : ra m = some z) : ¬ m < 0 ∧ m.toNatClampNeg = z ∧ z ≤ 65536 := by
  unfold ra at h
  split at h
  · cases h
    rename_i h1
    exact ⟨h1.1, rfl, h1.2⟩
  · cases h
theorem kA_same {D : va_G} {Y : Nat → ClassId} {s : State} {cA : ClassId} {ty : FieldType} (t : Nat) (y : Nat) (ht : (mm_tys Y)[t]? = some (Y y, ty)) (hp : refKind ty = false ∨ ∃ C, ty = .object C) (h : va_K D vwCl (mm_tys Y ++ [(cA, ty)]) s) : cA = Y y := by
  have h1 := (h.2 t (Y y, ty) (by rw [List.getElem?_append_left (List.getElem?_eq_some_iff.mp ht).1]; exact ht)).2
  have h2 := (h.2 5 (cA, ty) rfl).2
  rcases hp with hp | ⟨C, rfl⟩
  · cases ty <;> first | exact Option.some.inj (h2.symm.trans h1) | (exact absurd hp (by simp [refKind]))
  · obtain ⟨_, _, -, -, -, g1⟩ := h1
    obtain ⟨_, _, -, -, -, g2⟩ := h2
    exact Option.some.inj (g2.symm.trans g1)
theorem g_newI (o : cOk X bt own d) (hz : (cs X).heap.size + k1 = cB X + n) {m : Int32} {z : Nat} (hm : ra m = some z) (h1c : k1 + 1 ≤ (cR X).cells) (h2c : k2 + z ≤ (cR X).slots) (hd : decode bt pc = .ok (.newarray .int, 2)) (kk : gW X (k1 + 1) (k2 + z) (n + 1) (va_up K (cB X + n) 13) (va_up L (cB X + n) z) (mz M (cB X + n)) (pc + 2) ls (va_rf (some (cB X + n)) :: st)) : gW X k1 k2 n K L M pc ls (.int m :: st) := fun H locs ar h1 h2 h3 => by
  obtain ⟨-, -, o3, o4, o5, o6, -, -, -, o10, o11⟩ := id o
  obtain ⟨m1, m2, m3⟩ := ra_at hm
  refine va_newa (atype := .int) (ty := .int) (a0 := (z, .inl (fun _ => 0))) o.1 o.2.1 (o5 _ (gw_inT (i := 92) (by decide +kernel) (by decide +kernel))) rfl o6 h1.2.2 (mw_D _ _ _) h2 (g_A o) (fun cA => rfl) m1 m2 (Nat.le_trans (Nat.mul_le_mul m3 (show componentBytes FieldType.int ≤ 8 by decide)) (by decide)) h1c h2c hd (fun q cA H1 p0 p1 p2 p3 T hT Z => ?_)
  have e1 := Z.heapSize
  rw [hT] at e1
  have hcA := kA_same 0 13 rfl (Or.inl rfl) p0
  subst hcA
  obtain ⟨hq, h5⟩ := mw_push (z := z) (c := 13) h1 (by omega) (fun a => by
    rw [mm_E_i (va_up_self _ _ _), va_up_self, show mm_A (mz M a) a = fun _ => 0 by funext j; simp [mm_A, mz]]) p1 p2 (by omega)
  subst hq
  exact kk H1 locs ar h5 p3 h3 T hT Z
theorem g_newZ (o : cOk X bt own d) (hz : (cs X).heap.size + k1 = cB X + n) {m : Int32} {z : Nat} (hm : ra m = some z) (h1c : k1 + 1 ≤ (cR X).cells) (h2c : k2 + z ≤ (cR X).slots) (hd : decode bt pc = .ok (.newarray .boolean, 2)) (kk : gW X (k1 + 1) (k2 + z) (n + 1) (va_up K (cB X + n) 15) (va_up L (cB X + n) z) (mz M (cB X + n)) (pc + 2) ls (va_rf (some (cB X + n)) :: st)) : gW X k1 k2 n K L M pc ls (.int m :: st) := fun H locs ar h1 h2 h3 => by
  obtain ⟨-, -, o3, o4, o5, o6, -, -, -, o10, o11⟩ := id o
  obtain ⟨m1, m2, m3⟩ := ra_at hm
  refine va_newa (atype := .boolean) (ty := .boolean) (a0 := (z, .inl (fun _ => 0))) o.1 o.2.1 (o5 _ (gw_inT (i := 1081) (by decide +kernel) (by decide +kernel))) rfl o6 h1.2.2 (mw_D _ _ _) h2 (g_A o) (fun cA => rfl) m1 m2 (Nat.le_trans (Nat.mul_le_mul m3 (show componentBytes FieldType.boolean ≤ 8 by decide)) (by decide)) h1c h2c hd (fun q cA H1 p0 p1 p2 p3 T hT Z => ?_)
  have e1 := Z.heapSize
  rw [hT] at e1
  have hcA := kA_same 2 15 rfl (Or.inl rfl) p0
  subst hcA
  obtain ⟨hq, h5⟩ := mw_push (z := z) (c := 15) h1 (by omega) (fun a => by
    rw [mm_E_z (va_up_self _ _ _), va_up_self, show mm_A (mz M a) a = fun _ => 0 by funext j; simp [mm_A, mz]]) p1 p2 (by omega)
  subst hq
  exact kk H1 locs ar h5 p3 h3 T hT Z
theorem g_newJ (o : cOk X bt own d) (hz : (cs X).heap.size + k1 = cB X + n) {m : Int32} {z : Nat} (hm : ra m = some z) (h1c : k1 + 1 ≤ (cR X).cells) (h2c : k2 + z ≤ (cR X).slots) (hd : decode bt pc = .ok (.newarray .long, 2)) (kk : gW X (k1 + 1) (k2 + z) (n + 1) (va_up K (cB X + n) 14) (va_up L (cB X + n) z) (mz M (cB X + n)) (pc + 2) ls (va_rf (some (cB X + n)) :: st)) : gW X k1 k2 n K L M pc ls (.int m :: st) := fun H locs ar h1 h2 h3 => by
  obtain ⟨-, -, o3, o4, o5, o6, -, -, -, o10, o11⟩ := id o
  obtain ⟨m1, m2, m3⟩ := ra_at hm
  refine va_newa (atype := .long) (ty := .long) (a0 := (z, .inr (.inl (fun _ => 0)))) o.1 o.2.1 (o5 _ (gw_inT (i := 1080) (by decide +kernel) (by decide +kernel))) rfl o6 h1.2.2 (mw_D _ _ _) h2 (g_A o) (fun cA => rfl) m1 m2 (Nat.le_trans (Nat.mul_le_mul m3 (show componentBytes FieldType.long ≤ 8 by decide)) (by decide)) h1c h2c hd (fun q cA H1 p0 p1 p2 p3 T hT Z => ?_)
  have e1 := Z.heapSize
  rw [hT] at e1
  have hcA := kA_same 1 14 rfl (Or.inl rfl) p0
  subst hcA
  obtain ⟨hq, h5⟩ := mw_push (z := z) (c := 14) h1 (by omega) (fun a => by
    rw [mm_E_l (va_up_self _ _ _), va_up_self, show mm_B (mz M a) a = fun _ => 0 by funext j; simp [mm_B, mz]]) p1 p2 (by omega)
  subst hq
  exact kk H1 locs ar h5 p3 h3 T hT Z
theorem g_newC (o : cOk X bt own d) (hz : (cs X).heap.size + k1 = cB X + n) {m : Int32} {z i k c : Nat} (hk : k = 16 ∧ c = 2 ∨ k = 17 ∧ c = 4) (hw : Cond.classLink own i (kC c) ∈ gwl) (hm : ra m = some z) (h1c : k1 + 1 ≤ (cR X).cells) (h2c : k2 + z ≤ (cR X).slots) (hd : decode bt pc = .ok (.anewarray i, 3)) (kk : gW X (k1 + 1) (k2 + z) (n + 1) (va_up K (cB X + n) k) (va_up L (cB X + n) z) (mz M (cB X + n)) (pc + 3) ls (va_rf (some (cB X + n)) :: st)) : gW X k1 k2 n K L M pc ls (.int m :: st) := fun H locs ar h1 h2 h3 => by
  obtain ⟨-, -, o3, o4, o5, o6, o7, -, -, o10, o11⟩ := id o
  obtain ⟨m1, m2, m3⟩ := ra_at hm
  have hov : va_AO (kC c) (cs X) := by
    rcases hk with ⟨rfl, rfl⟩ | ⟨rfl, rfl⟩
    · exact o7.2.2
    · exact o7.2.1
  refine va_newq o.1 o.2.1 o4 (o5 _ hw) hov o6 h1.2.2 (mw_D _ _ _) h2 (g_A o) m1 m2 (by omega) h1c h2c hd (fun q cA H1 p0 p1 p2 p3 T hT Z => ?_)
  have e1 := Z.heapSize
  rw [hT] at e1
  have hcA : cA = cY X k := by
    rcases hk with ⟨rfl, rfl⟩ | ⟨rfl, rfl⟩
    · exact kA_same 3 16 rfl (Or.inr ⟨_, rfl⟩) p0
    · exact kA_same 4 17 rfl (Or.inr ⟨_, rfl⟩) p0
  subst hcA
  obtain ⟨hq, h5⟩ := mw_push (z := z) (c := k) h1 (by omega) (fun a => by
    rw [mm_E_r (k := k) (va_up_self _ _ _) (by omega), va_up_self, show mm_C (mz M a) a = fun _ => none by funext j; simp [mm_C, mz]]) p1 p2 (by omega)
  subst hq
  exact kk H1 locs ar h5 p3 h3 T hT Z
end GN
/-! contracts -/
def mw (y : MethodName) (bt : ByteArray) (ml : Nat) (ret : Option FieldType) : List Cond := Cond.code y bt ml ret :: gwl
def mr (d mc ms : Nat) : Room := { frames := d, cells := mc, slots := ms, locals := 41 * d }
def mt_P (D : va_G) (Y : Nat → ClassId) (B n : Nat) (K L : Nat → Nat) (M : Mm) (av : List Value) : Array Value → State → Prop := va_Pc av (fun U => mm_H D Y B n K L M U.heap ∧ va_K D vwCl (mm_tys Y) U ∧ mm_N U)
def mt_Q (D : va_G) (Y : Nat → ClassId) (B n : Nat) (K L : Nat → Nat) (M : Mm) (rv : Option Value) : Array Value → State → Outcome → State → Prop := fun _ st oc t => oc = .returned rv ∧ mm_H D Y B n K L M t.heap ∧ va_F (fun q => B ≤ q) st t
/-- method y at depth d: from memory M to M', with the answer rv, mc cells and ms slots new -/
def mC (l : Launch) (D : va_G) (Y : Nat → ClassId) (B d : Nat) (y : MethodName) (bt : ByteArray) (ml : Nat) (ret : Option FieldType) (av : List Value) (n : Nat) (K L : Nat → Nat) (M : Mm) (n' : Nat) (K' L' : Nat → Nat) (M' : Mm) (rv : Option Value) (mc ms : Nat) : Prop :=
  Met l y (mw y bt ml ret) (mr d mc ms) (mt_P D Y B n K L M av) (mt_Q D Y B n' K' L' M' rv) mc ms (fun q => B ≤ q)
def cE (X : Cx) (n' : Nat) (K' L' : Nat → Nat) (M' : Mm) (rv : Option Value) (mc ms : Nat) : Prop :=
  cQ X = MQ (cb X) (mt_Q (cD X) (cY X) (cB X) n' K' L' M' rv) (ca X) (cs X) mc ms (fun q => cB X ≤ q)
theorem mN_warm {s U : State} (hW : s.WarmedH U.vm) (h : mm_N s) : mm_N U := by
  refine ⟨fun w hw => ?_, h.2.1.moved hW.alike, h.2.2.moved hW.alike⟩
  have h1 := h.1 w hw
  have h2 := (List.mem_filter.mp hw).2
  cases w <;> first | exact va_Nw.warmM hW h1 | (exact absurd h2 (by simp))
theorem mk_met {l : Launch} {D : va_G} {Y : Nat → ClassId} {B d : Nat} {y : MethodName} {bt : ByteArray} {ml : Nat} {ret : Option FieldType} {av : List Value} {n : Nat} {K L : Nat → Nat} {M : Mm} {n' : Nat} {K' L' : Nat → Nat} {M' : Mm} {rv : Option Value} {mc ms : Nat} (hy : plainName y.cls = true) (hlen : (lg_sl av).length ≤ ml)
    (body : ∀ X : Cx, cq X = l → cD X = D → cY X = Y → cB X = B → cOk X bt y.cls d → cL X = ml → (ch X).sig.returnType = ret → (ch X).name = y.name → (cs X).heap.size + 0 = cB X + n → (cR X).cells = mc → (cR X).slots = ms → cE X n' K' L' M' rv mc ms → gW X 0 0 n K L M 0 (lv_args 0 av) []) : mC l D Y B d y bt ml ret av n K L M n' K' L' M' rv mc ms := by
  refine Met.ofW (cc := bt) (maxL := ml) (ret := ret) hy rfl ?_
  intro p e s m args below meth c s₁ Z hml hv
  obtain ⟨rfl, hH, hK, hN⟩ := hv
  have hts := atoms_spec (ws := mw y bt ml ret) Z.pre
  have hown : s.vm.findClass y.cls = some m.cls := findClass_of_methodNamed Z.named
  have hl := lv_entry av (n := ml) hlen
  rw [lg_entry_eq]
  exact body (p, l, e, (headSpec (mw y bt ml ret) (mr d mc ms)).room, s, m, av.toArray, below, meth, c, MQ below (mt_Q D Y B n' K' L' M' rv) av.toArray s mc ms (fun q => B ≤ q), D, Y, B, ml) rfl rfl rfl rfl
    ⟨Z.exec, Z.bytes, hml, hown, fun w hw => hts w (List.mem_cons_of_mem _ hw), hK, hN, by have := hH.1; show B ≤ s.heap.size; omega, Z.notSynchronized, Nat.le_refl _, Nat.le_refl _⟩ rfl Z.returns (name_of_methodNamed Z.named Z.method).1 (by have := hH.1; show s.heap.size + 0 = B + n; omega) rfl rfl rfl s.heap [] _ hH va_S.rf hl
section GR
variable {X : Cx} {bt : ByteArray} {own : String} {d k1 k2 n : Nat} {K L : Nat → Nat} {M : Mm} {pc : Nat} {ls : List (Nat × Value)} {st : List Value}
theorem g_iret (o : cOk X bt own d) {v : Int32} (hr : (ch X).sig.returnType = some .int) (hE : cE X n K L M (some (.int v)) k1 k2) (hd : decode bt pc = .ok (.ireturn, 1)) : gW X k1 k2 n K L M pc ls [.int v] := fun H locs ar h1 h2 h3 => by
  unfold cE at hE
  rw [hE]
  exact W.iret o.1 o.2.1 hr (fun t ht hW => ⟨rfl, by rw [ht]; exact h1, h2.F ht⟩) h2.2.2 hd o.2.2.2.2.2.2.2.2.1
theorem g_zret (o : cOk X bt own d) {v : Int32} (hr : (ch X).sig.returnType = some .boolean) (hv : v = 0 ∨ v = 1) (hE : cE X n K L M (some (.int v)) k1 k2) (hd : decode bt pc = .ok (.ireturn, 1)) : gW X k1 k2 n K L M pc ls [.int v] := fun H locs ar h1 h2 h3 => by
  unfold cE at hE
  rw [hE]
  exact W.zret o.1 o.2.1 hr (by rcases hv with rfl | rfl <;> decide) (fun t ht hW => ⟨rfl, by rw [ht]; exact h1, h2.F ht⟩) h2.2.2 hd o.2.2.2.2.2.2.2.2.1
theorem g_lret (o : cOk X bt own d) {v : Int64} (hr : (ch X).sig.returnType = some .long) (hE : cE X n K L M (some (.long v)) k1 k2) (hd : decode bt pc = .ok (.lreturn, 1)) : gW X k1 k2 n K L M pc ls [.long v] := fun H locs ar h1 h2 h3 => by
  unfold cE at hE
  rw [hE]
  exact W.lret o.1 o.2.1 hr (fun t ht hW => ⟨rfl, by rw [ht]; exact h1, h2.F ht⟩) h2.2.2 hd o.2.2.2.2.2.2.2.2.1
theorem g_aret (o : cOk X bt own d) {r : Option Nat} {C : String} (hr : (ch X).sig.returnType = some (.object C)) (hE : cE X n K L M (some (va_rf r)) k1 k2) (hd : decode bt pc = .ok (.areturn, 1)) : gW X k1 k2 n K L M pc ls [va_rf r] := fun H locs ar h1 h2 h3 => by
  unfold cE at hE
  rw [hE]
  exact W.aret o.1 o.2.1 hr (Or.inl ⟨_, rfl⟩) (va_rf_or r) (fun t ht hW => ⟨rfl, by rw [ht]; exact h1, h2.F ht⟩) h2.2.2 hd o.2.2.2.2.2.2.2.2.1
theorem g_vret (o : cOk X bt own d) (hr : (ch X).sig.returnType = none) (hE : cE X n K L M none k1 k2) (hd : decode bt pc = .ok (.return_, 1)) : gW X k1 k2 n K L M pc ls [] := fun H locs ar h1 h2 h3 => by
  unfold cE at hE
  rw [hE]
  exact W.vret o.1 o.2.1 hr (fun t ht hW => ⟨rfl, by rw [ht]; exact h1, h2.F ht⟩) h2.2.2 hd o.2.2.2.2.2.2.2.2.1
theorem g_objInit (o : cOk X bt own d) {i a : Nat} (hd1 : 1 ≤ d) (hw : Cond.methodLink own i objectInit ∈ gwl) (hst : (st.map fun v => v.category).sum ≤ 8) (hd : decode bt pc = .ok (.invokespecial i, 3)) (kk : gW X k1 k2 n K L M (pc + 3) ls st) : gW X k1 k2 n K L M pc ls (va_rf (some a) :: st) := fun H locs ar h1 h2 h3 => by
  obtain ⟨-, -, o3, o4, o5, o6, o7, -, -, o10, o11⟩ := id o
  refine W.objInit o.1 o.2.1 o4 (o5 _ hw) (o5 _ (gw_inT (i := 23) (by decide +kernel) (by decide +kernel))) (o5 _ (gw_inT (i := 24) (by decide +kernel) (by decide +kernel))) rfl (h3.1.trans o3.symm) rfl hd (by omega) ?_ (kk H locs ar h1 h2 h3)
  have := lv_room (m := cm X) (pc := pc) (ls := ar) (rest := va_rf (some a) :: st) hst
  omega
/-- behind a call -/
theorem g_ran {H : Heap} {locs : List Loc} {ar : Array Slot} {n' mc ms : Nat} {K' L' : Nat → Nat} {M' : Mm} {rv : Option Value} {rest : List Value} {a : Array Value}
    (hr : va_Run (cp X) (cq X) (ce X) (cR X) (cs X) (cm X) (ca X) (cb X) (ch X) (cc' X) H locs k1 k2 mc ms (F0 (cm X) pc ar st) rest (mt_Q (cD X) (cY X) (cB X) n' K' L' M' rv a) (fun q => cB X ≤ q))
    (h2 : va_S (fun q => cB X ≤ q) (cs X).heap H locs) (h3 : lv_has ar (cL X) ls) (kk : gW X (k1 + mc) (k2 + ms) n' K' L' M' (pc + 3) ls (rv.toList ++ rest)) :
    W (cp X) (cq X) (ce X) (cR X) (cs X) (cm X) (ca X) (cb X) (ch X) (cc' X) H locs k1 k2 (cQ X) (F0 (cm X) pc ar st) := by
  intro T hT Z
  obtain ⟨v, st₀, t, T', L0, h0, Z', hL, e1, e2, ⟨hv, hh, hz, hk⟩, hst⟩ := hr T hT Z
  cases hv
  rw [h0] at hz hk
  obtain ⟨t2, a1, b1⟩ := kk T'.heap (locs ++ L0) ar (by rw [e1]; exact hh) ⟨Nat.le_trans h2.1 (by rw [e1]; exact hz), fun q g1 g2 => by rw [e1, hk q (Nat.lt_of_lt_of_le g1 h2.1) g2]; exact h2.2.1 q g1 g2, fun q hq => by
      rcases List.mem_append.mp hq with h | h
      · exact h2.2.2 q h
      · exact hL q h⟩ h3 T' rfl Z'
  exact ⟨t2, hst t2 a1, b1⟩
def kB (y : MethodName) (bt : ByteArray) (ml : Nat) (ret : Option FieldType) (np : Nat) : Prop := Cond.initialized y.cls ∈ gwl ∧ Cond.code y bt ml ret ∈ gwl ∧ (y.cls ≠ "java/lang/invoke/MethodHandle" ∧ y.cls ≠ "java/lang/invoke/VarHandle" ∧ (parseMethodDescriptor y.desc).map (fun d => d.parameters.length) = some np) ∧ ml ≤ 22
def kV (y : MethodName) : Prop := Cond.instanceMethod y ∈ gwl ∧ Cond.selects y.cls y y ∈ gwl
theorem kG {y : MethodName} {b2 : ByteArray} {ml : Nat} {ret : Option FieldType} (h : Cond.code y b2 ml ret ∈ gwl) : GoodIn gwl (mw y b2 ml ret) := fun w hw => by
  have hg : ∀ w ∈ gwl, (w.onTables && w.keeps) = true ∨ ∃ ty, w = .arrayClass ty := fun w h => good_of_word (List.mem_filter.mp h).2
  rcases List.mem_cons.mp hw with rfl | h1
  · exact ⟨h, hg _ h⟩
  · exact ⟨h1, hg _ h1⟩
theorem g_pre {av : List Value} {H : Heap} (o : cOk X bt own d) (h1 : mm_H (cD X) (cY X) (cB X) n K L M H) : PreS (cs X) H (mt_P (cD X) (cY X) (cB X) n K L M av) av := by
  refine ⟨fun a U g mk q => ?_, fun U hU hW => ⟨rfl, by rw [hU]; exact h1, va_K.moved hW.alike o.2.2.2.2.2.1, mN_warm hW o.2.2.2.2.2.2.1⟩⟩
  obtain ⟨q0, q1, q2, q3⟩ := q
  exact ⟨q0, q1, va_K.moved (u := U) (U := U.calling g mk a) (Vm.Alike.refl U.vm) q2, ⟨fun w hw => va_Nw.same (by
    have h2 := (List.mem_filter.mp hw).2
    cases w <;> first | rfl | (exact absurd h2 (by simp))) (u := U) rfl (q3.1 w hw), va_AO.moved (u := U) (Vm.Alike.refl U.vm) q3.2.1, va_AO.moved (u := U) (Vm.Alike.refl U.vm) q3.2.2⟩⟩
variable {y : MethodName} {b2 : ByteArray} {ml np i n' mc ms : Nat} {ret : Option FieldType} {K' L' : Nat → Nat} {M' : Mm} {rv : Option Value} {rest As : List Value}
theorem g_recv {H : Heap} {a c : Nat} (o : cOk X bt own d) (h1 : mm_H (cD X) (cY X) (cB X) n K L M H) (hc : c < 13) (hK : K a = c) : ∃ cell : Cell, H[a]? = some cell ∧ cell.vm.isStatics = false ∧ (cs X).vm.findClass (kC c) = some cell.cls := by
  obtain ⟨q, hq⟩ := mw_at h1 (a := a) (by omega)
  rw [mm_E_o hK hc] at hq
  exact va_recv o.2.2.2.2.2.1 h1.2.2 (kl_at hc) hq
theorem g_invV (o : cOk X bt own (d + 1)) {r : Option Nat} {a c : Nat} (hr : rc K r c = some a) (hc : c < 13) (hw : Cond.methodLink own i y ∈ gwl) (hb : kB y b2 ml ret np) (hv : kV y) (hy : y.cls = kC c) (hM : mC (cq X) (cD X) (cY X) (cB X) d y b2 ml ret (va_rf (some a) :: As) n K L M n' K' L' M' rv mc ms)
    (hn : As.length = np) (hs : st = As.reverse ++ va_rf r :: rest) (hst : (rest.map fun v => v.category).sum ≤ 8) (hf : k1 + mc ≤ (cR X).cells ∧ k2 + ms ≤ (cR X).slots) (hd : decode bt pc = .ok (.invokevirtual i, 3)) (kk : gW X (k1 + mc) (k2 + ms) n' K' L' M' (pc + 3) ls (rv.toList ++ rest)) : gW X k1 k2 n K L M pc ls st := fun H locs ar h1 h2 h3 => by
  obtain ⟨rfl, hK⟩ := rc_at hr
  obtain ⟨-, -, o3, o4, o5, o6, o7, -, -, o10, o11⟩ := id o
  obtain ⟨b1, b3, b4, b5⟩ := hb
  subst hs
  have hp := g_pre (av := va_rf (some a) :: As) o h1
  refine g_ran (va_runV (C := kC c) (b := a) (As := As) (rest := rest) (nL := cL X) (n := np) ⟨o.1, o.2.1, o3, o4, o5⟩ hM ⟨callB_of np o5 (kG b3) rfl rfl rfl (o5 _ b1) (o5 _ hw) b4 ⟨o10, ?_⟩, o5 _ hv.1, by rw [← hy]; exact o5 _ hv.2⟩ ⟨hp.1, g_recv o h1 hc hK, hp.2⟩ rfl hn h3.1 rfl (lv_room hst) hd hf) h2 h3 kk
  show 8 + (ml + 11) + 41 * d ≤ _
  omega
theorem g_invVN (o : cOk X bt own (d + 1)) {r : Option Nat} {host : String} {a c : Nat} (hr : rc K r c = some a) (hc : c < 13) (hw : Cond.methodLinkNest own i y host ∈ nwl) (hb : kB y b2 ml ret np) (hv : kV y) (hy : y.cls = kC c) (hM : mC (cq X) (cD X) (cY X) (cB X) d y b2 ml ret (va_rf (some a) :: As) n K L M n' K' L' M' rv mc ms)
    (hn : As.length = np) (hs : st = As.reverse ++ va_rf r :: rest) (hst : (rest.map fun v => v.category).sum ≤ 8) (hf : k1 + mc ≤ (cR X).cells ∧ k2 + ms ≤ (cR X).slots) (hd : decode bt pc = .ok (.invokevirtual i, 3)) (kk : gW X (k1 + mc) (k2 + ms) n' K' L' M' (pc + 3) ls (rv.toList ++ rest)) : gW X k1 k2 n K L M pc ls st := fun H locs ar h1 h2 h3 => by
  obtain ⟨rfl, hK⟩ := rc_at hr
  obtain ⟨-, -, o3, o4, o5, o6, o7, -, -, o10, o11⟩ := id o
  obtain ⟨b1, b3, b4, b5⟩ := hb
  subst hs
  have hp := g_pre (av := va_rf (some a) :: As) o h1
  refine g_ran (va_runVN (C := kC c) (b := a) (As := As) (rest := rest) (nL := cL X) (n := np) ⟨o.1, o.2.1, o3, o4, o5⟩ hM ⟨va_cnB np o5 (kG b3) rfl rfl rfl (o7.1 _ hw) (o5 _ b1) b4 ⟨o10, ?_⟩, o5 _ hv.1, by rw [← hy]; exact o5 _ hv.2⟩ ⟨hp.1, g_recv o h1 hc hK, hp.2⟩ rfl hn h3.1 rfl (lv_room hst) hd hf) h2 h3 kk
  show 8 + (ml + 11) + 41 * d ≤ _
  omega
theorem g_invS (o : cOk X bt own (d + 1)) (hw : Cond.methodLink own i y ∈ gwl) (hb : kB y b2 ml ret np) (hv : Cond.static y ∈ gwl) (hM : mC (cq X) (cD X) (cY X) (cB X) d y b2 ml ret As n K L M n' K' L' M' rv mc ms)
    (hn : As.length = np) (hs : st = As.reverse ++ rest) (hst : (rest.map fun v => v.category).sum ≤ 8) (hf : k1 + mc ≤ (cR X).cells ∧ k2 + ms ≤ (cR X).slots) (hd : decode bt pc = .ok (.invokestatic i, 3)) (kk : gW X (k1 + mc) (k2 + ms) n' K' L' M' (pc + 3) ls (rv.toList ++ rest)) : gW X k1 k2 n K L M pc ls st := fun H locs ar h1 h2 h3 => by
  obtain ⟨-, -, o3, o4, o5, o6, o7, -, -, o10, o11⟩ := id o
  obtain ⟨b1, b3, b4, b5⟩ := hb
  subst hs
  refine g_ran (va_runS (As := As) (rest := rest) (nL := cL X) (n := np) ⟨o.1, o.2.1, o3, o4, o5⟩ hM ⟨callB_of np o5 (kG b3) rfl rfl rfl (o5 _ b1) (o5 _ hw) b4 ⟨o10, ?_⟩, o5 _ hv⟩ (g_pre o h1) rfl hn h3.1 rfl (lv_room hst) hd hf) h2 h3 kk
  show 8 + (ml + 11) + 41 * d ≤ _
  omega
theorem g_invSN (o : cOk X bt own (d + 1)) {host : String} (hw : Cond.methodLinkNest own i y host ∈ nwl) (hb : kB y b2 ml ret np) (hv : Cond.static y ∈ gwl) (hM : mC (cq X) (cD X) (cY X) (cB X) d y b2 ml ret As n K L M n' K' L' M' rv mc ms)
    (hn : As.length = np) (hs : st = As.reverse ++ rest) (hst : (rest.map fun v => v.category).sum ≤ 8) (hf : k1 + mc ≤ (cR X).cells ∧ k2 + ms ≤ (cR X).slots) (hd : decode bt pc = .ok (.invokestatic i, 3)) (kk : gW X (k1 + mc) (k2 + ms) n' K' L' M' (pc + 3) ls (rv.toList ++ rest)) : gW X k1 k2 n K L M pc ls st := fun H locs ar h1 h2 h3 => by
  obtain ⟨-, -, o3, o4, o5, o6, o7, -, -, o10, o11⟩ := id o
  obtain ⟨b1, b3, b4, b5⟩ := hb
  subst hs
  refine g_ran (va_runSN (As := As) (rest := rest) (nL := cL X) (n := np) ⟨o.1, o.2.1, o3, o4, o5⟩ hM ⟨va_cnB np o5 (kG b3) rfl rfl rfl (o7.1 _ hw) (o5 _ b1) b4 ⟨o10, ?_⟩, o5 _ hv, trivial⟩ (g_pre o h1) rfl hn h3.1 rfl (lv_room hst) hd hf) h2 h3 kk
  show 8 + (ml + 11) + 41 * d ≤ _
  omega
theorem g_invI (o : cOk X bt own (d + 1)) {a : Nat} (hw : Cond.methodLink own i y ∈ gwl) (hb : kB y b2 ml none np) (hv : y.name = "<init>" ∧ Cond.instanceMethod y ∈ gwl) (hM : mC (cq X) (cD X) (cY X) (cB X) d y b2 ml none (va_rf (some a) :: As) n K L M n' K' L' M' rv mc ms)
    (hn : As.length = np) (hs : st = As.reverse ++ va_rf (some a) :: rest) (hst : (rest.map fun v => v.category).sum ≤ 8) (hf : k1 + mc ≤ (cR X).cells ∧ k2 + ms ≤ (cR X).slots) (hd : decode bt pc = .ok (.invokespecial i, 3)) (kk : gW X (k1 + mc) (k2 + ms) n' K' L' M' (pc + 3) ls (rv.toList ++ rest)) : gW X k1 k2 n K L M pc ls st := fun H locs ar h1 h2 h3 => by
  obtain ⟨-, -, o3, o4, o5, o6, o7, -, -, o10, o11⟩ := id o
  obtain ⟨b1, b3, b4, b5⟩ := hb
  subst hs
  refine g_ran (va_runI (b := a) (As := As) (rest := rest) (nL := cL X) (n := np) ⟨o.1, o.2.1, o3, o4, o5⟩ hM ⟨callB_of np o5 (kG b3) rfl rfl rfl (o5 _ b1) (o5 _ hw) b4 ⟨o10, ?_⟩, hv.1, o5 _ hv.2⟩ (g_pre o h1) rfl hn h3.1 rfl (lv_room hst) hd hf) h2 h3 kk
  show 8 + (ml + 11) + 41 * d ≤ _
  omega
theorem g_invIN (o : cOk X bt own (d + 1)) {host : String} {a : Nat} (hw : Cond.methodLinkNest own i y host ∈ nwl) (hb : kB y b2 ml none np) (hv : y.name = "<init>" ∧ Cond.instanceMethod y ∈ gwl) (hM : mC (cq X) (cD X) (cY X) (cB X) d y b2 ml none (va_rf (some a) :: As) n K L M n' K' L' M' rv mc ms)
    (hn : As.length = np) (hs : st = As.reverse ++ va_rf (some a) :: rest) (hst : (rest.map fun v => v.category).sum ≤ 8) (hf : k1 + mc ≤ (cR X).cells ∧ k2 + ms ≤ (cR X).slots) (hd : decode bt pc = .ok (.invokespecial i, 3)) (kk : gW X (k1 + mc) (k2 + ms) n' K' L' M' (pc + 3) ls (rv.toList ++ rest)) : gW X k1 k2 n K L M pc ls st := fun H locs ar h1 h2 h3 => by
  obtain ⟨-, -, o3, o4, o5, o6, o7, -, -, o10, o11⟩ := id o
  obtain ⟨b1, b3, b4, b5⟩ := hb
  subst hs
  refine g_ran (va_runIN (b := a) (As := As) (rest := rest) (nL := cL X) (n := np) ⟨o.1, o.2.1, o3, o4, o5⟩ hM ⟨va_cnB np o5 (kG b3) rfl rfl rfl (o7.1 _ hw) (o5 _ b1) b4 ⟨o10, ?_⟩, hv.1, o5 _ hv.2⟩ (g_pre o h1) rfl hn h3.1 rfl (lv_room hst) hd hf) h2 h3 kk
  show 8 + (ml + 11) + 41 * d ≤ _
  omega
end GR
end
