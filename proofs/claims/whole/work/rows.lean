section
-- ===== PART A: goes FIRST, ahead of the names: the tables' words, and 'selects' of the private methods out of them =====
/-- a private method of a class that the tables say can be made, by its rows of tables_1 -/
def lw_okq (q : MethodName × Nat) : Prop := (q.1.cls ≠ "java/lang/invoke/MethodHandle" ∧ q.1.cls ≠ "java/lang/invoke/VarHandle") ∧ Cond.instantiable q.1.cls q.2 ∈ tables_1 ∧ Cond.privateMethod q.1 ∈ tables_1 ∧ Cond.instanceMethod q.1 ∈ tables_1
theorem lw_p0 : lw_okq (⟨"WellTold", "error", "(I)I"⟩, 8) := ⟨⟨by decide +kernel, by decide +kernel⟩, List.mem_of_getElem? (i := 21) (by decide +kernel), List.mem_of_getElem? (i := 361) (by decide +kernel), List.mem_of_getElem? (i := 362) (by decide +kernel)⟩
theorem lw_p1 : lw_okq (⟨"WellTold$Text", "held", "(I)I"⟩, 3) := ⟨⟨by decide +kernel, by decide +kernel⟩, List.mem_of_getElem? (i := 132) (by decide +kernel), List.mem_of_getElem? (i := 471) (by decide +kernel), List.mem_of_getElem? (i := 472) (by decide +kernel)⟩
theorem lw_p2 : lw_okq (⟨"WellTold", "mayBeOfOne", "(II)Z"⟩, 8) := ⟨⟨by decide +kernel, by decide +kernel⟩, List.mem_of_getElem? (i := 21) (by decide +kernel), List.mem_of_getElem? (i := 560) (by decide +kernel), List.mem_of_getElem? (i := 561) (by decide +kernel)⟩
theorem lw_p3 : lw_okq (⟨"WellTold$Reader", "reads", "(II)Z"⟩, 4) := ⟨⟨by decide +kernel, by decide +kernel⟩, List.mem_of_getElem? (i := 251) (by decide +kernel), List.mem_of_getElem? (i := 594) (by decide +kernel), List.mem_of_getElem? (i := 595) (by decide +kernel)⟩
theorem lw_p4 : lw_okq (⟨"WellTold$Reader", "readsPart", "(II)Z"⟩, 4) := ⟨⟨by decide +kernel, by decide +kernel⟩, List.mem_of_getElem? (i := 251) (by decide +kernel), List.mem_of_getElem? (i := 598) (by decide +kernel), List.mem_of_getElem? (i := 599) (by decide +kernel)⟩
theorem lw_p5 : lw_okq (⟨"WellTold$Reader", "readsOne", "(I)Z"⟩, 4) := ⟨⟨by decide +kernel, by decide +kernel⟩, List.mem_of_getElem? (i := 251) (by decide +kernel), List.mem_of_getElem? (i := 602) (by decide +kernel), List.mem_of_getElem? (i := 603) (by decide +kernel)⟩
theorem lw_p6 : lw_okq (⟨"WellTold$Reader", "next", "()I"⟩, 4) := ⟨⟨by decide +kernel, by decide +kernel⟩, List.mem_of_getElem? (i := 251) (by decide +kernel), List.mem_of_getElem? (i := 606) (by decide +kernel), List.mem_of_getElem? (i := 607) (by decide +kernel)⟩
theorem lw_p7 : lw_okq (⟨"WellTold$Reader", "readNumber", "()V"⟩, 4) := ⟨⟨by decide +kernel, by decide +kernel⟩, List.mem_of_getElem? (i := 251) (by decide +kernel), List.mem_of_getElem? (i := 700) (by decide +kernel), List.mem_of_getElem? (i := 701) (by decide +kernel)⟩
theorem lw_p8 : lw_okq (⟨"WellTold$Reader", "readsNot", "(I)Z"⟩, 4) := ⟨⟨by decide +kernel, by decide +kernel⟩, List.mem_of_getElem? (i := 251) (by decide +kernel), List.mem_of_getElem? (i := 705) (by decide +kernel), List.mem_of_getElem? (i := 706) (by decide +kernel)⟩
theorem lw_p9 : lw_okq (⟨"WellTold$Reader", "readsBracket", "(I)Z"⟩, 4) := ⟨⟨by decide +kernel, by decide +kernel⟩, List.mem_of_getElem? (i := 251) (by decide +kernel), List.mem_of_getElem? (i := 709) (by decide +kernel), List.mem_of_getElem? (i := 710) (by decide +kernel)⟩
theorem lw_p10 : lw_okq (⟨"WellTold$Village", "beTasted", "(LWellTold$Saying;I)V"⟩, 14) := ⟨⟨by decide +kernel, by decide +kernel⟩, List.mem_of_getElem? (i := 29) (by decide +kernel), List.mem_of_getElem? (i := 750) (by decide +kernel), List.mem_of_getElem? (i := 751) (by decide +kernel)⟩
theorem lw_p11 : lw_okq (⟨"WellTold", "hinders", "(IIII)Z"⟩, 8) := ⟨⟨by decide +kernel, by decide +kernel⟩, List.mem_of_getElem? (i := 21) (by decide +kernel), List.mem_of_getElem? (i := 808) (by decide +kernel), List.mem_of_getElem? (i := 809) (by decide +kernel)⟩
theorem lw_p12 : lw_okq (⟨"WellTold", "sheetAt", "(I)LWellTold$Sheet;"⟩, 8) := ⟨⟨by decide +kernel, by decide +kernel⟩, List.mem_of_getElem? (i := 21) (by decide +kernel), List.mem_of_getElem? (i := 816) (by decide +kernel), List.mem_of_getElem? (i := 817) (by decide +kernel)⟩
theorem lw_p13 : lw_okq (⟨"WellTold$Voices", "says", "(IIII)I"⟩, 4) := ⟨⟨by decide +kernel, by decide +kernel⟩, List.mem_of_getElem? (i := 275) (by decide +kernel), List.mem_of_getElem? (i := 868) (by decide +kernel), List.mem_of_getElem? (i := 869) (by decide +kernel)⟩
theorem lw_p14 : lw_okq (⟨"WellTold$Voices", "saysBody", "(IIII)I"⟩, 4) := ⟨⟨by decide +kernel, by decide +kernel⟩, List.mem_of_getElem? (i := 275) (by decide +kernel), List.mem_of_getElem? (i := 878) (by decide +kernel), List.mem_of_getElem? (i := 879) (by decide +kernel)⟩
theorem lw_p15 : lw_okq (⟨"WellToldModel", "finding", "(I)I"⟩, 23) := ⟨⟨by decide +kernel, by decide +kernel⟩, List.mem_of_getElem? (i := 965) (by decide +kernel), List.mem_of_getElem? (i := 1053) (by decide +kernel), List.mem_of_getElem? (i := 1054) (by decide +kernel)⟩
def lw_privs_1 : List (MethodName × Nat) := [(⟨"WellTold", "error", "(I)I"⟩, 8), (⟨"WellTold$Text", "held", "(I)I"⟩, 3), (⟨"WellTold", "mayBeOfOne", "(II)Z"⟩, 8), (⟨"WellTold$Reader", "reads", "(II)Z"⟩, 4), (⟨"WellTold$Reader", "readsPart", "(II)Z"⟩, 4), (⟨"WellTold$Reader", "readsOne", "(I)Z"⟩, 4), (⟨"WellTold$Reader", "next", "()I"⟩, 4), (⟨"WellTold$Reader", "readNumber", "()V"⟩, 4), (⟨"WellTold$Reader", "readsNot", "(I)Z"⟩, 4), (⟨"WellTold$Reader", "readsBracket", "(I)Z"⟩, 4), (⟨"WellTold$Village", "beTasted", "(LWellTold$Saying;I)V"⟩, 14), (⟨"WellTold", "hinders", "(IIII)Z"⟩, 8), (⟨"WellTold", "sheetAt", "(I)LWellTold$Sheet;"⟩, 8), (⟨"WellTold$Voices", "says", "(IIII)I"⟩, 4), (⟨"WellTold$Voices", "saysBody", "(IIII)I"⟩, 4), (⟨"WellToldModel", "finding", "(I)I"⟩, 23)]
theorem lw_r1 : ∀ q ∈ lw_privs_1, lw_okq q := List.forall_mem_cons.mpr ⟨lw_p0, List.forall_mem_cons.mpr ⟨lw_p1, List.forall_mem_cons.mpr ⟨lw_p2, List.forall_mem_cons.mpr ⟨lw_p3, List.forall_mem_cons.mpr ⟨lw_p4, List.forall_mem_cons.mpr ⟨lw_p5, List.forall_mem_cons.mpr ⟨lw_p6, List.forall_mem_cons.mpr ⟨lw_p7, List.forall_mem_cons.mpr ⟨lw_p8, List.forall_mem_cons.mpr ⟨lw_p9, List.forall_mem_cons.mpr ⟨lw_p10, List.forall_mem_cons.mpr ⟨lw_p11, List.forall_mem_cons.mpr ⟨lw_p12, List.forall_mem_cons.mpr ⟨lw_p13, List.forall_mem_cons.mpr ⟨lw_p14, List.forall_mem_cons.mpr ⟨lw_p15, fun _ h => absurd h List.not_mem_nil⟩⟩⟩⟩⟩⟩⟩⟩⟩⟩⟩⟩⟩⟩⟩⟩
theorem lw_p16 : lw_okq (⟨"WellToldModel", "either", "()V"⟩, 23) := ⟨⟨by decide +kernel, by decide +kernel⟩, List.mem_of_getElem? (i := 965) (by decide +kernel), List.mem_of_getElem? (i := 1064) (by decide +kernel), List.mem_of_getElem? (i := 1065) (by decide +kernel)⟩
theorem lw_p17 : lw_okq (⟨"WellToldModel", "both", "()V"⟩, 23) := ⟨⟨by decide +kernel, by decide +kernel⟩, List.mem_of_getElem? (i := 965) (by decide +kernel), List.mem_of_getElem? (i := 1068) (by decide +kernel), List.mem_of_getElem? (i := 1069) (by decide +kernel)⟩
theorem lw_p18 : lw_okq (⟨"WellToldModel", "compared", "()V"⟩, 23) := ⟨⟨by decide +kernel, by decide +kernel⟩, List.mem_of_getElem? (i := 965) (by decide +kernel), List.mem_of_getElem? (i := 1072) (by decide +kernel), List.mem_of_getElem? (i := 1073) (by decide +kernel)⟩
theorem lw_p19 : lw_okq (⟨"WellToldModel", "sum", "()V"⟩, 23) := ⟨⟨by decide +kernel, by decide +kernel⟩, List.mem_of_getElem? (i := 965) (by decide +kernel), List.mem_of_getElem? (i := 1076) (by decide +kernel), List.mem_of_getElem? (i := 1077) (by decide +kernel)⟩
theorem lw_p20 : lw_okq (⟨"WellToldModel", "product", "()V"⟩, 23) := ⟨⟨by decide +kernel, by decide +kernel⟩, List.mem_of_getElem? (i := 965) (by decide +kernel), List.mem_of_getElem? (i := 1080) (by decide +kernel), List.mem_of_getElem? (i := 1081) (by decide +kernel)⟩
theorem lw_p21 : lw_okq (⟨"WellToldModel", "one", "()V"⟩, 23) := ⟨⟨by decide +kernel, by decide +kernel⟩, List.mem_of_getElem? (i := 965) (by decide +kernel), List.mem_of_getElem? (i := 1084) (by decide +kernel), List.mem_of_getElem? (i := 1085) (by decide +kernel)⟩
theorem lw_p22 : lw_okq (⟨"WellToldModel", "here", "()I"⟩, 23) := ⟨⟨by decide +kernel, by decide +kernel⟩, List.mem_of_getElem? (i := 965) (by decide +kernel), List.mem_of_getElem? (i := 1088) (by decide +kernel), List.mem_of_getElem? (i := 1089) (by decide +kernel)⟩
theorem lw_p23 : lw_okq (⟨"WellToldModel", "codes", "(I)V"⟩, 23) := ⟨⟨by decide +kernel, by decide +kernel⟩, List.mem_of_getElem? (i := 965) (by decide +kernel), List.mem_of_getElem? (i := 1092) (by decide +kernel), List.mem_of_getElem? (i := 1093) (by decide +kernel)⟩
theorem lw_p24 : lw_okq (⟨"WellToldModel", "takes", "(I)Z"⟩, 23) := ⟨⟨by decide +kernel, by decide +kernel⟩, List.mem_of_getElem? (i := 965) (by decide +kernel), List.mem_of_getElem? (i := 1096) (by decide +kernel), List.mem_of_getElem? (i := 1097) (by decide +kernel)⟩
theorem lw_p25 : lw_okq (⟨"WellToldModel", "nameOf", "(I)I"⟩, 23) := ⟨⟨by decide +kernel, by decide +kernel⟩, List.mem_of_getElem? (i := 965) (by decide +kernel), List.mem_of_getElem? (i := 1100) (by decide +kernel), List.mem_of_getElem? (i := 1101) (by decide +kernel)⟩
theorem lw_p26 : lw_okq (⟨"WellToldModel", "given", "(IIII)I"⟩, 23) := ⟨⟨by decide +kernel, by decide +kernel⟩, List.mem_of_getElem? (i := 965) (by decide +kernel), List.mem_of_getElem? (i := 1129) (by decide +kernel), List.mem_of_getElem? (i := 1130) (by decide +kernel)⟩
theorem lw_p27 : lw_okq (⟨"WellToldModel", "hasText", "(I)Z"⟩, 23) := ⟨⟨by decide +kernel, by decide +kernel⟩, List.mem_of_getElem? (i := 965) (by decide +kernel), List.mem_of_getElem? (i := 1133) (by decide +kernel), List.mem_of_getElem? (i := 1134) (by decide +kernel)⟩
theorem lw_p28 : lw_okq (⟨"WellToldModel", "worked", "(I)I"⟩, 23) := ⟨⟨by decide +kernel, by decide +kernel⟩, List.mem_of_getElem? (i := 965) (by decide +kernel), List.mem_of_getElem? (i := 1137) (by decide +kernel), List.mem_of_getElem? (i := 1138) (by decide +kernel)⟩
theorem lw_p29 : lw_okq (⟨"WellToldModel", "turn", "(II)I"⟩, 23) := ⟨⟨by decide +kernel, by decide +kernel⟩, List.mem_of_getElem? (i := 965) (by decide +kernel), List.mem_of_getElem? (i := 1154) (by decide +kernel), List.mem_of_getElem? (i := 1155) (by decide +kernel)⟩
theorem lw_p30 : lw_okq (⟨"WellToldModel", "isWell", "(I)Z"⟩, 23) := ⟨⟨by decide +kernel, by decide +kernel⟩, List.mem_of_getElem? (i := 965) (by decide +kernel), List.mem_of_getElem? (i := 1162) (by decide +kernel), List.mem_of_getElem? (i := 1163) (by decide +kernel)⟩
theorem lw_p31 : lw_okq (⟨"WellToldModel", "wayComes", "(III)I"⟩, 23) := ⟨⟨by decide +kernel, by decide +kernel⟩, List.mem_of_getElem? (i := 965) (by decide +kernel), List.mem_of_getElem? (i := 1166) (by decide +kernel), List.mem_of_getElem? (i := 1167) (by decide +kernel)⟩
def lw_privs_2 : List (MethodName × Nat) := [(⟨"WellToldModel", "either", "()V"⟩, 23), (⟨"WellToldModel", "both", "()V"⟩, 23), (⟨"WellToldModel", "compared", "()V"⟩, 23), (⟨"WellToldModel", "sum", "()V"⟩, 23), (⟨"WellToldModel", "product", "()V"⟩, 23), (⟨"WellToldModel", "one", "()V"⟩, 23), (⟨"WellToldModel", "here", "()I"⟩, 23), (⟨"WellToldModel", "codes", "(I)V"⟩, 23), (⟨"WellToldModel", "takes", "(I)Z"⟩, 23), (⟨"WellToldModel", "nameOf", "(I)I"⟩, 23), (⟨"WellToldModel", "given", "(IIII)I"⟩, 23), (⟨"WellToldModel", "hasText", "(I)Z"⟩, 23), (⟨"WellToldModel", "worked", "(I)I"⟩, 23), (⟨"WellToldModel", "turn", "(II)I"⟩, 23), (⟨"WellToldModel", "isWell", "(I)Z"⟩, 23), (⟨"WellToldModel", "wayComes", "(III)I"⟩, 23)]
theorem lw_r2 : ∀ q ∈ lw_privs_2, lw_okq q := List.forall_mem_cons.mpr ⟨lw_p16, List.forall_mem_cons.mpr ⟨lw_p17, List.forall_mem_cons.mpr ⟨lw_p18, List.forall_mem_cons.mpr ⟨lw_p19, List.forall_mem_cons.mpr ⟨lw_p20, List.forall_mem_cons.mpr ⟨lw_p21, List.forall_mem_cons.mpr ⟨lw_p22, List.forall_mem_cons.mpr ⟨lw_p23, List.forall_mem_cons.mpr ⟨lw_p24, List.forall_mem_cons.mpr ⟨lw_p25, List.forall_mem_cons.mpr ⟨lw_p26, List.forall_mem_cons.mpr ⟨lw_p27, List.forall_mem_cons.mpr ⟨lw_p28, List.forall_mem_cons.mpr ⟨lw_p29, List.forall_mem_cons.mpr ⟨lw_p30, List.forall_mem_cons.mpr ⟨lw_p31, fun _ h => absurd h List.not_mem_nil⟩⟩⟩⟩⟩⟩⟩⟩⟩⟩⟩⟩⟩⟩⟩⟩
theorem lw_p32 : lw_okq (⟨"WellToldModel", "isWay", "(I)Z"⟩, 23) := ⟨⟨by decide +kernel, by decide +kernel⟩, List.mem_of_getElem? (i := 965) (by decide +kernel), List.mem_of_getElem? (i := 1177) (by decide +kernel), List.mem_of_getElem? (i := 1178) (by decide +kernel)⟩
theorem lw_p33 : lw_okq (⟨"WellToldModel", "wayIs", "(II)I"⟩, 23) := ⟨⟨by decide +kernel, by decide +kernel⟩, List.mem_of_getElem? (i := 965) (by decide +kernel), List.mem_of_getElem? (i := 1181) (by decide +kernel), List.mem_of_getElem? (i := 1182) (by decide +kernel)⟩
theorem lw_p34 : lw_okq (⟨"WellToldModel", "sayingComes", "(III)I"⟩, 23) := ⟨⟨by decide +kernel, by decide +kernel⟩, List.mem_of_getElem? (i := 965) (by decide +kernel), List.mem_of_getElem? (i := 1203) (by decide +kernel), List.mem_of_getElem? (i := 1204) (by decide +kernel)⟩
theorem lw_p35 : lw_okq (⟨"WellToldModel", "isSaying", "(I)Z"⟩, 23) := ⟨⟨by decide +kernel, by decide +kernel⟩, List.mem_of_getElem? (i := 965) (by decide +kernel), List.mem_of_getElem? (i := 1214) (by decide +kernel), List.mem_of_getElem? (i := 1215) (by decide +kernel)⟩
theorem lw_p36 : lw_okq (⟨"WellToldModel", "weakens", "(I)I"⟩, 23) := ⟨⟨by decide +kernel, by decide +kernel⟩, List.mem_of_getElem? (i := 965) (by decide +kernel), List.mem_of_getElem? (i := 1218) (by decide +kernel), List.mem_of_getElem? (i := 1219) (by decide +kernel)⟩
theorem lw_p37 : lw_okq (⟨"WellToldModel", "sayingIs", "(II)I"⟩, 23) := ⟨⟨by decide +kernel, by decide +kernel⟩, List.mem_of_getElem? (i := 965) (by decide +kernel), List.mem_of_getElem? (i := 1222) (by decide +kernel), List.mem_of_getElem? (i := 1223) (by decide +kernel)⟩
theorem lw_p38 : lw_okq (⟨"WellToldModel", "goesOn", "(I)I"⟩, 23) := ⟨⟨by decide +kernel, by decide +kernel⟩, List.mem_of_getElem? (i := 965) (by decide +kernel), List.mem_of_getElem? (i := 1226) (by decide +kernel), List.mem_of_getElem? (i := 1227) (by decide +kernel)⟩
theorem lw_p39 : lw_okq (⟨"WellToldModel", "isOpen", "(II)Z"⟩, 23) := ⟨⟨by decide +kernel, by decide +kernel⟩, List.mem_of_getElem? (i := 965) (by decide +kernel), List.mem_of_getElem? (i := 1230) (by decide +kernel), List.mem_of_getElem? (i := 1231) (by decide +kernel)⟩
theorem lw_p40 : lw_okq (⟨"WellToldModel", "drinkers", "(I)I"⟩, 23) := ⟨⟨by decide +kernel, by decide +kernel⟩, List.mem_of_getElem? (i := 965) (by decide +kernel), List.mem_of_getElem? (i := 1234) (by decide +kernel), List.mem_of_getElem? (i := 1235) (by decide +kernel)⟩
theorem lw_p41 : lw_okq (⟨"WellToldModel", "folkIs", "(II)I"⟩, 23) := ⟨⟨by decide +kernel, by decide +kernel⟩, List.mem_of_getElem? (i := 965) (by decide +kernel), List.mem_of_getElem? (i := 1238) (by decide +kernel), List.mem_of_getElem? (i := 1239) (by decide +kernel)⟩
theorem lw_p42 : lw_okq (⟨"WellToldModel", "knowers", "(I)I"⟩, 23) := ⟨⟨by decide +kernel, by decide +kernel⟩, List.mem_of_getElem? (i := 965) (by decide +kernel), List.mem_of_getElem? (i := 1245) (by decide +kernel), List.mem_of_getElem? (i := 1246) (by decide +kernel)⟩
theorem lw_p43 : lw_okq (⟨"WellToldModel", "folkComes", "(II)I"⟩, 23) := ⟨⟨by decide +kernel, by decide +kernel⟩, List.mem_of_getElem? (i := 965) (by decide +kernel), List.mem_of_getElem? (i := 1275) (by decide +kernel), List.mem_of_getElem? (i := 1276) (by decide +kernel)⟩
theorem lw_p44 : lw_okq (⟨"WellToldModel", "isOne", "(I)Z"⟩, 23) := ⟨⟨by decide +kernel, by decide +kernel⟩, List.mem_of_getElem? (i := 965) (by decide +kernel), List.mem_of_getElem? (i := 1283) (by decide +kernel), List.mem_of_getElem? (i := 1284) (by decide +kernel)⟩
theorem lw_p45 : lw_okq (⟨"WellToldModel", "hoursGo", "(I)V"⟩, 23) := ⟨⟨by decide +kernel, by decide +kernel⟩, List.mem_of_getElem? (i := 965) (by decide +kernel), List.mem_of_getElem? (i := 1295) (by decide +kernel), List.mem_of_getElem? (i := 1296) (by decide +kernel)⟩
theorem lw_p46 : lw_okq (⟨"WellToldModel", "hour", "()V"⟩, 23) := ⟨⟨by decide +kernel, by decide +kernel⟩, List.mem_of_getElem? (i := 965) (by decide +kernel), List.mem_of_getElem? (i := 1299) (by decide +kernel), List.mem_of_getElem? (i := 1300) (by decide +kernel)⟩
theorem lw_p47 : lw_okq (⟨"WellToldModel", "goes", "(I)V"⟩, 23) := ⟨⟨by decide +kernel, by decide +kernel⟩, List.mem_of_getElem? (i := 965) (by decide +kernel), List.mem_of_getElem? (i := 1303) (by decide +kernel), List.mem_of_getElem? (i := 1304) (by decide +kernel)⟩
def lw_privs_3 : List (MethodName × Nat) := [(⟨"WellToldModel", "isWay", "(I)Z"⟩, 23), (⟨"WellToldModel", "wayIs", "(II)I"⟩, 23), (⟨"WellToldModel", "sayingComes", "(III)I"⟩, 23), (⟨"WellToldModel", "isSaying", "(I)Z"⟩, 23), (⟨"WellToldModel", "weakens", "(I)I"⟩, 23), (⟨"WellToldModel", "sayingIs", "(II)I"⟩, 23), (⟨"WellToldModel", "goesOn", "(I)I"⟩, 23), (⟨"WellToldModel", "isOpen", "(II)Z"⟩, 23), (⟨"WellToldModel", "drinkers", "(I)I"⟩, 23), (⟨"WellToldModel", "folkIs", "(II)I"⟩, 23), (⟨"WellToldModel", "knowers", "(I)I"⟩, 23), (⟨"WellToldModel", "folkComes", "(II)I"⟩, 23), (⟨"WellToldModel", "isOne", "(I)Z"⟩, 23), (⟨"WellToldModel", "hoursGo", "(I)V"⟩, 23), (⟨"WellToldModel", "hour", "()V"⟩, 23), (⟨"WellToldModel", "goes", "(I)V"⟩, 23)]
theorem lw_r3 : ∀ q ∈ lw_privs_3, lw_okq q := List.forall_mem_cons.mpr ⟨lw_p32, List.forall_mem_cons.mpr ⟨lw_p33, List.forall_mem_cons.mpr ⟨lw_p34, List.forall_mem_cons.mpr ⟨lw_p35, List.forall_mem_cons.mpr ⟨lw_p36, List.forall_mem_cons.mpr ⟨lw_p37, List.forall_mem_cons.mpr ⟨lw_p38, List.forall_mem_cons.mpr ⟨lw_p39, List.forall_mem_cons.mpr ⟨lw_p40, List.forall_mem_cons.mpr ⟨lw_p41, List.forall_mem_cons.mpr ⟨lw_p42, List.forall_mem_cons.mpr ⟨lw_p43, List.forall_mem_cons.mpr ⟨lw_p44, List.forall_mem_cons.mpr ⟨lw_p45, List.forall_mem_cons.mpr ⟨lw_p46, List.forall_mem_cons.mpr ⟨lw_p47, fun _ h => absurd h List.not_mem_nil⟩⟩⟩⟩⟩⟩⟩⟩⟩⟩⟩⟩⟩⟩⟩⟩
theorem lw_p48 : lw_okq (⟨"WellToldModel", "tastes", "(II)Z"⟩, 23) := ⟨⟨by decide +kernel, by decide +kernel⟩, List.mem_of_getElem? (i := 965) (by decide +kernel), List.mem_of_getElem? (i := 1307) (by decide +kernel), List.mem_of_getElem? (i := 1308) (by decide +kernel)⟩
theorem lw_p49 : lw_okq (⟨"WellToldModel", "knowing", "()I"⟩, 23) := ⟨⟨by decide +kernel, by decide +kernel⟩, List.mem_of_getElem? (i := 965) (by decide +kernel), List.mem_of_getElem? (i := 1311) (by decide +kernel), List.mem_of_getElem? (i := 1312) (by decide +kernel)⟩
theorem lw_p50 : lw_okq (⟨"WellToldModel", "drawn", "()I"⟩, 23) := ⟨⟨by decide +kernel, by decide +kernel⟩, List.mem_of_getElem? (i := 965) (by decide +kernel), List.mem_of_getElem? (i := 1319) (by decide +kernel), List.mem_of_getElem? (i := 1320) (by decide +kernel)⟩
theorem lw_p51 : lw_okq (⟨"WellToldModel", "putBack", "(I)I"⟩, 23) := ⟨⟨by decide +kernel, by decide +kernel⟩, List.mem_of_getElem? (i := 965) (by decide +kernel), List.mem_of_getElem? (i := 1334) (by decide +kernel), List.mem_of_getElem? (i := 1335) (by decide +kernel)⟩
theorem lw_p52 : lw_okq (⟨"WellToldModel", "knows", "(II)Z"⟩, 23) := ⟨⟨by decide +kernel, by decide +kernel⟩, List.mem_of_getElem? (i := 965) (by decide +kernel), List.mem_of_getElem? (i := 1342) (by decide +kernel), List.mem_of_getElem? (i := 1343) (by decide +kernel)⟩
theorem lw_p53 : lw_okq (⟨"WellToldModel", "isSet", "(I)Z"⟩, 23) := ⟨⟨by decide +kernel, by decide +kernel⟩, List.mem_of_getElem? (i := 965) (by decide +kernel), List.mem_of_getElem? (i := 1351) (by decide +kernel), List.mem_of_getElem? (i := 1352) (by decide +kernel)⟩
theorem lw_p54 : lw_okq (⟨"WellToldModel", "knowersBehind", "(II)I"⟩, 23) := ⟨⟨by decide +kernel, by decide +kernel⟩, List.mem_of_getElem? (i := 965) (by decide +kernel), List.mem_of_getElem? (i := 1355) (by decide +kernel), List.mem_of_getElem? (i := 1356) (by decide +kernel)⟩
theorem lw_p55 : lw_okq (⟨"WellToldModel", "isMoreStopped", "(I)Z"⟩, 23) := ⟨⟨by decide +kernel, by decide +kernel⟩, List.mem_of_getElem? (i := 965) (by decide +kernel), List.mem_of_getElem? (i := 1366) (by decide +kernel), List.mem_of_getElem? (i := 1367) (by decide +kernel)⟩
theorem lw_p56 : lw_okq (⟨"WellToldModel", "knowsIfStopped", "(IIII)Z"⟩, 23) := ⟨⟨by decide +kernel, by decide +kernel⟩, List.mem_of_getElem? (i := 965) (by decide +kernel), List.mem_of_getElem? (i := 1370) (by decide +kernel), List.mem_of_getElem? (i := 1371) (by decide +kernel)⟩
theorem lw_p57 : lw_okq (⟨"WellToldModel", "tellsNobody", "(I)Z"⟩, 23) := ⟨⟨by decide +kernel, by decide +kernel⟩, List.mem_of_getElem? (i := 965) (by decide +kernel), List.mem_of_getElem? (i := 1381) (by decide +kernel), List.mem_of_getElem? (i := 1382) (by decide +kernel)⟩
theorem lw_p58 : lw_okq (⟨"WellToldModel", "isTold", "(II)Z"⟩, 23) := ⟨⟨by decide +kernel, by decide +kernel⟩, List.mem_of_getElem? (i := 965) (by decide +kernel), List.mem_of_getElem? (i := 1385) (by decide +kernel), List.mem_of_getElem? (i := 1386) (by decide +kernel)⟩
theorem lw_p59 : lw_okq (⟨"WellToldModel", "alikeNow", "()I"⟩, 23) := ⟨⟨by decide +kernel, by decide +kernel⟩, List.mem_of_getElem? (i := 965) (by decide +kernel), List.mem_of_getElem? (i := 1397) (by decide +kernel), List.mem_of_getElem? (i := 1398) (by decide +kernel)⟩
theorem lw_p60 : lw_okq (⟨"WellToldModel", "callsOf", "(I)I"⟩, 23) := ⟨⟨by decide +kernel, by decide +kernel⟩, List.mem_of_getElem? (i := 965) (by decide +kernel), List.mem_of_getElem? (i := 1417) (by decide +kernel), List.mem_of_getElem? (i := 1418) (by decide +kernel)⟩
theorem lw_p61 : lw_okq (⟨"WellToldModel", "ran", "(I)V"⟩, 23) := ⟨⟨by decide +kernel, by decide +kernel⟩, List.mem_of_getElem? (i := 965) (by decide +kernel), List.mem_of_getElem? (i := 1421) (by decide +kernel), List.mem_of_getElem? (i := 1422) (by decide +kernel)⟩
theorem lw_p62 : lw_okq (⟨"WellToldModel", "echoesOf", "(I)I"⟩, 23) := ⟨⟨by decide +kernel, by decide +kernel⟩, List.mem_of_getElem? (i := 965) (by decide +kernel), List.mem_of_getElem? (i := 1425) (by decide +kernel), List.mem_of_getElem? (i := 1426) (by decide +kernel)⟩
theorem lw_p63 : lw_okq (⟨"WellToldModel", "clearsOf", "(I)I"⟩, 23) := ⟨⟨by decide +kernel, by decide +kernel⟩, List.mem_of_getElem? (i := 965) (by decide +kernel), List.mem_of_getElem? (i := 1429) (by decide +kernel), List.mem_of_getElem? (i := 1430) (by decide +kernel)⟩
def lw_privs_4 : List (MethodName × Nat) := [(⟨"WellToldModel", "tastes", "(II)Z"⟩, 23), (⟨"WellToldModel", "knowing", "()I"⟩, 23), (⟨"WellToldModel", "drawn", "()I"⟩, 23), (⟨"WellToldModel", "putBack", "(I)I"⟩, 23), (⟨"WellToldModel", "knows", "(II)Z"⟩, 23), (⟨"WellToldModel", "isSet", "(I)Z"⟩, 23), (⟨"WellToldModel", "knowersBehind", "(II)I"⟩, 23), (⟨"WellToldModel", "isMoreStopped", "(I)Z"⟩, 23), (⟨"WellToldModel", "knowsIfStopped", "(IIII)Z"⟩, 23), (⟨"WellToldModel", "tellsNobody", "(I)Z"⟩, 23), (⟨"WellToldModel", "isTold", "(II)Z"⟩, 23), (⟨"WellToldModel", "alikeNow", "()I"⟩, 23), (⟨"WellToldModel", "callsOf", "(I)I"⟩, 23), (⟨"WellToldModel", "ran", "(I)V"⟩, 23), (⟨"WellToldModel", "echoesOf", "(I)I"⟩, 23), (⟨"WellToldModel", "clearsOf", "(I)I"⟩, 23)]
theorem lw_r4 : ∀ q ∈ lw_privs_4, lw_okq q := List.forall_mem_cons.mpr ⟨lw_p48, List.forall_mem_cons.mpr ⟨lw_p49, List.forall_mem_cons.mpr ⟨lw_p50, List.forall_mem_cons.mpr ⟨lw_p51, List.forall_mem_cons.mpr ⟨lw_p52, List.forall_mem_cons.mpr ⟨lw_p53, List.forall_mem_cons.mpr ⟨lw_p54, List.forall_mem_cons.mpr ⟨lw_p55, List.forall_mem_cons.mpr ⟨lw_p56, List.forall_mem_cons.mpr ⟨lw_p57, List.forall_mem_cons.mpr ⟨lw_p58, List.forall_mem_cons.mpr ⟨lw_p59, List.forall_mem_cons.mpr ⟨lw_p60, List.forall_mem_cons.mpr ⟨lw_p61, List.forall_mem_cons.mpr ⟨lw_p62, List.forall_mem_cons.mpr ⟨lw_p63, fun _ h => absurd h List.not_mem_nil⟩⟩⟩⟩⟩⟩⟩⟩⟩⟩⟩⟩⟩⟩⟩⟩
theorem lw_p64 : lw_okq (⟨"WellToldModel", "tastesOf", "(I)I"⟩, 23) := ⟨⟨by decide +kernel, by decide +kernel⟩, List.mem_of_getElem? (i := 965) (by decide +kernel), List.mem_of_getElem? (i := 1433) (by decide +kernel), List.mem_of_getElem? (i := 1434) (by decide +kernel)⟩
theorem lw_p65 : lw_okq (⟨"WellToldModel", "plainTastes", "(I)I"⟩, 23) := ⟨⟨by decide +kernel, by decide +kernel⟩, List.mem_of_getElem? (i := 965) (by decide +kernel), List.mem_of_getElem? (i := 1437) (by decide +kernel), List.mem_of_getElem? (i := 1438) (by decide +kernel)⟩
theorem lw_p66 : lw_okq (⟨"WellToldModel", "strengths", "()I"⟩, 23) := ⟨⟨by decide +kernel, by decide +kernel⟩, List.mem_of_getElem? (i := 965) (by decide +kernel), List.mem_of_getElem? (i := 1481) (by decide +kernel), List.mem_of_getElem? (i := 1482) (by decide +kernel)⟩
theorem lw_p67 : lw_okq (⟨"WellToldModel", "stopped", "()I"⟩, 23) := ⟨⟨by decide +kernel, by decide +kernel⟩, List.mem_of_getElem? (i := 965) (by decide +kernel), List.mem_of_getElem? (i := 1489) (by decide +kernel), List.mem_of_getElem? (i := 1490) (by decide +kernel)⟩
def lw_privs_5 : List (MethodName × Nat) := [(⟨"WellToldModel", "tastesOf", "(I)I"⟩, 23), (⟨"WellToldModel", "plainTastes", "(I)I"⟩, 23), (⟨"WellToldModel", "strengths", "()I"⟩, 23), (⟨"WellToldModel", "stopped", "()I"⟩, 23)]
theorem lw_r5 : ∀ q ∈ lw_privs_5, lw_okq q := List.forall_mem_cons.mpr ⟨lw_p64, List.forall_mem_cons.mpr ⟨lw_p65, List.forall_mem_cons.mpr ⟨lw_p66, List.forall_mem_cons.mpr ⟨lw_p67, fun _ h => absurd h List.not_mem_nil⟩⟩⟩⟩
def lw_privs : List (MethodName × Nat) := lw_privs_1 ++ (lw_privs_2 ++ (lw_privs_3 ++ (lw_privs_4 ++ (lw_privs_5))))
def lw_tbl : List Cond := k2_sels lw_privs ++ tables_1
theorem lw_privs_ok : ∀ q ∈ lw_privs, lw_okq q := by
  show ∀ q ∈ lw_privs_1 ++ (lw_privs_2 ++ (lw_privs_3 ++ (lw_privs_4 ++ (lw_privs_5)))), lw_okq q
  exact List.forall_mem_append.mpr ⟨lw_r1, List.forall_mem_append.mpr ⟨lw_r2, List.forall_mem_append.mpr ⟨lw_r3, List.forall_mem_append.mpr ⟨lw_r4, lw_r5⟩⟩⟩⟩
-- ===== end of PART A; then your names; then what follows =====
end
section
/-! ===== BEGIN words of one list among another's, by their places ===== -/
theorem goodIn_r {big : List Cond} (ws : List Cond) (ps : List Nat) (hp : ws = ps.filterMap (fun i => big[i]?)) (h : ws.all goodWord = true) : GoodIn big ws := by
  intro w hw
  have h1 := List.all_eq_true.mp h w hw
  rw [hp] at hw
  obtain ⟨i, -, hi⟩ := List.mem_filterMap.mp hw
  have hm : w ∈ big := by first | exact List.mem_of_getElem? hi | exact List.getElem?_mem hi
  exact ⟨hm, good_of_word h1⟩
theorem goodIn_app {big a b : List Cond} (ha : GoodIn big a) (hb : GoodIn big b) : GoodIn big (a ++ b) := fun w h => (List.mem_append.mp h).elim (ha w) (hb w)
theorem goodIn_ca {big a b : List Cond} {c : Cond} (ha : GoodIn big (c :: a)) (hb : GoodIn big b) : GoodIn big (c :: (a ++ b)) := fun w h => (List.mem_cons.mp h).elim (fun e => ha w (List.mem_cons.mpr (Or.inl e))) (fun h => (List.mem_append.mp h).elim (fun h => ha w (List.mem_cons.mpr (Or.inr h))) (hb w))
theorem goodIn_sub {big ws : List Cond} (hm : ∀ w ∈ ws, w ∈ big) (h : ws.all goodWord = true) : GoodIn big ws := fun w hw => ⟨hm w hw, good_of_word (List.all_eq_true.mp h w hw)⟩
/-! ===== END ===== -/

/-! ===== BEGIN printed: names, fields, word lists, decode rows ===== -/
def RX0 : String := "WellTold$Folk"
def TX0 : u_T := fun k => match k with
  | 0 => ("WellTold$Folk", "wells", "LWellTold$Row;", true)
  | _ => ("WellTold$Folk", "palates", "LWellTold$Row;", true)
def tyX0 : Nat → FieldType := fun k => match k with
  | 0 => .object "WellTold$Row"
  | _ => .object "WellTold$Row"
abbrev wsX00 : List Cond := u_ws RX0 TX0 2
theorem nmX0 : ∀ a, a < 2 → ∀ b, b < 2 → a ≠ b → (TX0 a).2.1 ≠ (TX0 b).2.1 := by decide +kernel
theorem tyX0_ok : ∀ k, k < 2 → parseFieldDescriptor (TX0 k).2.2.1 = some (tyX0 k) := by decide +kernel
abbrev cX0_init : ByteArray := prog_2_method_1_code
def yX0_init : MethodName := ⟨RX0, "<init>", "()V"⟩
abbrev cX0_size : ByteArray := prog_2_method_2_code
def yX0_size : MethodName := ⟨RX0, "size", "()I"⟩
abbrev cX0_has : ByteArray := prog_2_method_3_code
def yX0_has : MethodName := ⟨RX0, "has", "(I)Z"⟩
abbrev cX0_add : ByteArray := prog_2_method_4_code
def yX0_add : MethodName := ⟨RX0, "add", "(II)V"⟩
abbrev cX0_drinkersAt : ByteArray := prog_2_method_5_code
def yX0_drinkersAt : MethodName := ⟨RX0, "drinkersAt", "(I)I"⟩
abbrev cX0_copyFrom : ByteArray := prog_2_method_6_code
def yX0_copyFrom : MethodName := ⟨RX0, "copyFrom", "(LWellTold$Folk;)V"⟩
def RX1 : String := "WellTold$Reader"
def TX1 : u_T := fun k => match k with
  | 0 => ("WellTold$Reader", "codes", "LWellTold$Row;", true)
  | 1 => ("WellTold$Reader", "bytes", "LWellTold$Row;", true)
  | 2 => ("WellTold$Reader", "names", "Ljava/lang/String;", false)
  | _ => ("WellTold$Reader", "place", "I", false)
def tyX1 : Nat → FieldType := fun k => match k with
  | 0 => .object "WellTold$Row"
  | 1 => .object "WellTold$Row"
  | 2 => .object "java/lang/String"
  | _ => .int
abbrev wsX10 : List Cond := u_ws RX1 TX1 4
theorem nmX1 : ∀ a, a < 4 → ∀ b, b < 4 → a ≠ b → (TX1 a).2.1 ≠ (TX1 b).2.1 := by decide +kernel
theorem tyX1_ok : ∀ k, k < 4 → parseFieldDescriptor (TX1 k).2.2.1 = some (tyX1 k) := by decide +kernel
abbrev cX1_init : ByteArray := prog_3_method_1_code
def yX1_init : MethodName := ⟨RX1, "<init>", "()V"⟩
abbrev cX1_faultOf : ByteArray := prog_3_method_2_code
def yX1_faultOf : MethodName := ⟨RX1, "faultOf", "(LWellTold$Row;Ljava/lang/String;)I"⟩
abbrev cX1_next : ByteArray := prog_3_method_3_code
def yX1_next : MethodName := ⟨RX1, "next", "()I"⟩
abbrev cX1_isIn : ByteArray := prog_3_method_4_code
def yX1_isIn : MethodName := ⟨RX1, "isIn", "(Ljava/lang/String;I)Z"⟩
abbrev cX1_signsOf : ByteArray := prog_3_method_5_code
def yX1_signsOf : MethodName := ⟨RX1, "signsOf", "(I)Ljava/lang/String;"⟩
abbrev cX1_reads : ByteArray := prog_3_method_6_code
def yX1_reads : MethodName := ⟨RX1, "reads", "(II)Z"⟩
abbrev cX1_readsPart : ByteArray := prog_3_method_7_code
def yX1_readsPart : MethodName := ⟨RX1, "readsPart", "(II)Z"⟩
abbrev cX1_readsOne : ByteArray := prog_3_method_8_code
def yX1_readsOne : MethodName := ⟨RX1, "readsOne", "(I)Z"⟩
abbrev cX1_readsNot : ByteArray := prog_3_method_9_code
def yX1_readsNot : MethodName := ⟨RX1, "readsNot", "(I)Z"⟩
abbrev cX1_readsBracket : ByteArray := prog_3_method_10_code
def yX1_readsBracket : MethodName := ⟨RX1, "readsBracket", "(I)Z"⟩
abbrev cX1_readNumber : ByteArray := prog_3_method_11_code
def yX1_readNumber : MethodName := ⟨RX1, "readNumber", "()V"⟩
def RX2 : String := "WellTold$Row"
def TX2 : u_T := fun k => match k with
  | 0 => ("WellTold$Row", "cells", "[I", true)
  | _ => ("WellTold$Row", "size", "I", false)
def tyX2 : Nat → FieldType := fun k => match k with
  | 0 => .array .int
  | _ => .int
abbrev wsX20 : List Cond := u_ws RX2 TX2 2
theorem nmX2 : ∀ a, a < 2 → ∀ b, b < 2 → a ≠ b → (TX2 a).2.1 ≠ (TX2 b).2.1 := by decide +kernel
theorem tyX2_ok : ∀ k, k < 2 → parseFieldDescriptor (TX2 k).2.2.1 = some (tyX2 k) := by decide +kernel
abbrev cX2_init : ByteArray := prog_4_method_1_code
def yX2_init : MethodName := ⟨RX2, "<init>", "(I)V"⟩
abbrev cX2_size : ByteArray := prog_4_method_2_code
def yX2_size : MethodName := ⟨RX2, "size", "()I"⟩
abbrev cX2_has : ByteArray := prog_4_method_3_code
def yX2_has : MethodName := ⟨RX2, "has", "(I)Z"⟩
abbrev cX2_hasRun : ByteArray := prog_4_method_4_code
def yX2_hasRun : MethodName := ⟨RX2, "hasRun", "(II)Z"⟩
abbrev cX2_get : ByteArray := prog_4_method_5_code
def yX2_get : MethodName := ⟨RX2, "get", "(I)I"⟩
abbrev cX2_set : ByteArray := prog_4_method_6_code
def yX2_set : MethodName := ⟨RX2, "set", "(II)V"⟩
abbrev cX2_add : ByteArray := prog_4_method_7_code
def yX2_add : MethodName := ⟨RX2, "add", "(I)V"⟩
abbrev cX2_removeLast : ByteArray := prog_4_method_8_code
def yX2_removeLast : MethodName := ⟨RX2, "removeLast", "()I"⟩
abbrev cX2_clear : ByteArray := prog_4_method_9_code
def yX2_clear : MethodName := ⟨RX2, "clear", "()V"⟩
abbrev cX2_zeros : ByteArray := prog_4_method_10_code
def yX2_zeros : MethodName := ⟨RX2, "zeros", "(I)V"⟩
abbrev cX2_copyFrom : ByteArray := prog_4_method_11_code
def yX2_copyFrom : MethodName := ⟨RX2, "copyFrom", "(LWellTold$Row;)V"⟩
def RX3 : String := "WellTold$Saying"
def TX3 : u_T := fun k => match k with
  | 0 => ("WellTold$Saying", "kind", "I", false)
  | 1 => ("WellTold$Saying", "digit", "I", false)
  | 2 => ("WellTold$Saying", "well", "I", false)
  | 3 => ("WellTold$Saying", "strength", "I", false)
  | 4 => ("WellTold$Saying", "left", "I", false)
  | _ => ("WellTold$Saying", "knowers", "I", false)
def tyX3 : Nat → FieldType := fun k => match k with
  | 0 => .int
  | 1 => .int
  | 2 => .int
  | 3 => .int
  | 4 => .int
  | _ => .int
abbrev wsX30 : List Cond := u_ws RX3 TX3 6
theorem nmX3 : ∀ a, a < 6 → ∀ b, b < 6 → a ≠ b → (TX3 a).2.1 ≠ (TX3 b).2.1 := by decide +kernel
theorem tyX3_ok : ∀ k, k < 6 → parseFieldDescriptor (TX3 k).2.2.1 = some (tyX3 k) := by decide +kernel
abbrev cX3_init : ByteArray := prog_5_method_1_code
def yX3_init : MethodName := ⟨RX3, "<init>", "()V"⟩
def RX4 : String := "WellTold$Sayings"
def TX4 : u_T := fun k => match k with
  | 0 => ("WellTold$Sayings", "kinds", "LWellTold$Row;", true)
  | 1 => ("WellTold$Sayings", "digits", "LWellTold$Row;", true)
  | 2 => ("WellTold$Sayings", "wells", "LWellTold$Row;", true)
  | 3 => ("WellTold$Sayings", "strengths", "LWellTold$Row;", true)
  | 4 => ("WellTold$Sayings", "lefts", "LWellTold$Row;", true)
  | _ => ("WellTold$Sayings", "knowers", "LWellTold$Row;", true)
def tyX4 : Nat → FieldType := fun k => match k with
  | 0 => .object "WellTold$Row"
  | 1 => .object "WellTold$Row"
  | 2 => .object "WellTold$Row"
  | 3 => .object "WellTold$Row"
  | 4 => .object "WellTold$Row"
  | _ => .object "WellTold$Row"
abbrev wsX40 : List Cond := u_ws RX4 TX4 6
theorem nmX4 : ∀ a, a < 6 → ∀ b, b < 6 → a ≠ b → (TX4 a).2.1 ≠ (TX4 b).2.1 := by decide +kernel
theorem tyX4_ok : ∀ k, k < 6 → parseFieldDescriptor (TX4 k).2.2.1 = some (tyX4 k) := by decide +kernel
abbrev cX4_init : ByteArray := prog_6_method_1_code
def yX4_init : MethodName := ⟨RX4, "<init>", "()V"⟩
abbrev cX4_size : ByteArray := prog_6_method_2_code
def yX4_size : MethodName := ⟨RX4, "size", "()I"⟩
abbrev cX4_has : ByteArray := prog_6_method_3_code
def yX4_has : MethodName := ⟨RX4, "has", "(I)Z"⟩
abbrev cX4_add : ByteArray := prog_6_method_4_code
def yX4_add : MethodName := ⟨RX4, "add", "(IIII)V"⟩
abbrev cX4_load : ByteArray := prog_6_method_5_code
def yX4_load : MethodName := ⟨RX4, "load", "(ILWellTold$Saying;)V"⟩
abbrev cX4_keep : ByteArray := prog_6_method_6_code
def yX4_keep : MethodName := ⟨RX4, "keep", "(ILWellTold$Saying;)V"⟩
abbrev cX4_knownBy : ByteArray := prog_6_method_7_code
def yX4_knownBy : MethodName := ⟨RX4, "knownBy", "(ILWellTold$Row;)I"⟩
abbrev cX4_learnt : ByteArray := prog_6_method_8_code
def yX4_learnt : MethodName := ⟨RX4, "learnt", "(II)V"⟩
abbrev cX4_allStrength : ByteArray := prog_6_method_9_code
def yX4_allStrength : MethodName := ⟨RX4, "allStrength", "()I"⟩
abbrev cX4_allKnowers : ByteArray := prog_6_method_10_code
def yX4_allKnowers : MethodName := ⟨RX4, "allKnowers", "()I"⟩
abbrev cX4_copyFrom : ByteArray := prog_6_method_11_code
def yX4_copyFrom : MethodName := ⟨RX4, "copyFrom", "(LWellTold$Sayings;)V"⟩
def RX5 : String := "WellTold$Sheet"
def TX5 : u_T := fun k => match k with
  | 0 => ("WellTold$Sheet", "bits", "I", false)
  | _ => ("WellTold$Sheet", "numbers", "LWellTold$Row;", true)
def tyX5 : Nat → FieldType := fun k => match k with
  | 0 => .int
  | _ => .object "WellTold$Row"
abbrev wsX50 : List Cond := u_ws RX5 TX5 2
theorem nmX5 : ∀ a, a < 2 → ∀ b, b < 2 → a ≠ b → (TX5 a).2.1 ≠ (TX5 b).2.1 := by decide +kernel
theorem tyX5_ok : ∀ k, k < 2 → parseFieldDescriptor (TX5 k).2.2.1 = some (tyX5 k) := by decide +kernel
abbrev cX5_init : ByteArray := prog_7_method_1_code
def yX5_init : MethodName := ⟨RX5, "<init>", "()V"⟩
abbrev cX5_isMissing : ByteArray := prog_7_method_2_code
def yX5_isMissing : MethodName := ⟨RX5, "isMissing", "()Z"⟩
abbrev cX5_lowest : ByteArray := prog_7_method_3_code
def yX5_lowest : MethodName := ⟨RX5, "lowest", "(I)I"⟩
abbrev cX5_tellsOf : ByteArray := prog_7_method_4_code
def yX5_tellsOf : MethodName := ⟨RX5, "tellsOf", "(I)Z"⟩
abbrev cX5_fits : ByteArray := prog_7_method_5_code
def yX5_fits : MethodName := ⟨RX5, "fits", "(I)Z"⟩
def RX6 : String := "WellTold$Text"
def TX6 : u_T := fun k => match k with
  | 0 => ("WellTold$Text", "codes", "LWellTold$Row;", true)
  | 1 => ("WellTold$Text", "stack", "LWellTold$Row;", true)
  | _ => ("WellTold$Text", "use", "I", true)
def tyX6 : Nat → FieldType := fun k => match k with
  | 0 => .object "WellTold$Row"
  | 1 => .object "WellTold$Row"
  | _ => .int
abbrev wsX60 : List Cond := u_ws RX6 TX6 3
theorem nmX6 : ∀ a, a < 3 → ∀ b, b < 3 → a ≠ b → (TX6 a).2.1 ≠ (TX6 b).2.1 := by decide +kernel
theorem tyX6_ok : ∀ k, k < 3 → parseFieldDescriptor (TX6 k).2.2.1 = some (tyX6 k) := by decide +kernel
abbrev cX6_init : ByteArray := prog_8_method_1_code
def yX6_init : MethodName := ⟨RX6, "<init>", "(I)V"⟩
abbrev cX6_gives : ByteArray := prog_8_method_2_code
def yX6_gives : MethodName := ⟨RX6, "gives", "(III)I"⟩
abbrev cX6_held : ByteArray := prog_8_method_3_code
def yX6_held : MethodName := ⟨RX6, "held", "(I)I"⟩
abbrev cX6_joined : ByteArray := prog_8_method_4_code
def yX6_joined : MethodName := ⟨RX6, "joined", "(III)I"⟩
def RX7 : String := "WellTold$Village"
def TX7 : u_T := fun k => match k with
  | 0 => ("WellTold$Village", "wellCount", "I", false)
  | 1 => ("WellTold$Village", "rain", "I", false)
  | 2 => ("WellTold$Village", "hour", "I", false)
  | 3 => ("WellTold$Village", "z", "I", false)
  | 4 => ("WellTold$Village", "ways", "LWellTold$Ways;", true)
  | 5 => ("WellTold$Village", "sayings", "LWellTold$Sayings;", true)
  | 6 => ("WellTold$Village", "folk", "LWellTold$Folk;", true)
  | 7 => ("WellTold$Village", "tape", "LWellTold$Row;", true)
  | 8 => ("WellTold$Village", "waiting", "LWellTold$Row;", true)
  | 9 => ("WellTold$Village", "weakens", "LWellTold$Text;", true)
  | 10 => ("WellTold$Village", "tastes", "LWellTold$Text;", true)
  | 11 => ("WellTold$Village", "mind", "LWellTold$Saying;", true)
  | 12 => ("WellTold$Village", "thoughts", "LWellTold$Row;", true)
  | _ => ("WellTold$Village", "strengthThen", "I", false)
def tyX7 : Nat → FieldType := fun k => match k with
  | 0 => .int
  | 1 => .int
  | 2 => .int
  | 3 => .int
  | 4 => .object "WellTold$Ways"
  | 5 => .object "WellTold$Sayings"
  | 6 => .object "WellTold$Folk"
  | 7 => .object "WellTold$Row"
  | 8 => .object "WellTold$Row"
  | 9 => .object "WellTold$Text"
  | 10 => .object "WellTold$Text"
  | 11 => .object "WellTold$Saying"
  | 12 => .object "WellTold$Row"
  | _ => .int
abbrev wsX70 : List Cond := u_ws RX7 TX7 14
theorem nmX7 : ∀ a, a < 14 → ∀ b, b < 14 → a ≠ b → (TX7 a).2.1 ≠ (TX7 b).2.1 := by decide +kernel
theorem tyX7_ok : ∀ k, k < 14 → parseFieldDescriptor (TX7 k).2.2.1 = some (tyX7 k) := by decide +kernel
abbrev cX7_init : ByteArray := prog_9_method_1_code
def yX7_init : MethodName := ⟨RX7, "<init>", "()V"⟩
abbrev cX7_copyFrom : ByteArray := prog_9_method_2_code
def yX7_copyFrom : MethodName := ⟨RX7, "copyFrom", "(LWellTold$Village;)V"⟩
abbrev cX7_isWell : ByteArray := prog_9_method_3_code
def yX7_isWell : MethodName := ⟨RX7, "isWell", "(I)Z"⟩
abbrev cX7_textOf : ByteArray := prog_9_method_4_code
def yX7_textOf : MethodName := ⟨RX7, "textOf", "(I)LWellTold$Text;"⟩
abbrev cX7_ofOne : ByteArray := prog_9_method_5_code
def yX7_ofOne : MethodName := ⟨RX7, "ofOne", "(II)I"⟩
abbrev cX7_draw : ByteArray := prog_9_method_6_code
def yX7_draw : MethodName := ⟨RX7, "draw", "()I"⟩
abbrev cX7_weakeningOf : ByteArray := prog_9_method_7_code
def yX7_weakeningOf : MethodName := ⟨RX7, "weakeningOf", "(LWellTold$Saying;I)I"⟩
abbrev cX7_nextWayOf : ByteArray := prog_9_method_8_code
def yX7_nextWayOf : MethodName := ⟨RX7, "nextWayOf", "(LWellTold$Saying;I)I"⟩
abbrev cX7_pass : ByteArray := prog_9_method_9_code
def yX7_pass : MethodName := ⟨RX7, "pass", "(LWellTold$Saying;III)V"⟩
abbrev cX7_beTasted : ByteArray := prog_9_method_10_code
def yX7_beTasted : MethodName := ⟨RX7, "beTasted", "(LWellTold$Saying;I)V"⟩
abbrev cX7_passAll : ByteArray := prog_9_method_11_code
def yX7_passAll : MethodName := ⟨RX7, "passAll", "(LWellTold$Saying;III)V"⟩
abbrev cX7_passHour : ByteArray := prog_9_method_12_code
def yX7_passHour : MethodName := ⟨RX7, "passHour", "()V"⟩
abbrev cX7_thought : ByteArray := prog_9_method_13_code
def yX7_thought : MethodName := ⟨RX7, "thought", "(I)LWellTold$Saying;"⟩
abbrev cX7_thinkAll : ByteArray := prog_9_method_14_code
def yX7_thinkAll : MethodName := ⟨RX7, "thinkAll", "(I)V"⟩
def RX8 : String := "WellTold$Voices"
def TX8 : u_T := fun k => match k with
  | 0 => ("WellTold$Voices", "bodies", "LWellTold$Row;", true)
  | 1 => ("WellTold$Voices", "number", "I", false)
  | 2 => ("WellTold$Voices", "kind", "I", false)
  | _ => ("WellTold$Voices", "digit", "I", false)
def tyX8 : Nat → FieldType := fun k => match k with
  | 0 => .object "WellTold$Row"
  | 1 => .int
  | 2 => .int
  | _ => .int
abbrev wsX80 : List Cond := u_ws RX8 TX8 4
theorem nmX8 : ∀ a, a < 4 → ∀ b, b < 4 → a ≠ b → (TX8 a).2.1 ≠ (TX8 b).2.1 := by decide +kernel
theorem tyX8_ok : ∀ k, k < 4 → parseFieldDescriptor (TX8 k).2.2.1 = some (tyX8 k) := by decide +kernel
abbrev cX8_init : ByteArray := prog_10_method_1_code
def yX8_init : MethodName := ⟨RX8, "<init>", "()V"⟩
abbrev cX8_above : ByteArray := prog_10_method_2_code
def yX8_above : MethodName := ⟨RX8, "above", "(I)I"⟩
abbrev cX8_isUnder : ByteArray := prog_10_method_3_code
def yX8_isUnder : MethodName := ⟨RX8, "isUnder", "(II)Z"⟩
abbrev cX8_bodyOf : ByteArray := prog_10_method_4_code
def yX8_bodyOf : MethodName := ⟨RX8, "bodyOf", "(II)I"⟩
abbrev cX8_begin : ByteArray := prog_10_method_5_code
def yX8_begin : MethodName := ⟨RX8, "begin", "(ILWellTold$Saying;II)I"⟩
abbrev cX8_says : ByteArray := prog_10_method_6_code
def yX8_says : MethodName := ⟨RX8, "says", "(IIII)I"⟩
abbrev cX8_saysBody : ByteArray := prog_10_method_7_code
def yX8_saysBody : MethodName := ⟨RX8, "saysBody", "(IIII)I"⟩
def RX9 : String := "WellTold$Ways"
def TX9 : u_T := fun k => match k with
  | 0 => ("WellTold$Ways", "starts", "LWellTold$Row;", true)
  | 1 => ("WellTold$Ways", "ends", "LWellTold$Row;", true)
  | 2 => ("WellTold$Ways", "lengths", "LWellTold$Row;", true)
  | _ => ("WellTold$Ways", "stopped", "I", false)
def tyX9 : Nat → FieldType := fun k => match k with
  | 0 => .object "WellTold$Row"
  | 1 => .object "WellTold$Row"
  | 2 => .object "WellTold$Row"
  | _ => .int
abbrev wsX90 : List Cond := u_ws RX9 TX9 4
theorem nmX9 : ∀ a, a < 4 → ∀ b, b < 4 → a ≠ b → (TX9 a).2.1 ≠ (TX9 b).2.1 := by decide +kernel
theorem tyX9_ok : ∀ k, k < 4 → parseFieldDescriptor (TX9 k).2.2.1 = some (tyX9 k) := by decide +kernel
abbrev cX9_init : ByteArray := prog_11_method_1_code
def yX9_init : MethodName := ⟨RX9, "<init>", "()V"⟩
abbrev cX9_size : ByteArray := prog_11_method_2_code
def yX9_size : MethodName := ⟨RX9, "size", "()I"⟩
abbrev cX9_has : ByteArray := prog_11_method_3_code
def yX9_has : MethodName := ⟨RX9, "has", "(I)Z"⟩
abbrev cX9_add : ByteArray := prog_11_method_4_code
def yX9_add : MethodName := ⟨RX9, "add", "(III)V"⟩
abbrev cX9_firstFrom : ByteArray := prog_11_method_5_code
def yX9_firstFrom : MethodName := ⟨RX9, "firstFrom", "(II)I"⟩
abbrev cX9_lastFrom : ByteArray := prog_11_method_6_code
def yX9_lastFrom : MethodName := ⟨RX9, "lastFrom", "(II)I"⟩
abbrev cX9_copyFrom : ByteArray := prog_11_method_7_code
def yX9_copyFrom : MethodName := ⟨RX9, "copyFrom", "(LWellTold$Ways;)V"⟩
def RX10 : String := "WellTold"
def TX10 : u_T := fun k => match k with
  | 0 => ("WellTold", "now", "LWellTold$Village;", true)
  | 1 => ("WellTold", "kept", "LWellTold$Village;", true)
  | 2 => ("WellTold", "reader", "LWellTold$Reader;", true)
  | 3 => ("WellTold", "voices", "LWellTold$Voices;", true)
  | 4 => ("WellTold", "sheets", "[LWellTold$Sheet;", true)
  | 5 => ("WellTold", "moved", "LWellTold$Row;", true)
  | 6 => ("WellTold", "errors", "LWellTold$Row;", true)
  | _ => ("WellTold", "images", "I", false)
def tyX10 : Nat → FieldType := fun k => match k with
  | 0 => .object "WellTold$Village"
  | 1 => .object "WellTold$Village"
  | 2 => .object "WellTold$Reader"
  | 3 => .object "WellTold$Voices"
  | 4 => .array (.object "WellTold$Sheet")
  | 5 => .object "WellTold$Row"
  | 6 => .object "WellTold$Row"
  | _ => .int
abbrev wsX100 : List Cond := u_ws RX10 TX10 8
theorem nmX10 : ∀ a, a < 8 → ∀ b, b < 8 → a ≠ b → (TX10 a).2.1 ≠ (TX10 b).2.1 := by decide +kernel
theorem tyX10_ok : ∀ k, k < 8 → parseFieldDescriptor (TX10 k).2.2.1 = some (tyX10 k) := by decide +kernel
abbrev cX10_init : ByteArray := prog_1_method_1_code
def yX10_init : MethodName := ⟨RX10, "<init>", "()V"⟩
abbrev cX10_wells : ByteArray := prog_1_method_2_code
def yX10_wells : MethodName := ⟨RX10, "wells", "(I)I"⟩
abbrev cX10_way : ByteArray := prog_1_method_3_code
def yX10_way : MethodName := ⟨RX10, "way", "(III)I"⟩
abbrev cX10_ofWay : ByteArray := prog_1_method_4_code
def yX10_ofWay : MethodName := ⟨RX10, "ofWay", "(II)I"⟩
abbrev cX10_stop : ByteArray := prog_1_method_5_code
def yX10_stop : MethodName := ⟨RX10, "stop", "(II)I"⟩
abbrev cX10_rain : ByteArray := prog_1_method_6_code
def yX10_rain : MethodName := ⟨RX10, "rain", "(I)I"⟩
abbrev cX10_call : ByteArray := prog_1_method_7_code
def yX10_call : MethodName := ⟨RX10, "call", "(III)I"⟩
abbrev cX10_ofSaying : ByteArray := prog_1_method_8_code
def yX10_ofSaying : MethodName := ⟨RX10, "ofSaying", "(II)I"⟩
abbrev cX10_change : ByteArray := prog_1_method_9_code
def yX10_change : MethodName := ⟨RX10, "change", "(III)I"⟩
abbrev cX10_become : ByteArray := prog_1_method_10_code
def yX10_become : MethodName := ⟨RX10, "become", "(II)I"⟩
abbrev cX10_as : ByteArray := prog_1_method_11_code
def yX10_as : MethodName := ⟨RX10, "as", "(II)I"⟩
abbrev cX10_folk : ByteArray := prog_1_method_12_code
def yX10_folk : MethodName := ⟨RX10, "folk", "(II)I"⟩
abbrev cX10_ofFolk : ByteArray := prog_1_method_13_code
def yX10_ofFolk : MethodName := ⟨RX10, "ofFolk", "(II)I"⟩
abbrev cX10_drink : ByteArray := prog_1_method_14_code
def yX10_drink : MethodName := ⟨RX10, "drink", "(III)I"⟩
abbrev cX10_feed : ByteArray := prog_1_method_15_code
def yX10_feed : MethodName := ⟨RX10, "feed", "(JI)I"⟩
abbrev cX10_text : ByteArray := prog_1_method_16_code
def yX10_text : MethodName := ⟨RX10, "text", "(I)I"⟩
abbrev cX10_law : ByteArray := prog_1_method_17_code
def yX10_law : MethodName := ⟨RX10, "law", "(IIII)I"⟩
abbrev cX10_hours : ByteArray := prog_1_method_18_code
def yX10_hours : MethodName := ⟨RX10, "hours", "(I)I"⟩
abbrev cX10_loose : ByteArray := prog_1_method_19_code
def yX10_loose : MethodName := ⟨RX10, "loose", "(I)I"⟩
abbrev cX10_then : ByteArray := prog_1_method_20_code
def yX10_then : MethodName := ⟨RX10, "then", "(II)I"⟩
abbrev cX10_learns : ByteArray := prog_1_method_21_code
def yX10_learns : MethodName := ⟨RX10, "learns", "(II)I"⟩
abbrev cX10_calls : ByteArray := prog_1_method_22_code
def yX10_calls : MethodName := ⟨RX10, "calls", "(IIII)I"⟩
abbrev cX10_stops : ByteArray := prog_1_method_23_code
def yX10_stops : MethodName := ⟨RX10, "stops", "(III)I"⟩
abbrev cX10_who : ByteArray := prog_1_method_24_code
def yX10_who : MethodName := ⟨RX10, "who", "(II)I"⟩
abbrev cX10_loud : ByteArray := prog_1_method_25_code
def yX10_loud : MethodName := ⟨RX10, "loud", "(IIII)I"⟩
abbrev cX10_alike : ByteArray := prog_1_method_26_code
def yX10_alike : MethodName := ⟨RX10, "alike", "(I)I"⟩
abbrev cX10_furthest : ByteArray := prog_1_method_27_code
def yX10_furthest : MethodName := ⟨RX10, "furthest", "(II)I"⟩
abbrev cX10_odds : ByteArray := prog_1_method_28_code
def yX10_odds : MethodName := ⟨RX10, "odds", "(IIII)I"⟩
abbrev cX10_seed : ByteArray := prog_1_method_29_code
def yX10_seed : MethodName := ⟨RX10, "seed", "(I)I"⟩
abbrev cX10_voice : ByteArray := prog_1_method_30_code
def yX10_voice : MethodName := ⟨RX10, "voice", "(III)I"⟩
abbrev cX10_trace : ByteArray := prog_1_method_31_code
def yX10_trace : MethodName := ⟨RX10, "trace", "(I)I"⟩
abbrev cX10_sheet : ByteArray := prog_1_method_32_code
def yX10_sheet : MethodName := ⟨RX10, "sheet", "(III)I"⟩
abbrev cX10_put : ByteArray := prog_1_method_33_code
def yX10_put : MethodName := ⟨RX10, "put", "(III)I"⟩
abbrev cX10_move : ByteArray := prog_1_method_34_code
def yX10_move : MethodName := ⟨RX10, "move", "(IIIII)I"⟩
abbrev cX10_palates : ByteArray := prog_1_method_35_code
def yX10_palates : MethodName := ⟨RX10, "palates", "(I)I"⟩
abbrev cX10_judge : ByteArray := prog_1_method_36_code
def yX10_judge : MethodName := ⟨RX10, "judge", "(I)I"⟩
abbrev cX10_image : ByteArray := prog_1_method_37_code
def yX10_image : MethodName := ⟨RX10, "image", "()I"⟩
abbrev cX10_restore : ByteArray := prog_1_method_38_code
def yX10_restore : MethodName := ⟨RX10, "restore", "()I"⟩
abbrev cX10_tell : ByteArray := prog_1_method_39_code
def yX10_tell : MethodName := ⟨RX10, "tell", "(I)I"⟩
abbrev cX10_check : ByteArray := prog_1_method_40_code
def yX10_check : MethodName := ⟨RX10, "check", "()I"⟩
abbrev cX10_count : ByteArray := prog_1_method_41_code
def yX10_count : MethodName := ⟨RX10, "count", "(I)I"⟩
abbrev cX10_told : ByteArray := prog_1_method_42_code
def yX10_told : MethodName := ⟨RX10, "told", "(I)I"⟩
abbrev cX10_error : ByteArray := prog_1_method_43_code
def yX10_error : MethodName := ⟨RX10, "error", "(I)I"⟩
abbrev cX10_sheetAt : ByteArray := prog_1_method_44_code
def yX10_sheetAt : MethodName := ⟨RX10, "sheetAt", "(I)LWellTold$Sheet;"⟩
abbrev cX10_mayBeOfOne : ByteArray := prog_1_method_45_code
def yX10_mayBeOfOne : MethodName := ⟨RX10, "mayBeOfOne", "(II)Z"⟩
abbrev cX10_hinders : ByteArray := prog_1_method_46_code
def yX10_hinders : MethodName := ⟨RX10, "hinders", "(IIII)Z"⟩
abbrev cX10_within : ByteArray := prog_1_method_47_code
def yX10_within : MethodName := ⟨RX10, "within", "(III)Z"⟩
abbrev cX10_isKindAndDigit : ByteArray := prog_1_method_48_code
def yX10_isKindAndDigit : MethodName := ⟨RX10, "isKindAndDigit", "(I)Z"⟩
abbrev cX10_isSetOf : ByteArray := prog_1_method_49_code
def yX10_isSetOf : MethodName := ⟨RX10, "isSetOf", "(II)Z"⟩
abbrev cX10_inSet : ByteArray := prog_1_method_50_code
def yX10_inSet : MethodName := ⟨RX10, "inSet", "(II)I"⟩
abbrev cX10_withMember : ByteArray := prog_1_method_51_code
def yX10_withMember : MethodName := ⟨RX10, "withMember", "(IIZ)I"⟩
abbrev cX10_commonDivisor : ByteArray := prog_1_method_52_code
def yX10_commonDivisor : MethodName := ⟨RX10, "commonDivisor", "(II)I"⟩
def RX11 : String := "WellToldModel"
def TX11 : u_T := fun k => match k with
  | 0 => ("WellToldModel", "now", "[I", true)
  | 1 => ("WellToldModel", "kept", "[I", true)
  | 2 => ("WellToldModel", "aside", "[I", true)
  | 3 => ("WellToldModel", "images", "I", false)
  | 4 => ("WellToldModel", "errors", "[I", true)
  | 5 => ("WellToldModel", "NAMED", "[Ljava/lang/String;", true)
  | 6 => ("WellToldModel", "at", "I", false)
  | 7 => ("WellToldModel", "open", "I", false)
  | 8 => ("WellToldModel", "use", "I", false)
  | 9 => ("WellToldModel", "isWrong", "Z", false)
  | 10 => ("WellToldModel", "code", "[I", true)
  | 11 => ("WellToldModel", "coded", "I", false)
  | 12 => ("WellToldModel", "named", "[I", true)
  | 13 => ("WellToldModel", "pile", "[I", true)
  | 14 => ("WellToldModel", "trace", "[I", true)
  | 15 => ("WellToldModel", "traced", "I", false)
  | 16 => ("WellToldModel", "kind", "I", false)
  | 17 => ("WellToldModel", "number", "I", false)
  | 18 => ("WellToldModel", "told", "I", false)
  | 19 => ("WellToldModel", "widths", "[I", true)
  | 20 => ("WellToldModel", "sizes", "[I", true)
  | 21 => ("WellToldModel", "numbers", "[I", true)
  | _ => ("WellToldModel", "carried", "[I", true)
def tyX11 : Nat → FieldType := fun k => match k with
  | 0 => .array .int
  | 1 => .array .int
  | 2 => .array .int
  | 3 => .int
  | 4 => .array .int
  | 5 => .array (.object "java/lang/String")
  | 6 => .int
  | 7 => .int
  | 8 => .int
  | 9 => .boolean
  | 10 => .array .int
  | 11 => .int
  | 12 => .array .int
  | 13 => .array .int
  | 14 => .array .int
  | 15 => .int
  | 16 => .int
  | 17 => .int
  | 18 => .int
  | 19 => .array .int
  | 20 => .array .int
  | 21 => .array .int
  | _ => .array .int
abbrev wsX110 : List Cond := u_ws RX11 TX11 23
theorem nmX11 : ∀ a, a < 23 → ∀ b, b < 23 → a ≠ b → (TX11 a).2.1 ≠ (TX11 b).2.1 := by decide +kernel
theorem tyX11_ok : ∀ k, k < 23 → parseFieldDescriptor (TX11 k).2.2.1 = some (tyX11 k) := by decide +kernel
abbrev cX11_init : ByteArray := prog_13_method_1_code
def yX11_init : MethodName := ⟨RX11, "<init>", "()V"⟩
abbrev cX11_finding : ByteArray := prog_13_method_2_code
def yX11_finding : MethodName := ⟨RX11, "finding", "(I)I"⟩
abbrev cX11_within : ByteArray := prog_13_method_3_code
def yX11_within : MethodName := ⟨RX11, "within", "(III)Z"⟩
abbrev cX11_held : ByteArray := prog_13_method_4_code
def yX11_held : MethodName := ⟨RX11, "held", "(III)I"⟩
abbrev cX11_copy : ByteArray := prog_13_method_5_code
def yX11_copy : MethodName := ⟨RX11, "copy", "([I[I)V"⟩
abbrev cX11_turn : ByteArray := prog_13_method_6_code
def yX11_turn : MethodName := ⟨RX11, "turn", "(II)I"⟩
abbrev cX11_putBack : ByteArray := prog_13_method_7_code
def yX11_putBack : MethodName := ⟨RX11, "putBack", "(I)I"⟩
abbrev cX11_feed : ByteArray := prog_13_method_8_code
def yX11_feed : MethodName := ⟨RX11, "feed", "(JI)I"⟩
abbrev cX11_here : ByteArray := prog_13_method_9_code
def yX11_here : MethodName := ⟨RX11, "here", "()I"⟩
abbrev cX11_takes : ByteArray := prog_13_method_10_code
def yX11_takes : MethodName := ⟨RX11, "takes", "(I)Z"⟩
abbrev cX11_codes : ByteArray := prog_13_method_11_code
def yX11_codes : MethodName := ⟨RX11, "codes", "(I)V"⟩
abbrev cX11_either : ByteArray := prog_13_method_12_code
def yX11_either : MethodName := ⟨RX11, "either", "()V"⟩
abbrev cX11_both : ByteArray := prog_13_method_13_code
def yX11_both : MethodName := ⟨RX11, "both", "()V"⟩
abbrev cX11_compared : ByteArray := prog_13_method_14_code
def yX11_compared : MethodName := ⟨RX11, "compared", "()V"⟩
abbrev cX11_sum : ByteArray := prog_13_method_15_code
def yX11_sum : MethodName := ⟨RX11, "sum", "()V"⟩
abbrev cX11_product : ByteArray := prog_13_method_16_code
def yX11_product : MethodName := ⟨RX11, "product", "()V"⟩
abbrev cX11_nameOf : ByteArray := prog_13_method_17_code
def yX11_nameOf : MethodName := ⟨RX11, "nameOf", "(I)I"⟩
abbrev cX11_one : ByteArray := prog_13_method_18_code
def yX11_one : MethodName := ⟨RX11, "one", "()V"⟩
abbrev cX11_text : ByteArray := prog_13_method_19_code
def yX11_text : MethodName := ⟨RX11, "text", "(I)I"⟩
abbrev cX11_done : ByteArray := prog_13_method_20_code
def yX11_done : MethodName := ⟨RX11, "done", "(III)I"⟩
abbrev cX11_worked : ByteArray := prog_13_method_21_code
def yX11_worked : MethodName := ⟨RX11, "worked", "(I)I"⟩
abbrev cX11_hasText : ByteArray := prog_13_method_22_code
def yX11_hasText : MethodName := ⟨RX11, "hasText", "(I)Z"⟩
abbrev cX11_given : ByteArray := prog_13_method_23_code
def yX11_given : MethodName := ⟨RX11, "given", "(IIII)I"⟩
abbrev cX11_law : ByteArray := prog_13_method_24_code
def yX11_law : MethodName := ⟨RX11, "law", "(IIII)I"⟩
abbrev cX11_hasBit : ByteArray := prog_13_method_25_code
def yX11_hasBit : MethodName := ⟨RX11, "hasBit", "(II)Z"⟩
abbrev cX11_bits : ByteArray := prog_13_method_26_code
def yX11_bits : MethodName := ⟨RX11, "bits", "(I)I"⟩
abbrev cX11_isWell : ByteArray := prog_13_method_27_code
def yX11_isWell : MethodName := ⟨RX11, "isWell", "(I)Z"⟩
abbrev cX11_isWay : ByteArray := prog_13_method_28_code
def yX11_isWay : MethodName := ⟨RX11, "isWay", "(I)Z"⟩
abbrev cX11_isSaying : ByteArray := prog_13_method_29_code
def yX11_isSaying : MethodName := ⟨RX11, "isSaying", "(I)Z"⟩
abbrev cX11_isOne : ByteArray := prog_13_method_30_code
def yX11_isOne : MethodName := ⟨RX11, "isOne", "(I)Z"⟩
abbrev cX11_isStrength : ByteArray := prog_13_method_31_code
def yX11_isStrength : MethodName := ⟨RX11, "isStrength", "(I)Z"⟩
abbrev cX11_wayAt : ByteArray := prog_13_method_32_code
def yX11_wayAt : MethodName := ⟨RX11, "wayAt", "(II)I"⟩
abbrev cX11_wayIs : ByteArray := prog_13_method_33_code
def yX11_wayIs : MethodName := ⟨RX11, "wayIs", "(II)I"⟩
abbrev cX11_sayingAt : ByteArray := prog_13_method_34_code
def yX11_sayingAt : MethodName := ⟨RX11, "sayingAt", "(II)I"⟩
abbrev cX11_sayingIs : ByteArray := prog_13_method_35_code
def yX11_sayingIs : MethodName := ⟨RX11, "sayingIs", "(II)I"⟩
abbrev cX11_folkAt : ByteArray := prog_13_method_36_code
def yX11_folkAt : MethodName := ⟨RX11, "folkAt", "(II)I"⟩
abbrev cX11_folkIs : ByteArray := prog_13_method_37_code
def yX11_folkIs : MethodName := ⟨RX11, "folkIs", "(II)I"⟩
abbrev cX11_wells : ByteArray := prog_13_method_38_code
def yX11_wells : MethodName := ⟨RX11, "wells", "(I)I"⟩
abbrev cX11_wayComes : ByteArray := prog_13_method_39_code
def yX11_wayComes : MethodName := ⟨RX11, "wayComes", "(III)I"⟩
abbrev cX11_way : ByteArray := prog_13_method_40_code
def yX11_way : MethodName := ⟨RX11, "way", "(III)I"⟩
abbrev cX11_ofWay : ByteArray := prog_13_method_41_code
def yX11_ofWay : MethodName := ⟨RX11, "ofWay", "(II)I"⟩
abbrev cX11_stop : ByteArray := prog_13_method_42_code
def yX11_stop : MethodName := ⟨RX11, "stop", "(II)I"⟩
abbrev cX11_rain : ByteArray := prog_13_method_43_code
def yX11_rain : MethodName := ⟨RX11, "rain", "(I)I"⟩
abbrev cX11_isKindM : ByteArray := prog_13_method_44_code
def yX11_isKindM : MethodName := ⟨RX11, "isKindM", "(I)Z"⟩
abbrev cX11_sayingComes : ByteArray := prog_13_method_45_code
def yX11_sayingComes : MethodName := ⟨RX11, "sayingComes", "(III)I"⟩
abbrev cX11_call : ByteArray := prog_13_method_46_code
def yX11_call : MethodName := ⟨RX11, "call", "(III)I"⟩
abbrev cX11_above : ByteArray := prog_13_method_47_code
def yX11_above : MethodName := ⟨RX11, "above", "(I)I"⟩
abbrev cX11_isUnder : ByteArray := prog_13_method_48_code
def yX11_isUnder : MethodName := ⟨RX11, "isUnder", "(II)Z"⟩
abbrev cX11_weakens : ByteArray := prog_13_method_49_code
def yX11_weakens : MethodName := ⟨RX11, "weakens", "(I)I"⟩
abbrev cX11_knowers : ByteArray := prog_13_method_50_code
def yX11_knowers : MethodName := ⟨RX11, "knowers", "(I)I"⟩
abbrev cX11_drinkers : ByteArray := prog_13_method_51_code
def yX11_drinkers : MethodName := ⟨RX11, "drinkers", "(I)I"⟩
abbrev cX11_isOpen : ByteArray := prog_13_method_52_code
def yX11_isOpen : MethodName := ⟨RX11, "isOpen", "(II)Z"⟩
abbrev cX11_goesOn : ByteArray := prog_13_method_53_code
def yX11_goesOn : MethodName := ⟨RX11, "goesOn", "(I)I"⟩
abbrev cX11_ofSaying : ByteArray := prog_13_method_54_code
def yX11_ofSaying : MethodName := ⟨RX11, "ofSaying", "(II)I"⟩
abbrev cX11_change : ByteArray := prog_13_method_55_code
def yX11_change : MethodName := ⟨RX11, "change", "(III)I"⟩
abbrev cX11_become : ByteArray := prog_13_method_56_code
def yX11_become : MethodName := ⟨RX11, "become", "(II)I"⟩
abbrev cX11_as : ByteArray := prog_13_method_57_code
def yX11_as : MethodName := ⟨RX11, "as", "(II)I"⟩
abbrev cX11_folkComes : ByteArray := prog_13_method_58_code
def yX11_folkComes : MethodName := ⟨RX11, "folkComes", "(II)I"⟩
abbrev cX11_folk : ByteArray := prog_13_method_59_code
def yX11_folk : MethodName := ⟨RX11, "folk", "(II)I"⟩
abbrev cX11_ofFolk : ByteArray := prog_13_method_60_code
def yX11_ofFolk : MethodName := ⟨RX11, "ofFolk", "(II)I"⟩
abbrev cX11_drink : ByteArray := prog_13_method_61_code
def yX11_drink : MethodName := ⟨RX11, "drink", "(III)I"⟩
abbrev cX11_goes : ByteArray := prog_13_method_62_code
def yX11_goes : MethodName := ⟨RX11, "goes", "(I)V"⟩
abbrev cX11_tastes : ByteArray := prog_13_method_63_code
def yX11_tastes : MethodName := ⟨RX11, "tastes", "(II)Z"⟩
abbrev cX11_hour : ByteArray := prog_13_method_64_code
def yX11_hour : MethodName := ⟨RX11, "hour", "()V"⟩
abbrev cX11_hoursGo : ByteArray := prog_13_method_65_code
def yX11_hoursGo : MethodName := ⟨RX11, "hoursGo", "(I)V"⟩
abbrev cX11_knowing : ByteArray := prog_13_method_66_code
def yX11_knowing : MethodName := ⟨RX11, "knowing", "()I"⟩
abbrev cX11_hours : ByteArray := prog_13_method_67_code
def yX11_hours : MethodName := ⟨RX11, "hours", "(I)I"⟩
abbrev cX11_drawn : ByteArray := prog_13_method_68_code
def yX11_drawn : MethodName := ⟨RX11, "drawn", "()I"⟩
abbrev cX11_loose : ByteArray := prog_13_method_69_code
def yX11_loose : MethodName := ⟨RX11, "loose", "(I)I"⟩
abbrev cX11_isBehind : ByteArray := prog_13_method_70_code
def yX11_isBehind : MethodName := ⟨RX11, "isBehind", "(I)Z"⟩
abbrev cX11_then : ByteArray := prog_13_method_71_code
def yX11_then : MethodName := ⟨RX11, "then", "(II)I"⟩
abbrev cX11_knows : ByteArray := prog_13_method_72_code
def yX11_knows : MethodName := ⟨RX11, "knows", "(II)Z"⟩
abbrev cX11_learns : ByteArray := prog_13_method_73_code
def yX11_learns : MethodName := ⟨RX11, "learns", "(II)I"⟩
abbrev cX11_knowersBehind : ByteArray := prog_13_method_74_code
def yX11_knowersBehind : MethodName := ⟨RX11, "knowersBehind", "(II)I"⟩
abbrev cX11_isSet : ByteArray := prog_13_method_75_code
def yX11_isSet : MethodName := ⟨RX11, "isSet", "(I)Z"⟩
abbrev cX11_calls : ByteArray := prog_13_method_76_code
def yX11_calls : MethodName := ⟨RX11, "calls", "(IIII)I"⟩
abbrev cX11_isMoreStopped : ByteArray := prog_13_method_77_code
def yX11_isMoreStopped : MethodName := ⟨RX11, "isMoreStopped", "(I)Z"⟩
abbrev cX11_knowsIfStopped : ByteArray := prog_13_method_78_code
def yX11_knowsIfStopped : MethodName := ⟨RX11, "knowsIfStopped", "(IIII)Z"⟩
abbrev cX11_stops : ByteArray := prog_13_method_79_code
def yX11_stops : MethodName := ⟨RX11, "stops", "(III)I"⟩
abbrev cX11_tellsNobody : ByteArray := prog_13_method_80_code
def yX11_tellsNobody : MethodName := ⟨RX11, "tellsNobody", "(I)Z"⟩
abbrev cX11_isTold : ByteArray := prog_13_method_81_code
def yX11_isTold : MethodName := ⟨RX11, "isTold", "(II)Z"⟩
abbrev cX11_who : ByteArray := prog_13_method_82_code
def yX11_who : MethodName := ⟨RX11, "who", "(II)I"⟩
abbrev cX11_loud : ByteArray := prog_13_method_83_code
def yX11_loud : MethodName := ⟨RX11, "loud", "(IIII)I"⟩
abbrev cX11_alikeNow : ByteArray := prog_13_method_84_code
def yX11_alikeNow : MethodName := ⟨RX11, "alikeNow", "()I"⟩
abbrev cX11_alike : ByteArray := prog_13_method_85_code
def yX11_alike : MethodName := ⟨RX11, "alike", "(I)I"⟩
abbrev cX11_furthest : ByteArray := prog_13_method_86_code
def yX11_furthest : MethodName := ⟨RX11, "furthest", "(II)I"⟩
abbrev cX11_odds : ByteArray := prog_13_method_87_code
def yX11_odds : MethodName := ⟨RX11, "odds", "(IIII)I"⟩
abbrev cX11_seed : ByteArray := prog_13_method_88_code
def yX11_seed : MethodName := ⟨RX11, "seed", "(I)I"⟩
abbrev cX11_ran : ByteArray := prog_13_method_89_code
def yX11_ran : MethodName := ⟨RX11, "ran", "(I)V"⟩
abbrev cX11_callsOf : ByteArray := prog_13_method_90_code
def yX11_callsOf : MethodName := ⟨RX11, "callsOf", "(I)I"⟩
abbrev cX11_echoesOf : ByteArray := prog_13_method_91_code
def yX11_echoesOf : MethodName := ⟨RX11, "echoesOf", "(I)I"⟩
abbrev cX11_clearsOf : ByteArray := prog_13_method_92_code
def yX11_clearsOf : MethodName := ⟨RX11, "clearsOf", "(I)I"⟩
abbrev cX11_plainTastes : ByteArray := prog_13_method_93_code
def yX11_plainTastes : MethodName := ⟨RX11, "plainTastes", "(I)I"⟩
abbrev cX11_tastesOf : ByteArray := prog_13_method_94_code
def yX11_tastesOf : MethodName := ⟨RX11, "tastesOf", "(I)I"⟩
abbrev cX11_voice : ByteArray := prog_13_method_95_code
def yX11_voice : MethodName := ⟨RX11, "voice", "(III)I"⟩
abbrev cX11_trace : ByteArray := prog_13_method_96_code
def yX11_trace : MethodName := ⟨RX11, "trace", "(I)I"⟩
abbrev cX11_isSheet : ByteArray := prog_13_method_97_code
def yX11_isSheet : MethodName := ⟨RX11, "isSheet", "(I)Z"⟩
abbrev cX11_sheet : ByteArray := prog_13_method_98_code
def yX11_sheet : MethodName := ⟨RX11, "sheet", "(III)I"⟩
abbrev cX11_put : ByteArray := prog_13_method_99_code
def yX11_put : MethodName := ⟨RX11, "put", "(III)I"⟩
abbrev cX11_move : ByteArray := prog_13_method_100_code
def yX11_move : MethodName := ⟨RX11, "move", "(IIIII)I"⟩
abbrev cX11_palates : ByteArray := prog_13_method_101_code
def yX11_palates : MethodName := ⟨RX11, "palates", "(I)I"⟩
abbrev cX11_judge : ByteArray := prog_13_method_102_code
def yX11_judge : MethodName := ⟨RX11, "judge", "(I)I"⟩
abbrev cX11_image : ByteArray := prog_13_method_103_code
def yX11_image : MethodName := ⟨RX11, "image", "()I"⟩
abbrev cX11_restore : ByteArray := prog_13_method_104_code
def yX11_restore : MethodName := ⟨RX11, "restore", "()I"⟩
abbrev cX11_tell : ByteArray := prog_13_method_105_code
def yX11_tell : MethodName := ⟨RX11, "tell", "(I)I"⟩
abbrev cX11_strengths : ByteArray := prog_13_method_106_code
def yX11_strengths : MethodName := ⟨RX11, "strengths", "()I"⟩
abbrev cX11_check : ByteArray := prog_13_method_107_code
def yX11_check : MethodName := ⟨RX11, "check", "()I"⟩
abbrev cX11_stopped : ByteArray := prog_13_method_108_code
def yX11_stopped : MethodName := ⟨RX11, "stopped", "()I"⟩
abbrev cX11_count : ByteArray := prog_13_method_109_code
def yX11_count : MethodName := ⟨RX11, "count", "(I)I"⟩
abbrev cX11_told : ByteArray := prog_13_method_110_code
def yX11_told : MethodName := ⟨RX11, "told", "(I)I"⟩
def RJ11 : String := "java/lang/Character"
def TJ11 : u_T := fun k => match k with
  | _ => ("", "", "", false)
def tyJ11 : Nat → FieldType := fun k => match k with
  | _ => .int
abbrev wsJ110 : List Cond := u_ws RJ11 TJ11 0
theorem nmJ11 : ∀ a, a < 0 → ∀ b, b < 0 → a ≠ b → (TJ11 a).2.1 ≠ (TJ11 b).2.1 := by decide +kernel
theorem tyJ11_ok : ∀ k, k < 0 → parseFieldDescriptor (TJ11 k).2.2.1 = some (tyJ11 k) := by decide +kernel
abbrev cJ11_isValidCodePoint_9a6ad : ByteArray := prog_14_method_11_code
def yJ11_isValidCodePoint_9a6ad : MethodName := ⟨RJ11, "isValidCodePoint", "(I)Z"⟩
abbrev cJ11_highSurrogate_5068e : ByteArray := prog_14_method_28_code
def yJ11_highSurrogate_5068e : MethodName := ⟨RJ11, "highSurrogate", "(I)C"⟩
abbrev cJ11_lowSurrogate_5068e : ByteArray := prog_14_method_29_code
def yJ11_lowSurrogate_5068e : MethodName := ⟨RJ11, "lowSurrogate", "(I)C"⟩
def RJ6 : String := "java/lang/Integer"
def TJ6 : u_T := fun k => match k with
  | _ => ("", "", "", false)
def tyJ6 : Nat → FieldType := fun k => match k with
  | _ => .int
abbrev wsJ60 : List Cond := u_ws RJ6 TJ6 0
theorem nmJ6 : ∀ a, a < 0 → ∀ b, b < 0 → a ≠ b → (TJ6 a).2.1 ≠ (TJ6 b).2.1 := by decide +kernel
theorem tyJ6_ok : ∀ k, k < 0 → parseFieldDescriptor (TJ6 k).2.2.1 = some (tyJ6 k) := by decide +kernel
abbrev cJ6_bitCount_0f7a4 : ByteArray := prog_15_method_49_code
def yJ6_bitCount_0f7a4 : MethodName := ⟨RJ6, "bitCount", "(I)I"⟩
def RJ9 : String := "java/lang/Math"
def TJ9 : u_T := fun k => match k with
  | _ => ("", "", "", false)
def tyJ9 : Nat → FieldType := fun k => match k with
  | _ => .int
abbrev wsJ90 : List Cond := u_ws RJ9 TJ9 0
theorem nmJ9 : ∀ a, a < 0 → ∀ b, b < 0 → a ≠ b → (TJ9 a).2.1 ≠ (TJ9 b).2.1 := by decide +kernel
theorem tyJ9_ok : ∀ k, k < 0 → parseFieldDescriptor (TJ9 k).2.2.1 = some (tyJ9 k) := by decide +kernel
abbrev cJ9_max_7cf53 : ByteArray := prog_16_method_65_code
def yJ9_max_7cf53 : MethodName := ⟨RJ9, "max", "(II)I"⟩
abbrev cJ9_min_7cf53 : ByteArray := prog_16_method_69_code
def yJ9_min_7cf53 : MethodName := ⟨RJ9, "min", "(II)I"⟩
def RJ0 : String := "java/lang/String"
def TJ0 : u_T := fun k => match k with
  | _ => ("", "", "", false)
def tyJ0 : Nat → FieldType := fun k => match k with
  | _ => .int
abbrev wsJ00 : List Cond := u_ws RJ0 TJ0 0
theorem nmJ0 : ∀ a, a < 0 → ∀ b, b < 0 → a ≠ b → (TJ0 a).2.1 ≠ (TJ0 b).2.1 := by decide +kernel
theorem tyJ0_ok : ∀ k, k < 0 → parseFieldDescriptor (TJ0 k).2.2.1 = some (tyJ0 k) := by decide +kernel
abbrev cJ0_length_8abf5 : ByteArray := prog_17_method_54_code
def yJ0_length_8abf5 : MethodName := ⟨RJ0, "length", "()I"⟩
abbrev cJ0_charAt_5068e : ByteArray := prog_17_method_56_code
def yJ0_charAt_5068e : MethodName := ⟨RJ0, "charAt", "(I)C"⟩
abbrev cJ0_indexOf_0f7a4 : ByteArray := prog_17_method_79_code
def yJ0_indexOf_0f7a4 : MethodName := ⟨RJ0, "indexOf", "(I)I"⟩
abbrev cJ0_indexOf_7cf53 : ByteArray := prog_17_method_80_code
def yJ0_indexOf_7cf53 : MethodName := ⟨RJ0, "indexOf", "(II)I"⟩
abbrev cJ0_coder_7d493 : ByteArray := prog_17_method_152_code
def yJ0_coder_7d493 : MethodName := ⟨RJ0, "coder", "()B"⟩
abbrev cJ0_isLatin1_aae02 : ByteArray := prog_17_method_154_code
def yJ0_isLatin1_aae02 : MethodName := ⟨RJ0, "isLatin1", "()Z"⟩
abbrev cJ0_checkIndex_df160 : ByteArray := prog_17_method_155_code
def yJ0_checkIndex_df160 : MethodName := ⟨RJ0, "checkIndex", "(II)V"⟩
abbrev cJ0_checkBoundsBeginEnd_23922 : ByteArray := prog_17_method_158_code
def yJ0_checkBoundsBeginEnd_23922 : MethodName := ⟨RJ0, "checkBoundsBeginEnd", "(III)V"⟩
def RJ1 : String := "java/lang/StringLatin1"
def TJ1 : u_T := fun k => match k with
  | _ => ("", "", "", false)
def tyJ1 : Nat → FieldType := fun k => match k with
  | _ => .int
abbrev wsJ10 : List Cond := u_ws RJ1 TJ1 0
theorem nmJ1 : ∀ a, a < 0 → ∀ b, b < 0 → a ≠ b → (TJ1 a).2.1 ≠ (TJ1 b).2.1 := by decide +kernel
theorem tyJ1_ok : ∀ k, k < 0 → parseFieldDescriptor (TJ1 k).2.2.1 = some (tyJ1 k) := by decide +kernel
abbrev cJ1_charAt_3b067 : ByteArray := prog_18_method_2_code
def yJ1_charAt_3b067 : MethodName := ⟨RJ1, "charAt", "([BI)C"⟩
abbrev cJ1_canEncode_9a6ad : ByteArray := prog_18_method_4_code
def yJ1_canEncode_9a6ad : MethodName := ⟨RJ1, "canEncode", "(I)Z"⟩
abbrev cJ1_indexOf_4cfef : ByteArray := prog_18_method_22_code
def yJ1_indexOf_4cfef : MethodName := ⟨RJ1, "indexOf", "([BIII)I"⟩
abbrev cJ1_indexOfChar_4cfef : ByteArray := prog_18_method_23_code
def yJ1_indexOfChar_4cfef : MethodName := ⟨RJ1, "indexOfChar", "([BIII)I"⟩
def RJ2 : String := "java/lang/StringUTF16"
def TJ2 : u_T := fun k => match k with
  | _ => ("", "", "", false)
def tyJ2 : Nat → FieldType := fun k => match k with
  | _ => .int
abbrev wsJ20 : List Cond := u_ws RJ2 TJ2 0
theorem nmJ2 : ∀ a, a < 0 → ∀ b, b < 0 → a ≠ b → (TJ2 a).2.1 ≠ (TJ2 b).2.1 := by decide +kernel
theorem tyJ2_ok : ∀ k, k < 0 → parseFieldDescriptor (TJ2 k).2.2.1 = some (tyJ2 k) := by decide +kernel
abbrev cJ2_getChar_3b067 : ByteArray := prog_19_method_5_code
def yJ2_getChar_3b067 : MethodName := ⟨RJ2, "getChar", "([BI)C"⟩
abbrev cJ2_length_9d52b : ByteArray := prog_19_method_6_code
def yJ2_length_9d52b : MethodName := ⟨RJ2, "length", "([B)I"⟩
abbrev cJ2_indexOf_4cfef : ByteArray := prog_19_method_40_code
def yJ2_indexOf_4cfef : MethodName := ⟨RJ2, "indexOf", "([BIII)I"⟩
abbrev cJ2_indexOfChar_4cfef : ByteArray := prog_19_method_47_code
def yJ2_indexOfChar_4cfef : MethodName := ⟨RJ2, "indexOfChar", "([BIII)I"⟩
abbrev cJ2_indexOfCharUnsafe_4cfef : ByteArray := prog_19_method_48_code
def yJ2_indexOfCharUnsafe_4cfef : MethodName := ⟨RJ2, "indexOfCharUnsafe", "([BIII)I"⟩
abbrev cJ2_indexOfSupplementary_4cfef : ByteArray := prog_19_method_49_code
def yJ2_indexOfSupplementary_4cfef : MethodName := ⟨RJ2, "indexOfSupplementary", "([BIII)I"⟩
abbrev cJ2_charAt_3b067 : ByteArray := prog_19_method_83_code
def yJ2_charAt_3b067 : MethodName := ⟨RJ2, "charAt", "([BI)C"⟩
abbrev cJ2_checkIndex_2214a : ByteArray := prog_19_method_91_code
def yJ2_checkIndex_2214a : MethodName := ⟨RJ2, "checkIndex", "(I[B)V"⟩
abbrev cJ2_checkBoundsBeginEnd_d044e : ByteArray := prog_19_method_93_code
def yJ2_checkBoundsBeginEnd_d044e : MethodName := ⟨RJ2, "checkBoundsBeginEnd", "(II[B)V"⟩
def RJ3 : String := "jdk/internal/util/Preconditions"
def TJ3 : u_T := fun k => match k with
  | _ => ("", "", "", false)
def tyJ3 : Nat → FieldType := fun k => match k with
  | _ => .int
abbrev wsJ30 : List Cond := u_ws RJ3 TJ3 0
theorem nmJ3 : ∀ a, a < 0 → ∀ b, b < 0 → a ≠ b → (TJ3 a).2.1 ≠ (TJ3 b).2.1 := by decide +kernel
theorem tyJ3_ok : ∀ k, k < 0 → parseFieldDescriptor (TJ3 k).2.2.1 = some (tyJ3 k) := by decide +kernel
abbrev cJ3_checkIndex_8e157 : ByteArray := prog_20_method_11_code
def yJ3_checkIndex_8e157 : MethodName := ⟨RJ3, "checkIndex", "(IILjava/util/function/BiFunction;)I"⟩
abbrev cJ3_checkFromToIndex_8c36e : ByteArray := prog_20_method_12_code
def yJ3_checkFromToIndex_8c36e : MethodName := ⟨RJ3, "checkFromToIndex", "(IIILjava/util/function/BiFunction;)I"⟩
def RL : String := "WellToldLaw"
abbrev cL_law : ByteArray := code
def yL_law : MethodName := ⟨RL, "law", "([I)Z"⟩
abbrev vwCl : List vw_C := [(RX0, TX0, 2), (RX1, TX1, 4), (RX2, TX2, 2), (RX3, TX3, 6), (RX4, TX4, 6), (RX5, TX5, 2), (RX6, TX6, 3), (RX7, TX7, 14), (RX8, TX8, 4), (RX9, TX9, 4), (RX10, TX10, 8), (RX11, TX11, 23)]
end
section
theorem dX0_init_0 : decode cX0_init 0 = .ok (.aload_n 0, 1) := by decide +kernel
theorem dX0_init_1 : decode cX0_init 1 = .ok (.invokespecial 3, 3) := by decide +kernel
theorem dX0_init_4 : decode cX0_init 4 = .ok (.aload_n 0, 1) := by decide +kernel
theorem dX0_init_5 : decode cX0_init 5 = .ok (.new 9, 3) := by decide +kernel
theorem dX0_init_8 : decode cX0_init 8 = .ok (.dup, 1) := by decide +kernel
theorem dX0_init_9 : decode cX0_init 9 = .ok (.bipush 6, 2) := by decide +kernel
theorem dX0_init_11 : decode cX0_init 11 = .ok (.invokespecial 11, 3) := by decide +kernel
theorem dX0_init_14 : decode cX0_init 14 = .ok (.putfield 14, 3) := by decide +kernel
theorem dX0_init_17 : decode cX0_init 17 = .ok (.aload_n 0, 1) := by decide +kernel
theorem dX0_init_18 : decode cX0_init 18 = .ok (.new 9, 3) := by decide +kernel
theorem dX0_init_21 : decode cX0_init 21 = .ok (.dup, 1) := by decide +kernel
theorem dX0_init_22 : decode cX0_init 22 = .ok (.bipush 6, 2) := by decide +kernel
theorem dX0_init_24 : decode cX0_init 24 = .ok (.invokespecial 11, 3) := by decide +kernel
theorem dX0_init_27 : decode cX0_init 27 = .ok (.putfield 20, 3) := by decide +kernel
theorem dX0_init_30 : decode cX0_init 30 = .ok (.return_, 1) := by decide +kernel
theorem dX0_size_0 : decode cX0_size 0 = .ok (.aload_n 0, 1) := by decide +kernel
theorem dX0_size_1 : decode cX0_size 1 = .ok (.getfield 14, 3) := by decide +kernel
theorem dX0_size_4 : decode cX0_size 4 = .ok (.invokevirtual 23, 3) := by decide +kernel
theorem dX0_size_7 : decode cX0_size 7 = .ok (.ireturn, 1) := by decide +kernel
theorem dX0_has_0 : decode cX0_has 0 = .ok (.aload_n 0, 1) := by decide +kernel
theorem dX0_has_1 : decode cX0_has 1 = .ok (.getfield 14, 3) := by decide +kernel
theorem dX0_has_4 : decode cX0_has 4 = .ok (.iload_n 1, 1) := by decide +kernel
theorem dX0_has_5 : decode cX0_has 5 = .ok (.invokevirtual 27, 3) := by decide +kernel
theorem dX0_has_8 : decode cX0_has 8 = .ok (.ireturn, 1) := by decide +kernel
theorem dX0_add_0 : decode cX0_add 0 = .ok (.aload_n 0, 1) := by decide +kernel
theorem dX0_add_1 : decode cX0_add 1 = .ok (.getfield 14, 3) := by decide +kernel
theorem dX0_add_4 : decode cX0_add 4 = .ok (.iload_n 1, 1) := by decide +kernel
theorem dX0_add_5 : decode cX0_add 5 = .ok (.invokevirtual 31, 3) := by decide +kernel
theorem dX0_add_8 : decode cX0_add 8 = .ok (.aload_n 0, 1) := by decide +kernel
theorem dX0_add_9 : decode cX0_add 9 = .ok (.getfield 20, 3) := by decide +kernel
theorem dX0_add_12 : decode cX0_add 12 = .ok (.iload_n 2, 1) := by decide +kernel
theorem dX0_add_13 : decode cX0_add 13 = .ok (.invokevirtual 31, 3) := by decide +kernel
theorem dX0_add_16 : decode cX0_add 16 = .ok (.return_, 1) := by decide +kernel
theorem dX0_drinkersAt_0 : decode cX0_drinkersAt 0 = .ok (.iconst 0, 1) := by decide +kernel
theorem dX0_drinkersAt_1 : decode cX0_drinkersAt 1 = .ok (.istore_n 2, 1) := by decide +kernel
theorem dX0_drinkersAt_2 : decode cX0_drinkersAt 2 = .ok (.iconst 0, 1) := by decide +kernel
theorem dX0_drinkersAt_3 : decode cX0_drinkersAt 3 = .ok (.istore_n 3, 1) := by decide +kernel
theorem dX0_drinkersAt_4 : decode cX0_drinkersAt 4 = .ok (.iload_n 3, 1) := by decide +kernel
theorem dX0_drinkersAt_5 : decode cX0_drinkersAt 5 = .ok (.aload_n 0, 1) := by decide +kernel
theorem dX0_drinkersAt_6 : decode cX0_drinkersAt 6 = .ok (.getfield 14, 3) := by decide +kernel
theorem dX0_drinkersAt_9 : decode cX0_drinkersAt 9 = .ok (.invokevirtual 23, 3) := by decide +kernel
theorem dX0_drinkersAt_12 : decode cX0_drinkersAt 12 = .ok (.if_icmp .ge 32, 3) := by decide +kernel
theorem dX0_drinkersAt_15 : decode cX0_drinkersAt 15 = .ok (.iload_n 2, 1) := by decide +kernel
theorem dX0_drinkersAt_16 : decode cX0_drinkersAt 16 = .ok (.iload_n 3, 1) := by decide +kernel
theorem dX0_drinkersAt_17 : decode cX0_drinkersAt 17 = .ok (.aload_n 0, 1) := by decide +kernel
theorem dX0_drinkersAt_18 : decode cX0_drinkersAt 18 = .ok (.getfield 14, 3) := by decide +kernel
theorem dX0_drinkersAt_21 : decode cX0_drinkersAt 21 = .ok (.iload_n 3, 1) := by decide +kernel
theorem dX0_drinkersAt_22 : decode cX0_drinkersAt 22 = .ok (.invokevirtual 34, 3) := by decide +kernel
theorem dX0_drinkersAt_25 : decode cX0_drinkersAt 25 = .ok (.iload_n 1, 1) := by decide +kernel
theorem dX0_drinkersAt_26 : decode cX0_drinkersAt 26 = .ok (.if_icmp .ne 7, 3) := by decide +kernel
theorem dX0_drinkersAt_29 : decode cX0_drinkersAt 29 = .ok (.iconst 1, 1) := by decide +kernel
theorem dX0_drinkersAt_30 : decode cX0_drinkersAt 30 = .ok (.goto 4, 3) := by decide +kernel
theorem dX0_drinkersAt_33 : decode cX0_drinkersAt 33 = .ok (.iconst 0, 1) := by decide +kernel
theorem dX0_drinkersAt_34 : decode cX0_drinkersAt 34 = .ok (.invokestatic 38, 3) := by decide +kernel
theorem dX0_drinkersAt_37 : decode cX0_drinkersAt 37 = .ok (.istore_n 2, 1) := by decide +kernel
theorem dX0_drinkersAt_38 : decode cX0_drinkersAt 38 = .ok (.iinc 3 1, 3) := by decide +kernel
theorem dX0_drinkersAt_41 : decode cX0_drinkersAt 41 = .ok (.goto (-37), 3) := by decide +kernel
theorem dX0_drinkersAt_44 : decode cX0_drinkersAt 44 = .ok (.iload_n 2, 1) := by decide +kernel
theorem dX0_drinkersAt_45 : decode cX0_drinkersAt 45 = .ok (.ireturn, 1) := by decide +kernel
theorem dX0_copyFrom_0 : decode cX0_copyFrom 0 = .ok (.aload_n 0, 1) := by decide +kernel
theorem dX0_copyFrom_1 : decode cX0_copyFrom 1 = .ok (.getfield 14, 3) := by decide +kernel
theorem dX0_copyFrom_4 : decode cX0_copyFrom 4 = .ok (.aload_n 1, 1) := by decide +kernel
theorem dX0_copyFrom_5 : decode cX0_copyFrom 5 = .ok (.getfield 14, 3) := by decide +kernel
theorem dX0_copyFrom_8 : decode cX0_copyFrom 8 = .ok (.invokevirtual 42, 3) := by decide +kernel
theorem dX0_copyFrom_11 : decode cX0_copyFrom 11 = .ok (.aload_n 0, 1) := by decide +kernel
theorem dX0_copyFrom_12 : decode cX0_copyFrom 12 = .ok (.getfield 20, 3) := by decide +kernel
theorem dX0_copyFrom_15 : decode cX0_copyFrom 15 = .ok (.aload_n 1, 1) := by decide +kernel
theorem dX0_copyFrom_16 : decode cX0_copyFrom 16 = .ok (.getfield 20, 3) := by decide +kernel
theorem dX0_copyFrom_19 : decode cX0_copyFrom 19 = .ok (.invokevirtual 42, 3) := by decide +kernel
theorem dX0_copyFrom_22 : decode cX0_copyFrom 22 = .ok (.return_, 1) := by decide +kernel
theorem dX1_init_0 : decode cX1_init 0 = .ok (.aload_n 0, 1) := by decide +kernel
theorem dX1_init_1 : decode cX1_init 1 = .ok (.invokespecial 3, 3) := by decide +kernel
theorem dX1_init_4 : decode cX1_init 4 = .ok (.aload_n 0, 1) := by decide +kernel
theorem dX1_init_5 : decode cX1_init 5 = .ok (.new 9, 3) := by decide +kernel
theorem dX1_init_8 : decode cX1_init 8 = .ok (.dup, 1) := by decide +kernel
theorem dX1_init_9 : decode cX1_init 9 = .ok (.bipush 50, 2) := by decide +kernel
theorem dX1_init_11 : decode cX1_init 11 = .ok (.invokespecial 11, 3) := by decide +kernel
theorem dX1_init_14 : decode cX1_init 14 = .ok (.putfield 14, 3) := by decide +kernel
theorem dX1_init_17 : decode cX1_init 17 = .ok (.aload_n 0, 1) := by decide +kernel
theorem dX1_init_18 : decode cX1_init 18 = .ok (.new 9, 3) := by decide +kernel
theorem dX1_init_21 : decode cX1_init 21 = .ok (.dup, 1) := by decide +kernel
theorem dX1_init_22 : decode cX1_init 22 = .ok (.bipush 50, 2) := by decide +kernel
theorem dX1_init_24 : decode cX1_init 24 = .ok (.invokespecial 11, 3) := by decide +kernel
theorem dX1_init_27 : decode cX1_init 27 = .ok (.putfield 20, 3) := by decide +kernel
theorem dX1_init_30 : decode cX1_init 30 = .ok (.aload_n 0, 1) := by decide +kernel
theorem dX1_init_31 : decode cX1_init 31 = .ok (.ldc 23, 2) := by decide +kernel
theorem dX1_init_33 : decode cX1_init 33 = .ok (.putfield 25, 3) := by decide +kernel
theorem dX1_init_36 : decode cX1_init 36 = .ok (.aload_n 0, 1) := by decide +kernel
theorem dX1_init_37 : decode cX1_init 37 = .ok (.iconst 0, 1) := by decide +kernel
theorem dX1_init_38 : decode cX1_init 38 = .ok (.putfield 29, 3) := by decide +kernel
theorem dX1_init_41 : decode cX1_init 41 = .ok (.return_, 1) := by decide +kernel
theorem dX1_faultOf_0 : decode cX1_faultOf 0 = .ok (.aload_n 0, 1) := by decide +kernel
theorem dX1_faultOf_1 : decode cX1_faultOf 1 = .ok (.getfield 20, 3) := by decide +kernel
theorem dX1_faultOf_4 : decode cX1_faultOf 4 = .ok (.aload_n 1, 1) := by decide +kernel
theorem dX1_faultOf_5 : decode cX1_faultOf 5 = .ok (.invokevirtual 33, 3) := by decide +kernel
theorem dX1_faultOf_8 : decode cX1_faultOf 8 = .ok (.aload_n 0, 1) := by decide +kernel
theorem dX1_faultOf_9 : decode cX1_faultOf 9 = .ok (.aload_n 2, 1) := by decide +kernel
theorem dX1_faultOf_10 : decode cX1_faultOf 10 = .ok (.putfield 25, 3) := by decide +kernel
theorem dX1_faultOf_13 : decode cX1_faultOf 13 = .ok (.aload_n 0, 1) := by decide +kernel
theorem dX1_faultOf_14 : decode cX1_faultOf 14 = .ok (.iconst 0, 1) := by decide +kernel
theorem dX1_faultOf_15 : decode cX1_faultOf 15 = .ok (.putfield 29, 3) := by decide +kernel
theorem dX1_faultOf_18 : decode cX1_faultOf 18 = .ok (.aload_n 0, 1) := by decide +kernel
theorem dX1_faultOf_19 : decode cX1_faultOf 19 = .ok (.getfield 14, 3) := by decide +kernel
theorem dX1_faultOf_22 : decode cX1_faultOf 22 = .ok (.invokevirtual 37, 3) := by decide +kernel
theorem dX1_faultOf_25 : decode cX1_faultOf 25 = .ok (.aload_n 0, 1) := by decide +kernel
theorem dX1_faultOf_26 : decode cX1_faultOf 26 = .ok (.iconst 0, 1) := by decide +kernel
theorem dX1_faultOf_27 : decode cX1_faultOf 27 = .ok (.iconst 0, 1) := by decide +kernel
theorem dX1_faultOf_28 : decode cX1_faultOf 28 = .ok (.invokevirtual 40, 3) := by decide +kernel
theorem dX1_faultOf_31 : decode cX1_faultOf 31 = .ok (.ifCond .eq 21, 3) := by decide +kernel
theorem dX1_faultOf_34 : decode cX1_faultOf 34 = .ok (.aload_n 0, 1) := by decide +kernel
theorem dX1_faultOf_35 : decode cX1_faultOf 35 = .ok (.getfield 29, 3) := by decide +kernel
theorem dX1_faultOf_38 : decode cX1_faultOf 38 = .ok (.aload_n 0, 1) := by decide +kernel
theorem dX1_faultOf_39 : decode cX1_faultOf 39 = .ok (.getfield 20, 3) := by decide +kernel
theorem dX1_faultOf_42 : decode cX1_faultOf 42 = .ok (.invokevirtual 44, 3) := by decide +kernel
theorem dX1_faultOf_45 : decode cX1_faultOf 45 = .ok (.if_icmp .ne 7, 3) := by decide +kernel
theorem dX1_faultOf_48 : decode cX1_faultOf 48 = .ok (.iconst (-1), 1) := by decide +kernel
theorem dX1_faultOf_49 : decode cX1_faultOf 49 = .ok (.goto 7, 3) := by decide +kernel
theorem dX1_faultOf_52 : decode cX1_faultOf 52 = .ok (.aload_n 0, 1) := by decide +kernel
theorem dX1_faultOf_53 : decode cX1_faultOf 53 = .ok (.getfield 29, 3) := by decide +kernel
theorem dX1_faultOf_56 : decode cX1_faultOf 56 = .ok (.ireturn, 1) := by decide +kernel
theorem dX1_next_0 : decode cX1_next 0 = .ok (.aload_n 0, 1) := by decide +kernel
theorem dX1_next_1 : decode cX1_next 1 = .ok (.getfield 20, 3) := by decide +kernel
theorem dX1_next_4 : decode cX1_next 4 = .ok (.aload_n 0, 1) := by decide +kernel
theorem dX1_next_5 : decode cX1_next 5 = .ok (.getfield 29, 3) := by decide +kernel
theorem dX1_next_8 : decode cX1_next 8 = .ok (.invokevirtual 48, 3) := by decide +kernel
theorem dX1_next_11 : decode cX1_next 11 = .ok (.ifCond .eq 17, 3) := by decide +kernel
theorem dX1_next_14 : decode cX1_next 14 = .ok (.aload_n 0, 1) := by decide +kernel
theorem dX1_next_15 : decode cX1_next 15 = .ok (.getfield 20, 3) := by decide +kernel
theorem dX1_next_18 : decode cX1_next 18 = .ok (.aload_n 0, 1) := by decide +kernel
theorem dX1_next_19 : decode cX1_next 19 = .ok (.getfield 29, 3) := by decide +kernel
theorem dX1_next_22 : decode cX1_next 22 = .ok (.invokevirtual 52, 3) := by decide +kernel
theorem dX1_next_25 : decode cX1_next 25 = .ok (.goto 4, 3) := by decide +kernel
theorem dX1_next_28 : decode cX1_next 28 = .ok (.iconst (-1), 1) := by decide +kernel
theorem dX1_next_29 : decode cX1_next 29 = .ok (.ireturn, 1) := by decide +kernel
theorem dX1_isIn_0 : decode cX1_isIn 0 = .ok (.iload_n 1, 1) := by decide +kernel
theorem dX1_isIn_1 : decode cX1_isIn 1 = .ok (.ifCond .lt 16, 3) := by decide +kernel
theorem dX1_isIn_4 : decode cX1_isIn 4 = .ok (.aload_n 0, 1) := by decide +kernel
theorem dX1_isIn_5 : decode cX1_isIn 5 = .ok (.iload_n 1, 1) := by decide +kernel
theorem dX1_isIn_6 : decode cX1_isIn 6 = .ok (.i2c, 1) := by decide +kernel
theorem dX1_isIn_7 : decode cX1_isIn 7 = .ok (.invokevirtual 56, 3) := by decide +kernel
theorem dX1_isIn_10 : decode cX1_isIn 10 = .ok (.ifCond .lt 7, 3) := by decide +kernel
theorem dX1_isIn_13 : decode cX1_isIn 13 = .ok (.iconst 1, 1) := by decide +kernel
theorem dX1_isIn_14 : decode cX1_isIn 14 = .ok (.goto 4, 3) := by decide +kernel
theorem dX1_isIn_17 : decode cX1_isIn 17 = .ok (.iconst 0, 1) := by decide +kernel
theorem dX1_isIn_18 : decode cX1_isIn 18 = .ok (.ireturn, 1) := by decide +kernel
theorem dX1_signsOf_0 : decode cX1_signsOf 0 = .ok (.iload_n 0, 1) := by decide +kernel
theorem dX1_signsOf_1 : decode cX1_signsOf 1 = .ok (.tableswitch 43 0 3 #[31, 34, 37, 40], 31) := by decide +kernel
theorem dX1_signsOf_32 : decode cX1_signsOf 32 = .ok (.ldc 61, 2) := by decide +kernel
theorem dX1_signsOf_34 : decode cX1_signsOf 34 = .ok (.areturn, 1) := by decide +kernel
theorem dX1_signsOf_35 : decode cX1_signsOf 35 = .ok (.ldc 63, 2) := by decide +kernel
theorem dX1_signsOf_37 : decode cX1_signsOf 37 = .ok (.areturn, 1) := by decide +kernel
theorem dX1_signsOf_38 : decode cX1_signsOf 38 = .ok (.ldc 65, 2) := by decide +kernel
theorem dX1_signsOf_40 : decode cX1_signsOf 40 = .ok (.areturn, 1) := by decide +kernel
theorem dX1_signsOf_41 : decode cX1_signsOf 41 = .ok (.ldc 67, 2) := by decide +kernel
theorem dX1_signsOf_43 : decode cX1_signsOf 43 = .ok (.areturn, 1) := by decide +kernel
theorem dX1_signsOf_44 : decode cX1_signsOf 44 = .ok (.ldc 69, 2) := by decide +kernel
theorem dX1_signsOf_46 : decode cX1_signsOf 46 = .ok (.areturn, 1) := by decide +kernel
theorem dX1_reads_0 : decode cX1_reads 0 = .ok (.aload_n 0, 1) := by decide +kernel
theorem dX1_reads_1 : decode cX1_reads 1 = .ok (.iload_n 1, 1) := by decide +kernel
theorem dX1_reads_2 : decode cX1_reads 2 = .ok (.iload_n 2, 1) := by decide +kernel
theorem dX1_reads_3 : decode cX1_reads 3 = .ok (.invokevirtual 71, 3) := by decide +kernel
theorem dX1_reads_6 : decode cX1_reads 6 = .ok (.ifCond .ne 5, 3) := by decide +kernel
theorem dX1_reads_9 : decode cX1_reads 9 = .ok (.iconst 0, 1) := by decide +kernel
theorem dX1_reads_10 : decode cX1_reads 10 = .ok (.ireturn, 1) := by decide +kernel
theorem dX1_reads_11 : decode cX1_reads 11 = .ok (.iload_n 1, 1) := by decide +kernel
theorem dX1_reads_12 : decode cX1_reads 12 = .ok (.invokestatic 74, 3) := by decide +kernel
theorem dX1_reads_15 : decode cX1_reads 15 = .ok (.astore_n 3, 1) := by decide +kernel
theorem dX1_reads_16 : decode cX1_reads 16 = .ok (.iconst 0, 1) := by decide +kernel
theorem dX1_reads_17 : decode cX1_reads 17 = .ok (.istore 4, 2) := by decide +kernel
theorem dX1_reads_19 : decode cX1_reads 19 = .ok (.iload 4, 2) := by decide +kernel
theorem dX1_reads_21 : decode cX1_reads 21 = .ok (.bipush 50, 2) := by decide +kernel
theorem dX1_reads_23 : decode cX1_reads 23 = .ok (.if_icmp .ge 64, 3) := by decide +kernel
theorem dX1_reads_26 : decode cX1_reads 26 = .ok (.aload_n 3, 1) := by decide +kernel
theorem dX1_reads_27 : decode cX1_reads 27 = .ok (.aload_n 0, 1) := by decide +kernel
theorem dX1_reads_28 : decode cX1_reads 28 = .ok (.invokevirtual 78, 3) := by decide +kernel
theorem dX1_reads_31 : decode cX1_reads 31 = .ok (.invokestatic 81, 3) := by decide +kernel
theorem dX1_reads_34 : decode cX1_reads 34 = .ok (.ifCond .eq 53, 3) := by decide +kernel
theorem dX1_reads_37 : decode cX1_reads 37 = .ok (.aload_n 0, 1) := by decide +kernel
theorem dX1_reads_38 : decode cX1_reads 38 = .ok (.invokevirtual 78, 3) := by decide +kernel
theorem dX1_reads_41 : decode cX1_reads 41 = .ok (.istore 5, 2) := by decide +kernel
theorem dX1_reads_43 : decode cX1_reads 43 = .ok (.aload_n 0, 1) := by decide +kernel
theorem dX1_reads_44 : decode cX1_reads 44 = .ok (.dup, 1) := by decide +kernel
theorem dX1_reads_45 : decode cX1_reads 45 = .ok (.getfield 29, 3) := by decide +kernel
theorem dX1_reads_48 : decode cX1_reads 48 = .ok (.iconst 1, 1) := by decide +kernel
theorem dX1_reads_49 : decode cX1_reads 49 = .ok (.iadd, 1) := by decide +kernel
theorem dX1_reads_50 : decode cX1_reads 50 = .ok (.putfield 29, 3) := by decide +kernel
theorem dX1_reads_53 : decode cX1_reads 53 = .ok (.aload_n 0, 1) := by decide +kernel
theorem dX1_reads_54 : decode cX1_reads 54 = .ok (.iload_n 1, 1) := by decide +kernel
theorem dX1_reads_55 : decode cX1_reads 55 = .ok (.iload_n 2, 1) := by decide +kernel
theorem dX1_reads_56 : decode cX1_reads 56 = .ok (.invokevirtual 71, 3) := by decide +kernel
theorem dX1_reads_59 : decode cX1_reads 59 = .ok (.ifCond .ne 5, 3) := by decide +kernel
theorem dX1_reads_62 : decode cX1_reads 62 = .ok (.iconst 0, 1) := by decide +kernel
theorem dX1_reads_63 : decode cX1_reads 63 = .ok (.ireturn, 1) := by decide +kernel
theorem dX1_reads_64 : decode cX1_reads 64 = .ok (.aload_n 0, 1) := by decide +kernel
theorem dX1_reads_65 : decode cX1_reads 65 = .ok (.getfield 14, 3) := by decide +kernel
theorem dX1_reads_68 : decode cX1_reads 68 = .ok (.iload 5, 2) := by decide +kernel
theorem dX1_reads_70 : decode cX1_reads 70 = .ok (.ineg, 1) := by decide +kernel
theorem dX1_reads_71 : decode cX1_reads 71 = .ok (.invokevirtual 85, 3) := by decide +kernel
theorem dX1_reads_74 : decode cX1_reads 74 = .ok (.iload_n 1, 1) := by decide +kernel
theorem dX1_reads_75 : decode cX1_reads 75 = .ok (.iconst 2, 1) := by decide +kernel
theorem dX1_reads_76 : decode cX1_reads 76 = .ok (.if_icmp .ne 5, 3) := by decide +kernel
theorem dX1_reads_79 : decode cX1_reads 79 = .ok (.iconst 1, 1) := by decide +kernel
theorem dX1_reads_80 : decode cX1_reads 80 = .ok (.ireturn, 1) := by decide +kernel
theorem dX1_reads_81 : decode cX1_reads 81 = .ok (.iinc 4 1, 3) := by decide +kernel
theorem dX1_reads_84 : decode cX1_reads 84 = .ok (.goto (-65), 3) := by decide +kernel
theorem dX1_reads_87 : decode cX1_reads 87 = .ok (.iconst 1, 1) := by decide +kernel
theorem dX1_reads_88 : decode cX1_reads 88 = .ok (.ireturn, 1) := by decide +kernel
theorem dX1_readsPart_0 : decode cX1_readsPart 0 = .ok (.iload_n 1, 1) := by decide +kernel
theorem dX1_readsPart_1 : decode cX1_readsPart 1 = .ok (.iconst 4, 1) := by decide +kernel
theorem dX1_readsPart_2 : decode cX1_readsPart 2 = .ok (.if_icmp .ge 14, 3) := by decide +kernel
theorem dX1_readsPart_5 : decode cX1_readsPart 5 = .ok (.aload_n 0, 1) := by decide +kernel
theorem dX1_readsPart_6 : decode cX1_readsPart 6 = .ok (.iload_n 1, 1) := by decide +kernel
theorem dX1_readsPart_7 : decode cX1_readsPart 7 = .ok (.iconst 1, 1) := by decide +kernel
theorem dX1_readsPart_8 : decode cX1_readsPart 8 = .ok (.iadd, 1) := by decide +kernel
theorem dX1_readsPart_9 : decode cX1_readsPart 9 = .ok (.iload_n 2, 1) := by decide +kernel
theorem dX1_readsPart_10 : decode cX1_readsPart 10 = .ok (.invokevirtual 40, 3) := by decide +kernel
theorem dX1_readsPart_13 : decode cX1_readsPart 13 = .ok (.goto 8, 3) := by decide +kernel
theorem dX1_readsPart_16 : decode cX1_readsPart 16 = .ok (.aload_n 0, 1) := by decide +kernel
theorem dX1_readsPart_17 : decode cX1_readsPart 17 = .ok (.iload_n 2, 1) := by decide +kernel
theorem dX1_readsPart_18 : decode cX1_readsPart 18 = .ok (.invokevirtual 88, 3) := by decide +kernel
theorem dX1_readsPart_21 : decode cX1_readsPart 21 = .ok (.ireturn, 1) := by decide +kernel
theorem dX1_readsOne_0 : decode cX1_readsOne 0 = .ok (.aload_n 0, 1) := by decide +kernel
theorem dX1_readsOne_1 : decode cX1_readsOne 1 = .ok (.invokevirtual 78, 3) := by decide +kernel
theorem dX1_readsOne_4 : decode cX1_readsOne 4 = .ok (.istore_n 2, 1) := by decide +kernel
theorem dX1_readsOne_5 : decode cX1_readsOne 5 = .ok (.ldc 91, 2) := by decide +kernel
theorem dX1_readsOne_7 : decode cX1_readsOne 7 = .ok (.iload_n 2, 1) := by decide +kernel
theorem dX1_readsOne_8 : decode cX1_readsOne 8 = .ok (.invokestatic 81, 3) := by decide +kernel
theorem dX1_readsOne_11 : decode cX1_readsOne 11 = .ok (.ifCond .eq 9, 3) := by decide +kernel
theorem dX1_readsOne_14 : decode cX1_readsOne 14 = .ok (.aload_n 0, 1) := by decide +kernel
theorem dX1_readsOne_15 : decode cX1_readsOne 15 = .ok (.invokevirtual 93, 3) := by decide +kernel
theorem dX1_readsOne_18 : decode cX1_readsOne 18 = .ok (.iconst 1, 1) := by decide +kernel
theorem dX1_readsOne_19 : decode cX1_readsOne 19 = .ok (.ireturn, 1) := by decide +kernel
theorem dX1_readsOne_20 : decode cX1_readsOne 20 = .ok (.aload_n 0, 1) := by decide +kernel
theorem dX1_readsOne_21 : decode cX1_readsOne 21 = .ok (.getfield 25, 3) := by decide +kernel
theorem dX1_readsOne_24 : decode cX1_readsOne 24 = .ok (.iload_n 2, 1) := by decide +kernel
theorem dX1_readsOne_25 : decode cX1_readsOne 25 = .ok (.invokestatic 81, 3) := by decide +kernel
theorem dX1_readsOne_28 : decode cX1_readsOne 28 = .ok (.ifCond .eq 33, 3) := by decide +kernel
theorem dX1_readsOne_31 : decode cX1_readsOne 31 = .ok (.aload_n 0, 1) := by decide +kernel
theorem dX1_readsOne_32 : decode cX1_readsOne 32 = .ok (.getfield 14, 3) := by decide +kernel
theorem dX1_readsOne_35 : decode cX1_readsOne 35 = .ok (.iconst (-1), 1) := by decide +kernel
theorem dX1_readsOne_36 : decode cX1_readsOne 36 = .ok (.aload_n 0, 1) := by decide +kernel
theorem dX1_readsOne_37 : decode cX1_readsOne 37 = .ok (.getfield 25, 3) := by decide +kernel
theorem dX1_readsOne_40 : decode cX1_readsOne 40 = .ok (.iload_n 2, 1) := by decide +kernel
theorem dX1_readsOne_41 : decode cX1_readsOne 41 = .ok (.i2c, 1) := by decide +kernel
theorem dX1_readsOne_42 : decode cX1_readsOne 42 = .ok (.invokevirtual 56, 3) := by decide +kernel
theorem dX1_readsOne_45 : decode cX1_readsOne 45 = .ok (.isub, 1) := by decide +kernel
theorem dX1_readsOne_46 : decode cX1_readsOne 46 = .ok (.invokevirtual 85, 3) := by decide +kernel
theorem dX1_readsOne_49 : decode cX1_readsOne 49 = .ok (.aload_n 0, 1) := by decide +kernel
theorem dX1_readsOne_50 : decode cX1_readsOne 50 = .ok (.dup, 1) := by decide +kernel
theorem dX1_readsOne_51 : decode cX1_readsOne 51 = .ok (.getfield 29, 3) := by decide +kernel
theorem dX1_readsOne_54 : decode cX1_readsOne 54 = .ok (.iconst 1, 1) := by decide +kernel
theorem dX1_readsOne_55 : decode cX1_readsOne 55 = .ok (.iadd, 1) := by decide +kernel
theorem dX1_readsOne_56 : decode cX1_readsOne 56 = .ok (.putfield 29, 3) := by decide +kernel
theorem dX1_readsOne_59 : decode cX1_readsOne 59 = .ok (.iconst 1, 1) := by decide +kernel
theorem dX1_readsOne_60 : decode cX1_readsOne 60 = .ok (.ireturn, 1) := by decide +kernel
theorem dX1_readsOne_61 : decode cX1_readsOne 61 = .ok (.iload_n 1, 1) := by decide +kernel
theorem dX1_readsOne_62 : decode cX1_readsOne 62 = .ok (.iconst 5, 1) := by decide +kernel
theorem dX1_readsOne_63 : decode cX1_readsOne 63 = .ok (.if_icmp .ge 15, 3) := by decide +kernel
theorem dX1_readsOne_66 : decode cX1_readsOne 66 = .ok (.iload_n 2, 1) := by decide +kernel
theorem dX1_readsOne_67 : decode cX1_readsOne 67 = .ok (.bipush 33, 2) := by decide +kernel
theorem dX1_readsOne_69 : decode cX1_readsOne 69 = .ok (.if_icmp .eq 11, 3) := by decide +kernel
theorem dX1_readsOne_72 : decode cX1_readsOne 72 = .ok (.iload_n 2, 1) := by decide +kernel
theorem dX1_readsOne_73 : decode cX1_readsOne 73 = .ok (.bipush 40, 2) := by decide +kernel
theorem dX1_readsOne_75 : decode cX1_readsOne 75 = .ok (.if_icmp .eq 5, 3) := by decide +kernel
theorem dX1_readsOne_78 : decode cX1_readsOne 78 = .ok (.iconst 0, 1) := by decide +kernel
theorem dX1_readsOne_79 : decode cX1_readsOne 79 = .ok (.ireturn, 1) := by decide +kernel
theorem dX1_readsOne_80 : decode cX1_readsOne 80 = .ok (.aload_n 0, 1) := by decide +kernel
theorem dX1_readsOne_81 : decode cX1_readsOne 81 = .ok (.dup, 1) := by decide +kernel
theorem dX1_readsOne_82 : decode cX1_readsOne 82 = .ok (.getfield 29, 3) := by decide +kernel
theorem dX1_readsOne_85 : decode cX1_readsOne 85 = .ok (.iconst 1, 1) := by decide +kernel
theorem dX1_readsOne_86 : decode cX1_readsOne 86 = .ok (.iadd, 1) := by decide +kernel
theorem dX1_readsOne_87 : decode cX1_readsOne 87 = .ok (.putfield 29, 3) := by decide +kernel
theorem dX1_readsOne_90 : decode cX1_readsOne 90 = .ok (.iload_n 2, 1) := by decide +kernel
theorem dX1_readsOne_91 : decode cX1_readsOne 91 = .ok (.bipush 33, 2) := by decide +kernel
theorem dX1_readsOne_93 : decode cX1_readsOne 93 = .ok (.if_icmp .ne 13, 3) := by decide +kernel
theorem dX1_readsOne_96 : decode cX1_readsOne 96 = .ok (.aload_n 0, 1) := by decide +kernel
theorem dX1_readsOne_97 : decode cX1_readsOne 97 = .ok (.iload_n 1, 1) := by decide +kernel
theorem dX1_readsOne_98 : decode cX1_readsOne 98 = .ok (.iconst 1, 1) := by decide +kernel
theorem dX1_readsOne_99 : decode cX1_readsOne 99 = .ok (.iadd, 1) := by decide +kernel
theorem dX1_readsOne_100 : decode cX1_readsOne 100 = .ok (.invokevirtual 96, 3) := by decide +kernel
theorem dX1_readsOne_103 : decode cX1_readsOne 103 = .ok (.goto 10, 3) := by decide +kernel
theorem dX1_readsOne_106 : decode cX1_readsOne 106 = .ok (.aload_n 0, 1) := by decide +kernel
theorem dX1_readsOne_107 : decode cX1_readsOne 107 = .ok (.iload_n 1, 1) := by decide +kernel
theorem dX1_readsOne_108 : decode cX1_readsOne 108 = .ok (.iconst 1, 1) := by decide +kernel
theorem dX1_readsOne_109 : decode cX1_readsOne 109 = .ok (.iadd, 1) := by decide +kernel
theorem dX1_readsOne_110 : decode cX1_readsOne 110 = .ok (.invokevirtual 99, 3) := by decide +kernel
theorem dX1_readsOne_113 : decode cX1_readsOne 113 = .ok (.ireturn, 1) := by decide +kernel
theorem dX1_readsNot_0 : decode cX1_readsNot 0 = .ok (.aload_n 0, 1) := by decide +kernel
theorem dX1_readsNot_1 : decode cX1_readsNot 1 = .ok (.iload_n 1, 1) := by decide +kernel
theorem dX1_readsNot_2 : decode cX1_readsNot 2 = .ok (.invokevirtual 88, 3) := by decide +kernel
theorem dX1_readsNot_5 : decode cX1_readsNot 5 = .ok (.ifCond .ne 5, 3) := by decide +kernel
theorem dX1_readsNot_8 : decode cX1_readsNot 8 = .ok (.iconst 0, 1) := by decide +kernel
theorem dX1_readsNot_9 : decode cX1_readsNot 9 = .ok (.ireturn, 1) := by decide +kernel
theorem dX1_readsNot_10 : decode cX1_readsNot 10 = .ok (.aload_n 0, 1) := by decide +kernel
theorem dX1_readsNot_11 : decode cX1_readsNot 11 = .ok (.getfield 14, 3) := by decide +kernel
theorem dX1_readsNot_14 : decode cX1_readsNot 14 = .ok (.bipush (-33), 2) := by decide +kernel
theorem dX1_readsNot_16 : decode cX1_readsNot 16 = .ok (.invokevirtual 85, 3) := by decide +kernel
theorem dX1_readsNot_19 : decode cX1_readsNot 19 = .ok (.iconst 1, 1) := by decide +kernel
theorem dX1_readsNot_20 : decode cX1_readsNot 20 = .ok (.ireturn, 1) := by decide +kernel
theorem dX1_readsBracket_0 : decode cX1_readsBracket 0 = .ok (.aload_n 0, 1) := by decide +kernel
theorem dX1_readsBracket_1 : decode cX1_readsBracket 1 = .ok (.iconst 0, 1) := by decide +kernel
theorem dX1_readsBracket_2 : decode cX1_readsBracket 2 = .ok (.iload_n 1, 1) := by decide +kernel
theorem dX1_readsBracket_3 : decode cX1_readsBracket 3 = .ok (.invokevirtual 40, 3) := by decide +kernel
theorem dX1_readsBracket_6 : decode cX1_readsBracket 6 = .ok (.ifCond .eq 12, 3) := by decide +kernel
theorem dX1_readsBracket_9 : decode cX1_readsBracket 9 = .ok (.aload_n 0, 1) := by decide +kernel
theorem dX1_readsBracket_10 : decode cX1_readsBracket 10 = .ok (.invokevirtual 78, 3) := by decide +kernel
theorem dX1_readsBracket_13 : decode cX1_readsBracket 13 = .ok (.bipush 41, 2) := by decide +kernel
theorem dX1_readsBracket_15 : decode cX1_readsBracket 15 = .ok (.if_icmp .eq 5, 3) := by decide +kernel
theorem dX1_readsBracket_18 : decode cX1_readsBracket 18 = .ok (.iconst 0, 1) := by decide +kernel
theorem dX1_readsBracket_19 : decode cX1_readsBracket 19 = .ok (.ireturn, 1) := by decide +kernel
theorem dX1_readsBracket_20 : decode cX1_readsBracket 20 = .ok (.aload_n 0, 1) := by decide +kernel
theorem dX1_readsBracket_21 : decode cX1_readsBracket 21 = .ok (.dup, 1) := by decide +kernel
theorem dX1_readsBracket_22 : decode cX1_readsBracket 22 = .ok (.getfield 29, 3) := by decide +kernel
theorem dX1_readsBracket_25 : decode cX1_readsBracket 25 = .ok (.iconst 1, 1) := by decide +kernel
theorem dX1_readsBracket_26 : decode cX1_readsBracket 26 = .ok (.iadd, 1) := by decide +kernel
theorem dX1_readsBracket_27 : decode cX1_readsBracket 27 = .ok (.putfield 29, 3) := by decide +kernel
theorem dX1_readsBracket_30 : decode cX1_readsBracket 30 = .ok (.iconst 1, 1) := by decide +kernel
theorem dX1_readsBracket_31 : decode cX1_readsBracket 31 = .ok (.ireturn, 1) := by decide +kernel
theorem dX1_readNumber_0 : decode cX1_readNumber 0 = .ok (.iconst 0, 1) := by decide +kernel
theorem dX1_readNumber_1 : decode cX1_readNumber 1 = .ok (.istore_n 1, 1) := by decide +kernel
theorem dX1_readNumber_2 : decode cX1_readNumber 2 = .ok (.iconst 0, 1) := by decide +kernel
theorem dX1_readNumber_3 : decode cX1_readNumber 3 = .ok (.istore_n 2, 1) := by decide +kernel
theorem dX1_readNumber_4 : decode cX1_readNumber 4 = .ok (.iload_n 2, 1) := by decide +kernel
theorem dX1_readNumber_5 : decode cX1_readNumber 5 = .ok (.iconst 4, 1) := by decide +kernel
theorem dX1_readNumber_6 : decode cX1_readNumber 6 = .ok (.if_icmp .ge 44, 3) := by decide +kernel
theorem dX1_readNumber_9 : decode cX1_readNumber 9 = .ok (.ldc 91, 2) := by decide +kernel
theorem dX1_readNumber_11 : decode cX1_readNumber 11 = .ok (.aload_n 0, 1) := by decide +kernel
theorem dX1_readNumber_12 : decode cX1_readNumber 12 = .ok (.invokevirtual 78, 3) := by decide +kernel
theorem dX1_readNumber_15 : decode cX1_readNumber 15 = .ok (.invokestatic 81, 3) := by decide +kernel
theorem dX1_readNumber_18 : decode cX1_readNumber 18 = .ok (.ifCond .eq 32, 3) := by decide +kernel
theorem dX1_readNumber_21 : decode cX1_readNumber 21 = .ok (.bipush 10, 2) := by decide +kernel
theorem dX1_readNumber_23 : decode cX1_readNumber 23 = .ok (.iload_n 1, 1) := by decide +kernel
theorem dX1_readNumber_24 : decode cX1_readNumber 24 = .ok (.imul, 1) := by decide +kernel
theorem dX1_readNumber_25 : decode cX1_readNumber 25 = .ok (.aload_n 0, 1) := by decide +kernel
theorem dX1_readNumber_26 : decode cX1_readNumber 26 = .ok (.invokevirtual 78, 3) := by decide +kernel
theorem dX1_readNumber_29 : decode cX1_readNumber 29 = .ok (.iadd, 1) := by decide +kernel
theorem dX1_readNumber_30 : decode cX1_readNumber 30 = .ok (.bipush 48, 2) := by decide +kernel
theorem dX1_readNumber_32 : decode cX1_readNumber 32 = .ok (.isub, 1) := by decide +kernel
theorem dX1_readNumber_33 : decode cX1_readNumber 33 = .ok (.istore_n 1, 1) := by decide +kernel
theorem dX1_readNumber_34 : decode cX1_readNumber 34 = .ok (.aload_n 0, 1) := by decide +kernel
theorem dX1_readNumber_35 : decode cX1_readNumber 35 = .ok (.dup, 1) := by decide +kernel
theorem dX1_readNumber_36 : decode cX1_readNumber 36 = .ok (.getfield 29, 3) := by decide +kernel
theorem dX1_readNumber_39 : decode cX1_readNumber 39 = .ok (.iconst 1, 1) := by decide +kernel
theorem dX1_readNumber_40 : decode cX1_readNumber 40 = .ok (.iadd, 1) := by decide +kernel
theorem dX1_readNumber_41 : decode cX1_readNumber 41 = .ok (.putfield 29, 3) := by decide +kernel
theorem dX1_readNumber_44 : decode cX1_readNumber 44 = .ok (.iinc 2 1, 3) := by decide +kernel
theorem dX1_readNumber_47 : decode cX1_readNumber 47 = .ok (.goto (-43), 3) := by decide +kernel
theorem dX1_readNumber_50 : decode cX1_readNumber 50 = .ok (.aload_n 0, 1) := by decide +kernel
theorem dX1_readNumber_51 : decode cX1_readNumber 51 = .ok (.getfield 14, 3) := by decide +kernel
theorem dX1_readNumber_54 : decode cX1_readNumber 54 = .ok (.iload_n 1, 1) := by decide +kernel
theorem dX1_readNumber_55 : decode cX1_readNumber 55 = .ok (.invokevirtual 85, 3) := by decide +kernel
theorem dX1_readNumber_58 : decode cX1_readNumber 58 = .ok (.return_, 1) := by decide +kernel
theorem dX2_init_0 : decode cX2_init 0 = .ok (.aload_n 0, 1) := by decide +kernel
theorem dX2_init_1 : decode cX2_init 1 = .ok (.invokespecial 1, 3) := by decide +kernel
theorem dX2_init_4 : decode cX2_init 4 = .ok (.aload_n 0, 1) := by decide +kernel
theorem dX2_init_5 : decode cX2_init 5 = .ok (.iconst 0, 1) := by decide +kernel
theorem dX2_init_6 : decode cX2_init 6 = .ok (.putfield 7, 3) := by decide +kernel
theorem dX2_init_9 : decode cX2_init 9 = .ok (.aload_n 0, 1) := by decide +kernel
theorem dX2_init_10 : decode cX2_init 10 = .ok (.iconst 0, 1) := by decide +kernel
theorem dX2_init_11 : decode cX2_init 11 = .ok (.iload_n 1, 1) := by decide +kernel
theorem dX2_init_12 : decode cX2_init 12 = .ok (.invokestatic 13, 3) := by decide +kernel
theorem dX2_init_15 : decode cX2_init 15 = .ok (.newarray .int, 2) := by decide +kernel
theorem dX2_init_17 : decode cX2_init 17 = .ok (.putfield 19, 3) := by decide +kernel
theorem dX2_init_20 : decode cX2_init 20 = .ok (.return_, 1) := by decide +kernel
theorem dX2_size_0 : decode cX2_size 0 = .ok (.aload_n 0, 1) := by decide +kernel
theorem dX2_size_1 : decode cX2_size 1 = .ok (.getfield 7, 3) := by decide +kernel
theorem dX2_size_4 : decode cX2_size 4 = .ok (.ireturn, 1) := by decide +kernel
theorem dX2_has_0 : decode cX2_has 0 = .ok (.iload_n 1, 1) := by decide +kernel
theorem dX2_has_1 : decode cX2_has 1 = .ok (.ifCond .lt 15, 3) := by decide +kernel
theorem dX2_has_4 : decode cX2_has 4 = .ok (.iload_n 1, 1) := by decide +kernel
theorem dX2_has_5 : decode cX2_has 5 = .ok (.aload_n 0, 1) := by decide +kernel
theorem dX2_has_6 : decode cX2_has 6 = .ok (.getfield 7, 3) := by decide +kernel
theorem dX2_has_9 : decode cX2_has 9 = .ok (.if_icmp .ge 7, 3) := by decide +kernel
theorem dX2_has_12 : decode cX2_has 12 = .ok (.iconst 1, 1) := by decide +kernel
theorem dX2_has_13 : decode cX2_has 13 = .ok (.goto 4, 3) := by decide +kernel
theorem dX2_has_16 : decode cX2_has 16 = .ok (.iconst 0, 1) := by decide +kernel
theorem dX2_has_17 : decode cX2_has 17 = .ok (.ireturn, 1) := by decide +kernel
theorem dX2_hasRun_0 : decode cX2_hasRun 0 = .ok (.iload_n 2, 1) := by decide +kernel
theorem dX2_hasRun_1 : decode cX2_hasRun 1 = .ok (.ifCond .lt 21, 3) := by decide +kernel
theorem dX2_hasRun_4 : decode cX2_hasRun 4 = .ok (.iload_n 1, 1) := by decide +kernel
theorem dX2_hasRun_5 : decode cX2_hasRun 5 = .ok (.ifCond .lt 17, 3) := by decide +kernel
theorem dX2_hasRun_8 : decode cX2_hasRun 8 = .ok (.iload_n 1, 1) := by decide +kernel
theorem dX2_hasRun_9 : decode cX2_hasRun 9 = .ok (.aload_n 0, 1) := by decide +kernel
theorem dX2_hasRun_10 : decode cX2_hasRun 10 = .ok (.getfield 7, 3) := by decide +kernel
theorem dX2_hasRun_13 : decode cX2_hasRun 13 = .ok (.iload_n 2, 1) := by decide +kernel
theorem dX2_hasRun_14 : decode cX2_hasRun 14 = .ok (.isub, 1) := by decide +kernel
theorem dX2_hasRun_15 : decode cX2_hasRun 15 = .ok (.if_icmp .gt 7, 3) := by decide +kernel
theorem dX2_hasRun_18 : decode cX2_hasRun 18 = .ok (.iconst 1, 1) := by decide +kernel
theorem dX2_hasRun_19 : decode cX2_hasRun 19 = .ok (.goto 4, 3) := by decide +kernel
theorem dX2_hasRun_22 : decode cX2_hasRun 22 = .ok (.iconst 0, 1) := by decide +kernel
theorem dX2_hasRun_23 : decode cX2_hasRun 23 = .ok (.ireturn, 1) := by decide +kernel
theorem dX2_get_0 : decode cX2_get 0 = .ok (.iload_n 1, 1) := by decide +kernel
theorem dX2_get_1 : decode cX2_get 1 = .ok (.ifCond .lt 21, 3) := by decide +kernel
theorem dX2_get_4 : decode cX2_get 4 = .ok (.iload_n 1, 1) := by decide +kernel
theorem dX2_get_5 : decode cX2_get 5 = .ok (.aload_n 0, 1) := by decide +kernel
theorem dX2_get_6 : decode cX2_get 6 = .ok (.getfield 19, 3) := by decide +kernel
theorem dX2_get_9 : decode cX2_get 9 = .ok (.arraylength, 1) := by decide +kernel
theorem dX2_get_10 : decode cX2_get 10 = .ok (.if_icmp .ge 12, 3) := by decide +kernel
theorem dX2_get_13 : decode cX2_get 13 = .ok (.aload_n 0, 1) := by decide +kernel
theorem dX2_get_14 : decode cX2_get 14 = .ok (.getfield 19, 3) := by decide +kernel
theorem dX2_get_17 : decode cX2_get 17 = .ok (.iload_n 1, 1) := by decide +kernel
theorem dX2_get_18 : decode cX2_get 18 = .ok (.iaload, 1) := by decide +kernel
theorem dX2_get_19 : decode cX2_get 19 = .ok (.goto 4, 3) := by decide +kernel
theorem dX2_get_22 : decode cX2_get 22 = .ok (.iconst 0, 1) := by decide +kernel
theorem dX2_get_23 : decode cX2_get 23 = .ok (.ireturn, 1) := by decide +kernel
theorem dX2_set_0 : decode cX2_set 0 = .ok (.iload_n 1, 1) := by decide +kernel
theorem dX2_set_1 : decode cX2_set 1 = .ok (.ifCond .lt 19, 3) := by decide +kernel
theorem dX2_set_4 : decode cX2_set 4 = .ok (.iload_n 1, 1) := by decide +kernel
theorem dX2_set_5 : decode cX2_set 5 = .ok (.aload_n 0, 1) := by decide +kernel
theorem dX2_set_6 : decode cX2_set 6 = .ok (.getfield 19, 3) := by decide +kernel
theorem dX2_set_9 : decode cX2_set 9 = .ok (.arraylength, 1) := by decide +kernel
theorem dX2_set_10 : decode cX2_set 10 = .ok (.if_icmp .ge 10, 3) := by decide +kernel
theorem dX2_set_13 : decode cX2_set 13 = .ok (.aload_n 0, 1) := by decide +kernel
theorem dX2_set_14 : decode cX2_set 14 = .ok (.getfield 19, 3) := by decide +kernel
theorem dX2_set_17 : decode cX2_set 17 = .ok (.iload_n 1, 1) := by decide +kernel
theorem dX2_set_18 : decode cX2_set 18 = .ok (.iload_n 2, 1) := by decide +kernel
theorem dX2_set_19 : decode cX2_set 19 = .ok (.iastore, 1) := by decide +kernel
theorem dX2_set_20 : decode cX2_set 20 = .ok (.return_, 1) := by decide +kernel
theorem dX2_add_0 : decode cX2_add 0 = .ok (.aload_n 0, 1) := by decide +kernel
theorem dX2_add_1 : decode cX2_add 1 = .ok (.getfield 7, 3) := by decide +kernel
theorem dX2_add_4 : decode cX2_add 4 = .ok (.ifCond .lt 35, 3) := by decide +kernel
theorem dX2_add_7 : decode cX2_add 7 = .ok (.aload_n 0, 1) := by decide +kernel
theorem dX2_add_8 : decode cX2_add 8 = .ok (.getfield 7, 3) := by decide +kernel
theorem dX2_add_11 : decode cX2_add 11 = .ok (.aload_n 0, 1) := by decide +kernel
theorem dX2_add_12 : decode cX2_add 12 = .ok (.getfield 19, 3) := by decide +kernel
theorem dX2_add_15 : decode cX2_add 15 = .ok (.arraylength, 1) := by decide +kernel
theorem dX2_add_16 : decode cX2_add 16 = .ok (.if_icmp .ge 23, 3) := by decide +kernel
theorem dX2_add_19 : decode cX2_add 19 = .ok (.aload_n 0, 1) := by decide +kernel
theorem dX2_add_20 : decode cX2_add 20 = .ok (.getfield 19, 3) := by decide +kernel
theorem dX2_add_23 : decode cX2_add 23 = .ok (.aload_n 0, 1) := by decide +kernel
theorem dX2_add_24 : decode cX2_add 24 = .ok (.getfield 7, 3) := by decide +kernel
theorem dX2_add_27 : decode cX2_add 27 = .ok (.iload_n 1, 1) := by decide +kernel
theorem dX2_add_28 : decode cX2_add 28 = .ok (.iastore, 1) := by decide +kernel
theorem dX2_add_29 : decode cX2_add 29 = .ok (.aload_n 0, 1) := by decide +kernel
theorem dX2_add_30 : decode cX2_add 30 = .ok (.dup, 1) := by decide +kernel
theorem dX2_add_31 : decode cX2_add 31 = .ok (.getfield 7, 3) := by decide +kernel
theorem dX2_add_34 : decode cX2_add 34 = .ok (.iconst 1, 1) := by decide +kernel
theorem dX2_add_35 : decode cX2_add 35 = .ok (.iadd, 1) := by decide +kernel
theorem dX2_add_36 : decode cX2_add 36 = .ok (.putfield 7, 3) := by decide +kernel
theorem dX2_add_39 : decode cX2_add 39 = .ok (.return_, 1) := by decide +kernel
theorem dX2_removeLast_0 : decode cX2_removeLast 0 = .ok (.aload_n 0, 1) := by decide +kernel
theorem dX2_removeLast_1 : decode cX2_removeLast 1 = .ok (.getfield 7, 3) := by decide +kernel
theorem dX2_removeLast_4 : decode cX2_removeLast 4 = .ok (.ifCond .le 15, 3) := by decide +kernel
theorem dX2_removeLast_7 : decode cX2_removeLast 7 = .ok (.aload_n 0, 1) := by decide +kernel
theorem dX2_removeLast_8 : decode cX2_removeLast 8 = .ok (.getfield 7, 3) := by decide +kernel
theorem dX2_removeLast_11 : decode cX2_removeLast 11 = .ok (.aload_n 0, 1) := by decide +kernel
theorem dX2_removeLast_12 : decode cX2_removeLast 12 = .ok (.getfield 19, 3) := by decide +kernel
theorem dX2_removeLast_15 : decode cX2_removeLast 15 = .ok (.arraylength, 1) := by decide +kernel
theorem dX2_removeLast_16 : decode cX2_removeLast 16 = .ok (.if_icmp .le 5, 3) := by decide +kernel
theorem dX2_removeLast_19 : decode cX2_removeLast 19 = .ok (.iconst 0, 1) := by decide +kernel
theorem dX2_removeLast_20 : decode cX2_removeLast 20 = .ok (.ireturn, 1) := by decide +kernel
theorem dX2_removeLast_21 : decode cX2_removeLast 21 = .ok (.aload_n 0, 1) := by decide +kernel
theorem dX2_removeLast_22 : decode cX2_removeLast 22 = .ok (.dup, 1) := by decide +kernel
theorem dX2_removeLast_23 : decode cX2_removeLast 23 = .ok (.getfield 7, 3) := by decide +kernel
theorem dX2_removeLast_26 : decode cX2_removeLast 26 = .ok (.iconst 1, 1) := by decide +kernel
theorem dX2_removeLast_27 : decode cX2_removeLast 27 = .ok (.isub, 1) := by decide +kernel
theorem dX2_removeLast_28 : decode cX2_removeLast 28 = .ok (.putfield 7, 3) := by decide +kernel
theorem dX2_removeLast_31 : decode cX2_removeLast 31 = .ok (.aload_n 0, 1) := by decide +kernel
theorem dX2_removeLast_32 : decode cX2_removeLast 32 = .ok (.getfield 19, 3) := by decide +kernel
theorem dX2_removeLast_35 : decode cX2_removeLast 35 = .ok (.aload_n 0, 1) := by decide +kernel
theorem dX2_removeLast_36 : decode cX2_removeLast 36 = .ok (.getfield 7, 3) := by decide +kernel
theorem dX2_removeLast_39 : decode cX2_removeLast 39 = .ok (.iaload, 1) := by decide +kernel
theorem dX2_removeLast_40 : decode cX2_removeLast 40 = .ok (.ireturn, 1) := by decide +kernel
theorem dX2_clear_0 : decode cX2_clear 0 = .ok (.aload_n 0, 1) := by decide +kernel
theorem dX2_clear_1 : decode cX2_clear 1 = .ok (.iconst 0, 1) := by decide +kernel
theorem dX2_clear_2 : decode cX2_clear 2 = .ok (.putfield 7, 3) := by decide +kernel
theorem dX2_clear_5 : decode cX2_clear 5 = .ok (.return_, 1) := by decide +kernel
theorem dX2_zeros_0 : decode cX2_zeros 0 = .ok (.aload_n 0, 1) := by decide +kernel
theorem dX2_zeros_1 : decode cX2_zeros 1 = .ok (.invokevirtual 23, 3) := by decide +kernel
theorem dX2_zeros_4 : decode cX2_zeros 4 = .ok (.iconst 0, 1) := by decide +kernel
theorem dX2_zeros_5 : decode cX2_zeros 5 = .ok (.istore_n 2, 1) := by decide +kernel
theorem dX2_zeros_6 : decode cX2_zeros 6 = .ok (.iload_n 2, 1) := by decide +kernel
theorem dX2_zeros_7 : decode cX2_zeros 7 = .ok (.iload_n 1, 1) := by decide +kernel
theorem dX2_zeros_8 : decode cX2_zeros 8 = .ok (.if_icmp .ge 23, 3) := by decide +kernel
theorem dX2_zeros_11 : decode cX2_zeros 11 = .ok (.iload_n 2, 1) := by decide +kernel
theorem dX2_zeros_12 : decode cX2_zeros 12 = .ok (.aload_n 0, 1) := by decide +kernel
theorem dX2_zeros_13 : decode cX2_zeros 13 = .ok (.getfield 19, 3) := by decide +kernel
theorem dX2_zeros_16 : decode cX2_zeros 16 = .ok (.arraylength, 1) := by decide +kernel
theorem dX2_zeros_17 : decode cX2_zeros 17 = .ok (.if_icmp .ge 14, 3) := by decide +kernel
theorem dX2_zeros_20 : decode cX2_zeros 20 = .ok (.aload_n 0, 1) := by decide +kernel
theorem dX2_zeros_21 : decode cX2_zeros 21 = .ok (.iconst 0, 1) := by decide +kernel
theorem dX2_zeros_22 : decode cX2_zeros 22 = .ok (.invokevirtual 26, 3) := by decide +kernel
theorem dX2_zeros_25 : decode cX2_zeros 25 = .ok (.iinc 2 1, 3) := by decide +kernel
theorem dX2_zeros_28 : decode cX2_zeros 28 = .ok (.goto (-22), 3) := by decide +kernel
theorem dX2_zeros_31 : decode cX2_zeros 31 = .ok (.return_, 1) := by decide +kernel
theorem dX2_copyFrom_0 : decode cX2_copyFrom 0 = .ok (.aload_n 0, 1) := by decide +kernel
theorem dX2_copyFrom_1 : decode cX2_copyFrom 1 = .ok (.invokevirtual 23, 3) := by decide +kernel
theorem dX2_copyFrom_4 : decode cX2_copyFrom 4 = .ok (.iconst 0, 1) := by decide +kernel
theorem dX2_copyFrom_5 : decode cX2_copyFrom 5 = .ok (.istore_n 2, 1) := by decide +kernel
theorem dX2_copyFrom_6 : decode cX2_copyFrom 6 = .ok (.iload_n 2, 1) := by decide +kernel
theorem dX2_copyFrom_7 : decode cX2_copyFrom 7 = .ok (.aload_n 1, 1) := by decide +kernel
theorem dX2_copyFrom_8 : decode cX2_copyFrom 8 = .ok (.getfield 7, 3) := by decide +kernel
theorem dX2_copyFrom_11 : decode cX2_copyFrom 11 = .ok (.if_icmp .ge 18, 3) := by decide +kernel
theorem dX2_copyFrom_14 : decode cX2_copyFrom 14 = .ok (.aload_n 0, 1) := by decide +kernel
theorem dX2_copyFrom_15 : decode cX2_copyFrom 15 = .ok (.aload_n 1, 1) := by decide +kernel
theorem dX2_copyFrom_16 : decode cX2_copyFrom 16 = .ok (.iload_n 2, 1) := by decide +kernel
theorem dX2_copyFrom_17 : decode cX2_copyFrom 17 = .ok (.invokevirtual 30, 3) := by decide +kernel
theorem dX2_copyFrom_20 : decode cX2_copyFrom 20 = .ok (.invokevirtual 26, 3) := by decide +kernel
theorem dX2_copyFrom_23 : decode cX2_copyFrom 23 = .ok (.iinc 2 1, 3) := by decide +kernel
theorem dX2_copyFrom_26 : decode cX2_copyFrom 26 = .ok (.goto (-20), 3) := by decide +kernel
theorem dX2_copyFrom_29 : decode cX2_copyFrom 29 = .ok (.return_, 1) := by decide +kernel
theorem dX3_init_0 : decode cX3_init 0 = .ok (.aload_n 0, 1) := by decide +kernel
theorem dX3_init_1 : decode cX3_init 1 = .ok (.invokespecial 3, 3) := by decide +kernel
theorem dX3_init_4 : decode cX3_init 4 = .ok (.aload_n 0, 1) := by decide +kernel
theorem dX3_init_5 : decode cX3_init 5 = .ok (.iconst 0, 1) := by decide +kernel
theorem dX3_init_6 : decode cX3_init 6 = .ok (.putfield 9, 3) := by decide +kernel
theorem dX3_init_9 : decode cX3_init 9 = .ok (.aload_n 0, 1) := by decide +kernel
theorem dX3_init_10 : decode cX3_init 10 = .ok (.iconst 0, 1) := by decide +kernel
theorem dX3_init_11 : decode cX3_init 11 = .ok (.putfield 15, 3) := by decide +kernel
theorem dX3_init_14 : decode cX3_init 14 = .ok (.aload_n 0, 1) := by decide +kernel
theorem dX3_init_15 : decode cX3_init 15 = .ok (.iconst 0, 1) := by decide +kernel
theorem dX3_init_16 : decode cX3_init 16 = .ok (.putfield 18, 3) := by decide +kernel
theorem dX3_init_19 : decode cX3_init 19 = .ok (.aload_n 0, 1) := by decide +kernel
theorem dX3_init_20 : decode cX3_init 20 = .ok (.iconst 0, 1) := by decide +kernel
theorem dX3_init_21 : decode cX3_init 21 = .ok (.putfield 21, 3) := by decide +kernel
theorem dX3_init_24 : decode cX3_init 24 = .ok (.aload_n 0, 1) := by decide +kernel
theorem dX3_init_25 : decode cX3_init 25 = .ok (.iconst 0, 1) := by decide +kernel
theorem dX3_init_26 : decode cX3_init 26 = .ok (.putfield 24, 3) := by decide +kernel
theorem dX3_init_29 : decode cX3_init 29 = .ok (.aload_n 0, 1) := by decide +kernel
theorem dX3_init_30 : decode cX3_init 30 = .ok (.iconst 0, 1) := by decide +kernel
theorem dX3_init_31 : decode cX3_init 31 = .ok (.putfield 27, 3) := by decide +kernel
theorem dX3_init_34 : decode cX3_init 34 = .ok (.return_, 1) := by decide +kernel
theorem dX4_init_0 : decode cX4_init 0 = .ok (.aload_n 0, 1) := by decide +kernel
theorem dX4_init_1 : decode cX4_init 1 = .ok (.invokespecial 3, 3) := by decide +kernel
theorem dX4_init_4 : decode cX4_init 4 = .ok (.aload_n 0, 1) := by decide +kernel
theorem dX4_init_5 : decode cX4_init 5 = .ok (.new 9, 3) := by decide +kernel
theorem dX4_init_8 : decode cX4_init 8 = .ok (.dup, 1) := by decide +kernel
theorem dX4_init_9 : decode cX4_init 9 = .ok (.bipush 8, 2) := by decide +kernel
theorem dX4_init_11 : decode cX4_init 11 = .ok (.invokespecial 11, 3) := by decide +kernel
theorem dX4_init_14 : decode cX4_init 14 = .ok (.putfield 14, 3) := by decide +kernel
theorem dX4_init_17 : decode cX4_init 17 = .ok (.aload_n 0, 1) := by decide +kernel
theorem dX4_init_18 : decode cX4_init 18 = .ok (.new 9, 3) := by decide +kernel
theorem dX4_init_21 : decode cX4_init 21 = .ok (.dup, 1) := by decide +kernel
theorem dX4_init_22 : decode cX4_init 22 = .ok (.bipush 8, 2) := by decide +kernel
theorem dX4_init_24 : decode cX4_init 24 = .ok (.invokespecial 11, 3) := by decide +kernel
theorem dX4_init_27 : decode cX4_init 27 = .ok (.putfield 20, 3) := by decide +kernel
theorem dX4_init_30 : decode cX4_init 30 = .ok (.aload_n 0, 1) := by decide +kernel
theorem dX4_init_31 : decode cX4_init 31 = .ok (.new 9, 3) := by decide +kernel
theorem dX4_init_34 : decode cX4_init 34 = .ok (.dup, 1) := by decide +kernel
theorem dX4_init_35 : decode cX4_init 35 = .ok (.bipush 8, 2) := by decide +kernel
theorem dX4_init_37 : decode cX4_init 37 = .ok (.invokespecial 11, 3) := by decide +kernel
theorem dX4_init_40 : decode cX4_init 40 = .ok (.putfield 23, 3) := by decide +kernel
theorem dX4_init_43 : decode cX4_init 43 = .ok (.aload_n 0, 1) := by decide +kernel
theorem dX4_init_44 : decode cX4_init 44 = .ok (.new 9, 3) := by decide +kernel
theorem dX4_init_47 : decode cX4_init 47 = .ok (.dup, 1) := by decide +kernel
theorem dX4_init_48 : decode cX4_init 48 = .ok (.bipush 8, 2) := by decide +kernel
theorem dX4_init_50 : decode cX4_init 50 = .ok (.invokespecial 11, 3) := by decide +kernel
theorem dX4_init_53 : decode cX4_init 53 = .ok (.putfield 26, 3) := by decide +kernel
theorem dX4_init_56 : decode cX4_init 56 = .ok (.aload_n 0, 1) := by decide +kernel
theorem dX4_init_57 : decode cX4_init 57 = .ok (.new 9, 3) := by decide +kernel
theorem dX4_init_60 : decode cX4_init 60 = .ok (.dup, 1) := by decide +kernel
theorem dX4_init_61 : decode cX4_init 61 = .ok (.bipush 8, 2) := by decide +kernel
theorem dX4_init_63 : decode cX4_init 63 = .ok (.invokespecial 11, 3) := by decide +kernel
theorem dX4_init_66 : decode cX4_init 66 = .ok (.putfield 29, 3) := by decide +kernel
theorem dX4_init_69 : decode cX4_init 69 = .ok (.aload_n 0, 1) := by decide +kernel
theorem dX4_init_70 : decode cX4_init 70 = .ok (.new 9, 3) := by decide +kernel
theorem dX4_init_73 : decode cX4_init 73 = .ok (.dup, 1) := by decide +kernel
theorem dX4_init_74 : decode cX4_init 74 = .ok (.bipush 8, 2) := by decide +kernel
theorem dX4_init_76 : decode cX4_init 76 = .ok (.invokespecial 11, 3) := by decide +kernel
theorem dX4_init_79 : decode cX4_init 79 = .ok (.putfield 32, 3) := by decide +kernel
theorem dX4_init_82 : decode cX4_init 82 = .ok (.return_, 1) := by decide +kernel
theorem dX4_size_0 : decode cX4_size 0 = .ok (.aload_n 0, 1) := by decide +kernel
theorem dX4_size_1 : decode cX4_size 1 = .ok (.getfield 14, 3) := by decide +kernel
theorem dX4_size_4 : decode cX4_size 4 = .ok (.invokevirtual 35, 3) := by decide +kernel
theorem dX4_size_7 : decode cX4_size 7 = .ok (.ireturn, 1) := by decide +kernel
theorem dX4_has_0 : decode cX4_has 0 = .ok (.aload_n 0, 1) := by decide +kernel
theorem dX4_has_1 : decode cX4_has 1 = .ok (.getfield 14, 3) := by decide +kernel
theorem dX4_has_4 : decode cX4_has 4 = .ok (.iload_n 1, 1) := by decide +kernel
theorem dX4_has_5 : decode cX4_has 5 = .ok (.invokevirtual 39, 3) := by decide +kernel
theorem dX4_has_8 : decode cX4_has 8 = .ok (.ireturn, 1) := by decide +kernel
theorem dX4_add_0 : decode cX4_add 0 = .ok (.aload_n 0, 1) := by decide +kernel
theorem dX4_add_1 : decode cX4_add 1 = .ok (.getfield 14, 3) := by decide +kernel
theorem dX4_add_4 : decode cX4_add 4 = .ok (.iload_n 1, 1) := by decide +kernel
theorem dX4_add_5 : decode cX4_add 5 = .ok (.invokevirtual 43, 3) := by decide +kernel
theorem dX4_add_8 : decode cX4_add 8 = .ok (.aload_n 0, 1) := by decide +kernel
theorem dX4_add_9 : decode cX4_add 9 = .ok (.getfield 20, 3) := by decide +kernel
theorem dX4_add_12 : decode cX4_add 12 = .ok (.iload_n 2, 1) := by decide +kernel
theorem dX4_add_13 : decode cX4_add 13 = .ok (.invokevirtual 43, 3) := by decide +kernel
theorem dX4_add_16 : decode cX4_add 16 = .ok (.aload_n 0, 1) := by decide +kernel
theorem dX4_add_17 : decode cX4_add 17 = .ok (.getfield 23, 3) := by decide +kernel
theorem dX4_add_20 : decode cX4_add 20 = .ok (.iload_n 3, 1) := by decide +kernel
theorem dX4_add_21 : decode cX4_add 21 = .ok (.invokevirtual 43, 3) := by decide +kernel
theorem dX4_add_24 : decode cX4_add 24 = .ok (.aload_n 0, 1) := by decide +kernel
theorem dX4_add_25 : decode cX4_add 25 = .ok (.getfield 26, 3) := by decide +kernel
theorem dX4_add_28 : decode cX4_add 28 = .ok (.iload 4, 2) := by decide +kernel
theorem dX4_add_30 : decode cX4_add 30 = .ok (.invokevirtual 43, 3) := by decide +kernel
theorem dX4_add_33 : decode cX4_add 33 = .ok (.aload_n 0, 1) := by decide +kernel
theorem dX4_add_34 : decode cX4_add 34 = .ok (.getfield 29, 3) := by decide +kernel
theorem dX4_add_37 : decode cX4_add 37 = .ok (.iconst 0, 1) := by decide +kernel
theorem dX4_add_38 : decode cX4_add 38 = .ok (.invokevirtual 43, 3) := by decide +kernel
theorem dX4_add_41 : decode cX4_add 41 = .ok (.aload_n 0, 1) := by decide +kernel
theorem dX4_add_42 : decode cX4_add 42 = .ok (.getfield 32, 3) := by decide +kernel
theorem dX4_add_45 : decode cX4_add 45 = .ok (.iconst 0, 1) := by decide +kernel
theorem dX4_add_46 : decode cX4_add 46 = .ok (.invokevirtual 43, 3) := by decide +kernel
theorem dX4_add_49 : decode cX4_add 49 = .ok (.return_, 1) := by decide +kernel
theorem dX4_load_0 : decode cX4_load 0 = .ok (.aload_n 2, 1) := by decide +kernel
theorem dX4_load_1 : decode cX4_load 1 = .ok (.aload_n 0, 1) := by decide +kernel
theorem dX4_load_2 : decode cX4_load 2 = .ok (.getfield 14, 3) := by decide +kernel
theorem dX4_load_5 : decode cX4_load 5 = .ok (.iload_n 1, 1) := by decide +kernel
theorem dX4_load_6 : decode cX4_load 6 = .ok (.invokevirtual 46, 3) := by decide +kernel
theorem dX4_load_9 : decode cX4_load 9 = .ok (.putfield 50, 3) := by decide +kernel
theorem dX4_load_12 : decode cX4_load 12 = .ok (.aload_n 2, 1) := by decide +kernel
theorem dX4_load_13 : decode cX4_load 13 = .ok (.aload_n 0, 1) := by decide +kernel
theorem dX4_load_14 : decode cX4_load 14 = .ok (.getfield 20, 3) := by decide +kernel
theorem dX4_load_17 : decode cX4_load 17 = .ok (.iload_n 1, 1) := by decide +kernel
theorem dX4_load_18 : decode cX4_load 18 = .ok (.invokevirtual 46, 3) := by decide +kernel
theorem dX4_load_21 : decode cX4_load 21 = .ok (.putfield 56, 3) := by decide +kernel
theorem dX4_load_24 : decode cX4_load 24 = .ok (.aload_n 2, 1) := by decide +kernel
theorem dX4_load_25 : decode cX4_load 25 = .ok (.aload_n 0, 1) := by decide +kernel
theorem dX4_load_26 : decode cX4_load 26 = .ok (.getfield 23, 3) := by decide +kernel
theorem dX4_load_29 : decode cX4_load 29 = .ok (.iload_n 1, 1) := by decide +kernel
theorem dX4_load_30 : decode cX4_load 30 = .ok (.invokevirtual 46, 3) := by decide +kernel
theorem dX4_load_33 : decode cX4_load 33 = .ok (.putfield 59, 3) := by decide +kernel
theorem dX4_load_36 : decode cX4_load 36 = .ok (.aload_n 2, 1) := by decide +kernel
theorem dX4_load_37 : decode cX4_load 37 = .ok (.aload_n 0, 1) := by decide +kernel
theorem dX4_load_38 : decode cX4_load 38 = .ok (.getfield 26, 3) := by decide +kernel
theorem dX4_load_41 : decode cX4_load 41 = .ok (.iload_n 1, 1) := by decide +kernel
theorem dX4_load_42 : decode cX4_load 42 = .ok (.invokevirtual 46, 3) := by decide +kernel
theorem dX4_load_45 : decode cX4_load 45 = .ok (.putfield 62, 3) := by decide +kernel
theorem dX4_load_48 : decode cX4_load 48 = .ok (.aload_n 2, 1) := by decide +kernel
theorem dX4_load_49 : decode cX4_load 49 = .ok (.aload_n 0, 1) := by decide +kernel
theorem dX4_load_50 : decode cX4_load 50 = .ok (.getfield 29, 3) := by decide +kernel
theorem dX4_load_53 : decode cX4_load 53 = .ok (.iload_n 1, 1) := by decide +kernel
theorem dX4_load_54 : decode cX4_load 54 = .ok (.invokevirtual 46, 3) := by decide +kernel
theorem dX4_load_57 : decode cX4_load 57 = .ok (.putfield 65, 3) := by decide +kernel
theorem dX4_load_60 : decode cX4_load 60 = .ok (.aload_n 2, 1) := by decide +kernel
theorem dX4_load_61 : decode cX4_load 61 = .ok (.aload_n 0, 1) := by decide +kernel
theorem dX4_load_62 : decode cX4_load 62 = .ok (.getfield 32, 3) := by decide +kernel
theorem dX4_load_65 : decode cX4_load 65 = .ok (.iload_n 1, 1) := by decide +kernel
theorem dX4_load_66 : decode cX4_load 66 = .ok (.invokevirtual 46, 3) := by decide +kernel
theorem dX4_load_69 : decode cX4_load 69 = .ok (.putfield 68, 3) := by decide +kernel
theorem dX4_load_72 : decode cX4_load 72 = .ok (.return_, 1) := by decide +kernel
theorem dX4_keep_0 : decode cX4_keep 0 = .ok (.aload_n 0, 1) := by decide +kernel
theorem dX4_keep_1 : decode cX4_keep 1 = .ok (.getfield 23, 3) := by decide +kernel
theorem dX4_keep_4 : decode cX4_keep 4 = .ok (.iload_n 1, 1) := by decide +kernel
theorem dX4_keep_5 : decode cX4_keep 5 = .ok (.aload_n 2, 1) := by decide +kernel
theorem dX4_keep_6 : decode cX4_keep 6 = .ok (.getfield 59, 3) := by decide +kernel
theorem dX4_keep_9 : decode cX4_keep 9 = .ok (.invokevirtual 70, 3) := by decide +kernel
theorem dX4_keep_12 : decode cX4_keep 12 = .ok (.aload_n 0, 1) := by decide +kernel
theorem dX4_keep_13 : decode cX4_keep 13 = .ok (.getfield 26, 3) := by decide +kernel
theorem dX4_keep_16 : decode cX4_keep 16 = .ok (.iload_n 1, 1) := by decide +kernel
theorem dX4_keep_17 : decode cX4_keep 17 = .ok (.aload_n 2, 1) := by decide +kernel
theorem dX4_keep_18 : decode cX4_keep 18 = .ok (.getfield 62, 3) := by decide +kernel
theorem dX4_keep_21 : decode cX4_keep 21 = .ok (.invokevirtual 70, 3) := by decide +kernel
theorem dX4_keep_24 : decode cX4_keep 24 = .ok (.aload_n 0, 1) := by decide +kernel
theorem dX4_keep_25 : decode cX4_keep 25 = .ok (.getfield 29, 3) := by decide +kernel
theorem dX4_keep_28 : decode cX4_keep 28 = .ok (.iload_n 1, 1) := by decide +kernel
theorem dX4_keep_29 : decode cX4_keep 29 = .ok (.aload_n 2, 1) := by decide +kernel
theorem dX4_keep_30 : decode cX4_keep 30 = .ok (.getfield 65, 3) := by decide +kernel
theorem dX4_keep_33 : decode cX4_keep 33 = .ok (.invokevirtual 70, 3) := by decide +kernel
theorem dX4_keep_36 : decode cX4_keep 36 = .ok (.aload_n 0, 1) := by decide +kernel
theorem dX4_keep_37 : decode cX4_keep 37 = .ok (.getfield 32, 3) := by decide +kernel
theorem dX4_keep_40 : decode cX4_keep 40 = .ok (.iload_n 1, 1) := by decide +kernel
theorem dX4_keep_41 : decode cX4_keep 41 = .ok (.aload_n 2, 1) := by decide +kernel
theorem dX4_keep_42 : decode cX4_keep 42 = .ok (.getfield 68, 3) := by decide +kernel
theorem dX4_keep_45 : decode cX4_keep 45 = .ok (.invokevirtual 70, 3) := by decide +kernel
theorem dX4_keep_48 : decode cX4_keep 48 = .ok (.return_, 1) := by decide +kernel
theorem dX4_knownBy_0 : decode cX4_knownBy 0 = .ok (.iconst 0, 1) := by decide +kernel
theorem dX4_knownBy_1 : decode cX4_knownBy 1 = .ok (.istore_n 3, 1) := by decide +kernel
theorem dX4_knownBy_2 : decode cX4_knownBy 2 = .ok (.iconst 0, 1) := by decide +kernel
theorem dX4_knownBy_3 : decode cX4_knownBy 3 = .ok (.istore 4, 2) := by decide +kernel
theorem dX4_knownBy_5 : decode cX4_knownBy 5 = .ok (.iload 4, 2) := by decide +kernel
theorem dX4_knownBy_7 : decode cX4_knownBy 7 = .ok (.aload_n 0, 1) := by decide +kernel
theorem dX4_knownBy_8 : decode cX4_knownBy 8 = .ok (.invokevirtual 74, 3) := by decide +kernel
theorem dX4_knownBy_11 : decode cX4_knownBy 11 = .ok (.if_icmp .ge 35, 3) := by decide +kernel
theorem dX4_knownBy_14 : decode cX4_knownBy 14 = .ok (.iload_n 3, 1) := by decide +kernel
theorem dX4_knownBy_15 : decode cX4_knownBy 15 = .ok (.iload 4, 2) := by decide +kernel
theorem dX4_knownBy_17 : decode cX4_knownBy 17 = .ok (.aload_n 2, 1) := by decide +kernel
theorem dX4_knownBy_18 : decode cX4_knownBy 18 = .ok (.iload 4, 2) := by decide +kernel
theorem dX4_knownBy_20 : decode cX4_knownBy 20 = .ok (.invokevirtual 46, 3) := by decide +kernel
theorem dX4_knownBy_23 : decode cX4_knownBy 23 = .ok (.iload_n 1, 1) := by decide +kernel
theorem dX4_knownBy_24 : decode cX4_knownBy 24 = .ok (.invokestatic 75, 3) := by decide +kernel
theorem dX4_knownBy_27 : decode cX4_knownBy 27 = .ok (.iconst 1, 1) := by decide +kernel
theorem dX4_knownBy_28 : decode cX4_knownBy 28 = .ok (.if_icmp .ne 7, 3) := by decide +kernel
theorem dX4_knownBy_31 : decode cX4_knownBy 31 = .ok (.iconst 1, 1) := by decide +kernel
theorem dX4_knownBy_32 : decode cX4_knownBy 32 = .ok (.goto 4, 3) := by decide +kernel
theorem dX4_knownBy_35 : decode cX4_knownBy 35 = .ok (.iconst 0, 1) := by decide +kernel
theorem dX4_knownBy_36 : decode cX4_knownBy 36 = .ok (.invokestatic 79, 3) := by decide +kernel
theorem dX4_knownBy_39 : decode cX4_knownBy 39 = .ok (.istore_n 3, 1) := by decide +kernel
theorem dX4_knownBy_40 : decode cX4_knownBy 40 = .ok (.iinc 4 1, 3) := by decide +kernel
theorem dX4_knownBy_43 : decode cX4_knownBy 43 = .ok (.goto (-38), 3) := by decide +kernel
theorem dX4_knownBy_46 : decode cX4_knownBy 46 = .ok (.iload_n 3, 1) := by decide +kernel
theorem dX4_knownBy_47 : decode cX4_knownBy 47 = .ok (.ireturn, 1) := by decide +kernel
theorem dX4_learnt_0 : decode cX4_learnt 0 = .ok (.iconst 0, 1) := by decide +kernel
theorem dX4_learnt_1 : decode cX4_learnt 1 = .ok (.istore_n 3, 1) := by decide +kernel
theorem dX4_learnt_2 : decode cX4_learnt 2 = .ok (.iload_n 3, 1) := by decide +kernel
theorem dX4_learnt_3 : decode cX4_learnt 3 = .ok (.aload_n 0, 1) := by decide +kernel
theorem dX4_learnt_4 : decode cX4_learnt 4 = .ok (.invokevirtual 74, 3) := by decide +kernel
theorem dX4_learnt_7 : decode cX4_learnt 7 = .ok (.if_icmp .ge 43, 3) := by decide +kernel
theorem dX4_learnt_10 : decode cX4_learnt 10 = .ok (.aload_n 0, 1) := by decide +kernel
theorem dX4_learnt_11 : decode cX4_learnt 11 = .ok (.getfield 32, 3) := by decide +kernel
theorem dX4_learnt_14 : decode cX4_learnt 14 = .ok (.iload_n 3, 1) := by decide +kernel
theorem dX4_learnt_15 : decode cX4_learnt 15 = .ok (.aload_n 0, 1) := by decide +kernel
theorem dX4_learnt_16 : decode cX4_learnt 16 = .ok (.getfield 32, 3) := by decide +kernel
theorem dX4_learnt_19 : decode cX4_learnt 19 = .ok (.iload_n 3, 1) := by decide +kernel
theorem dX4_learnt_20 : decode cX4_learnt 20 = .ok (.invokevirtual 46, 3) := by decide +kernel
theorem dX4_learnt_23 : decode cX4_learnt 23 = .ok (.iload_n 1, 1) := by decide +kernel
theorem dX4_learnt_24 : decode cX4_learnt 24 = .ok (.iload_n 2, 1) := by decide +kernel
theorem dX4_learnt_25 : decode cX4_learnt 25 = .ok (.iload_n 3, 1) := by decide +kernel
theorem dX4_learnt_26 : decode cX4_learnt 26 = .ok (.invokestatic 75, 3) := by decide +kernel
theorem dX4_learnt_29 : decode cX4_learnt 29 = .ok (.iconst 1, 1) := by decide +kernel
theorem dX4_learnt_30 : decode cX4_learnt 30 = .ok (.if_icmp .ne 7, 3) := by decide +kernel
theorem dX4_learnt_33 : decode cX4_learnt 33 = .ok (.iconst 1, 1) := by decide +kernel
theorem dX4_learnt_34 : decode cX4_learnt 34 = .ok (.goto 4, 3) := by decide +kernel
theorem dX4_learnt_37 : decode cX4_learnt 37 = .ok (.iconst 0, 1) := by decide +kernel
theorem dX4_learnt_38 : decode cX4_learnt 38 = .ok (.invokestatic 79, 3) := by decide +kernel
theorem dX4_learnt_41 : decode cX4_learnt 41 = .ok (.invokevirtual 70, 3) := by decide +kernel
theorem dX4_learnt_44 : decode cX4_learnt 44 = .ok (.iinc 3 1, 3) := by decide +kernel
theorem dX4_learnt_47 : decode cX4_learnt 47 = .ok (.goto (-45), 3) := by decide +kernel
theorem dX4_learnt_50 : decode cX4_learnt 50 = .ok (.return_, 1) := by decide +kernel
theorem dX4_allStrength_0 : decode cX4_allStrength 0 = .ok (.iconst 0, 1) := by decide +kernel
theorem dX4_allStrength_1 : decode cX4_allStrength 1 = .ok (.istore_n 1, 1) := by decide +kernel
theorem dX4_allStrength_2 : decode cX4_allStrength 2 = .ok (.iconst 0, 1) := by decide +kernel
theorem dX4_allStrength_3 : decode cX4_allStrength 3 = .ok (.istore_n 2, 1) := by decide +kernel
theorem dX4_allStrength_4 : decode cX4_allStrength 4 = .ok (.iload_n 2, 1) := by decide +kernel
theorem dX4_allStrength_5 : decode cX4_allStrength 5 = .ok (.aload_n 0, 1) := by decide +kernel
theorem dX4_allStrength_6 : decode cX4_allStrength 6 = .ok (.invokevirtual 74, 3) := by decide +kernel
theorem dX4_allStrength_9 : decode cX4_allStrength 9 = .ok (.if_icmp .ge 20, 3) := by decide +kernel
theorem dX4_allStrength_12 : decode cX4_allStrength 12 = .ok (.iload_n 1, 1) := by decide +kernel
theorem dX4_allStrength_13 : decode cX4_allStrength 13 = .ok (.aload_n 0, 1) := by decide +kernel
theorem dX4_allStrength_14 : decode cX4_allStrength 14 = .ok (.getfield 26, 3) := by decide +kernel
theorem dX4_allStrength_17 : decode cX4_allStrength 17 = .ok (.iload_n 2, 1) := by decide +kernel
theorem dX4_allStrength_18 : decode cX4_allStrength 18 = .ok (.invokevirtual 46, 3) := by decide +kernel
theorem dX4_allStrength_21 : decode cX4_allStrength 21 = .ok (.iadd, 1) := by decide +kernel
theorem dX4_allStrength_22 : decode cX4_allStrength 22 = .ok (.istore_n 1, 1) := by decide +kernel
theorem dX4_allStrength_23 : decode cX4_allStrength 23 = .ok (.iinc 2 1, 3) := by decide +kernel
theorem dX4_allStrength_26 : decode cX4_allStrength 26 = .ok (.goto (-22), 3) := by decide +kernel
theorem dX4_allStrength_29 : decode cX4_allStrength 29 = .ok (.iload_n 1, 1) := by decide +kernel
theorem dX4_allStrength_30 : decode cX4_allStrength 30 = .ok (.ireturn, 1) := by decide +kernel
theorem dX4_allKnowers_0 : decode cX4_allKnowers 0 = .ok (.iconst 0, 1) := by decide +kernel
theorem dX4_allKnowers_1 : decode cX4_allKnowers 1 = .ok (.istore_n 1, 1) := by decide +kernel
theorem dX4_allKnowers_2 : decode cX4_allKnowers 2 = .ok (.iconst 0, 1) := by decide +kernel
theorem dX4_allKnowers_3 : decode cX4_allKnowers 3 = .ok (.istore_n 2, 1) := by decide +kernel
theorem dX4_allKnowers_4 : decode cX4_allKnowers 4 = .ok (.iload_n 2, 1) := by decide +kernel
theorem dX4_allKnowers_5 : decode cX4_allKnowers 5 = .ok (.aload_n 0, 1) := by decide +kernel
theorem dX4_allKnowers_6 : decode cX4_allKnowers 6 = .ok (.invokevirtual 74, 3) := by decide +kernel
theorem dX4_allKnowers_9 : decode cX4_allKnowers 9 = .ok (.if_icmp .ge 20, 3) := by decide +kernel
theorem dX4_allKnowers_12 : decode cX4_allKnowers 12 = .ok (.iload_n 1, 1) := by decide +kernel
theorem dX4_allKnowers_13 : decode cX4_allKnowers 13 = .ok (.aload_n 0, 1) := by decide +kernel
theorem dX4_allKnowers_14 : decode cX4_allKnowers 14 = .ok (.getfield 32, 3) := by decide +kernel
theorem dX4_allKnowers_17 : decode cX4_allKnowers 17 = .ok (.iload_n 2, 1) := by decide +kernel
theorem dX4_allKnowers_18 : decode cX4_allKnowers 18 = .ok (.invokevirtual 46, 3) := by decide +kernel
theorem dX4_allKnowers_21 : decode cX4_allKnowers 21 = .ok (.ior, 1) := by decide +kernel
theorem dX4_allKnowers_22 : decode cX4_allKnowers 22 = .ok (.istore_n 1, 1) := by decide +kernel
theorem dX4_allKnowers_23 : decode cX4_allKnowers 23 = .ok (.iinc 2 1, 3) := by decide +kernel
theorem dX4_allKnowers_26 : decode cX4_allKnowers 26 = .ok (.goto (-22), 3) := by decide +kernel
theorem dX4_allKnowers_29 : decode cX4_allKnowers 29 = .ok (.iload_n 1, 1) := by decide +kernel
theorem dX4_allKnowers_30 : decode cX4_allKnowers 30 = .ok (.ireturn, 1) := by decide +kernel
theorem dX4_copyFrom_0 : decode cX4_copyFrom 0 = .ok (.aload_n 0, 1) := by decide +kernel
theorem dX4_copyFrom_1 : decode cX4_copyFrom 1 = .ok (.getfield 14, 3) := by decide +kernel
theorem dX4_copyFrom_4 : decode cX4_copyFrom 4 = .ok (.aload_n 1, 1) := by decide +kernel
theorem dX4_copyFrom_5 : decode cX4_copyFrom 5 = .ok (.getfield 14, 3) := by decide +kernel
theorem dX4_copyFrom_8 : decode cX4_copyFrom 8 = .ok (.invokevirtual 83, 3) := by decide +kernel
theorem dX4_copyFrom_11 : decode cX4_copyFrom 11 = .ok (.aload_n 0, 1) := by decide +kernel
theorem dX4_copyFrom_12 : decode cX4_copyFrom 12 = .ok (.getfield 20, 3) := by decide +kernel
theorem dX4_copyFrom_15 : decode cX4_copyFrom 15 = .ok (.aload_n 1, 1) := by decide +kernel
theorem dX4_copyFrom_16 : decode cX4_copyFrom 16 = .ok (.getfield 20, 3) := by decide +kernel
theorem dX4_copyFrom_19 : decode cX4_copyFrom 19 = .ok (.invokevirtual 83, 3) := by decide +kernel
theorem dX4_copyFrom_22 : decode cX4_copyFrom 22 = .ok (.aload_n 0, 1) := by decide +kernel
theorem dX4_copyFrom_23 : decode cX4_copyFrom 23 = .ok (.getfield 23, 3) := by decide +kernel
theorem dX4_copyFrom_26 : decode cX4_copyFrom 26 = .ok (.aload_n 1, 1) := by decide +kernel
theorem dX4_copyFrom_27 : decode cX4_copyFrom 27 = .ok (.getfield 23, 3) := by decide +kernel
theorem dX4_copyFrom_30 : decode cX4_copyFrom 30 = .ok (.invokevirtual 83, 3) := by decide +kernel
theorem dX4_copyFrom_33 : decode cX4_copyFrom 33 = .ok (.aload_n 0, 1) := by decide +kernel
theorem dX4_copyFrom_34 : decode cX4_copyFrom 34 = .ok (.getfield 26, 3) := by decide +kernel
theorem dX4_copyFrom_37 : decode cX4_copyFrom 37 = .ok (.aload_n 1, 1) := by decide +kernel
theorem dX4_copyFrom_38 : decode cX4_copyFrom 38 = .ok (.getfield 26, 3) := by decide +kernel
theorem dX4_copyFrom_41 : decode cX4_copyFrom 41 = .ok (.invokevirtual 83, 3) := by decide +kernel
theorem dX4_copyFrom_44 : decode cX4_copyFrom 44 = .ok (.aload_n 0, 1) := by decide +kernel
theorem dX4_copyFrom_45 : decode cX4_copyFrom 45 = .ok (.getfield 29, 3) := by decide +kernel
theorem dX4_copyFrom_48 : decode cX4_copyFrom 48 = .ok (.aload_n 1, 1) := by decide +kernel
theorem dX4_copyFrom_49 : decode cX4_copyFrom 49 = .ok (.getfield 29, 3) := by decide +kernel
theorem dX4_copyFrom_52 : decode cX4_copyFrom 52 = .ok (.invokevirtual 83, 3) := by decide +kernel
theorem dX4_copyFrom_55 : decode cX4_copyFrom 55 = .ok (.aload_n 0, 1) := by decide +kernel
theorem dX4_copyFrom_56 : decode cX4_copyFrom 56 = .ok (.getfield 32, 3) := by decide +kernel
theorem dX4_copyFrom_59 : decode cX4_copyFrom 59 = .ok (.aload_n 1, 1) := by decide +kernel
theorem dX4_copyFrom_60 : decode cX4_copyFrom 60 = .ok (.getfield 32, 3) := by decide +kernel
theorem dX4_copyFrom_63 : decode cX4_copyFrom 63 = .ok (.invokevirtual 83, 3) := by decide +kernel
theorem dX4_copyFrom_66 : decode cX4_copyFrom 66 = .ok (.return_, 1) := by decide +kernel
theorem dX5_init_0 : decode cX5_init 0 = .ok (.aload_n 0, 1) := by decide +kernel
theorem dX5_init_1 : decode cX5_init 1 = .ok (.invokespecial 3, 3) := by decide +kernel
theorem dX5_init_4 : decode cX5_init 4 = .ok (.aload_n 0, 1) := by decide +kernel
theorem dX5_init_5 : decode cX5_init 5 = .ok (.iconst 0, 1) := by decide +kernel
theorem dX5_init_6 : decode cX5_init 6 = .ok (.putfield 9, 3) := by decide +kernel
theorem dX5_init_9 : decode cX5_init 9 = .ok (.aload_n 0, 1) := by decide +kernel
theorem dX5_init_10 : decode cX5_init 10 = .ok (.new 15, 3) := by decide +kernel
theorem dX5_init_13 : decode cX5_init 13 = .ok (.dup, 1) := by decide +kernel
theorem dX5_init_14 : decode cX5_init 14 = .ok (.bipush 40, 2) := by decide +kernel
theorem dX5_init_16 : decode cX5_init 16 = .ok (.invokespecial 17, 3) := by decide +kernel
theorem dX5_init_19 : decode cX5_init 19 = .ok (.putfield 20, 3) := by decide +kernel
theorem dX5_init_22 : decode cX5_init 22 = .ok (.return_, 1) := by decide +kernel
theorem dX5_isMissing_0 : decode cX5_isMissing 0 = .ok (.aload_n 0, 1) := by decide +kernel
theorem dX5_isMissing_1 : decode cX5_isMissing 1 = .ok (.getfield 9, 3) := by decide +kernel
theorem dX5_isMissing_4 : decode cX5_isMissing 4 = .ok (.ifCond .ne 7, 3) := by decide +kernel
theorem dX5_isMissing_7 : decode cX5_isMissing 7 = .ok (.iconst 1, 1) := by decide +kernel
theorem dX5_isMissing_8 : decode cX5_isMissing 8 = .ok (.goto 4, 3) := by decide +kernel
theorem dX5_isMissing_11 : decode cX5_isMissing 11 = .ok (.iconst 0, 1) := by decide +kernel
theorem dX5_isMissing_12 : decode cX5_isMissing 12 = .ok (.ireturn, 1) := by decide +kernel
theorem dX5_lowest_0 : decode cX5_lowest 0 = .ok (.aload_n 0, 1) := by decide +kernel
theorem dX5_lowest_1 : decode cX5_lowest 1 = .ok (.getfield 9, 3) := by decide +kernel
theorem dX5_lowest_4 : decode cX5_lowest 4 = .ok (.bipush 8, 2) := by decide +kernel
theorem dX5_lowest_6 : decode cX5_lowest 6 = .ok (.if_icmp .ne 6, 3) := by decide +kernel
theorem dX5_lowest_9 : decode cX5_lowest 9 = .ok (.iload_n 1, 1) := by decide +kernel
theorem dX5_lowest_10 : decode cX5_lowest 10 = .ok (.i2b, 1) := by decide +kernel
theorem dX5_lowest_11 : decode cX5_lowest 11 = .ok (.ireturn, 1) := by decide +kernel
theorem dX5_lowest_12 : decode cX5_lowest 12 = .ok (.aload_n 0, 1) := by decide +kernel
theorem dX5_lowest_13 : decode cX5_lowest 13 = .ok (.getfield 9, 3) := by decide +kernel
theorem dX5_lowest_16 : decode cX5_lowest 16 = .ok (.bipush 16, 2) := by decide +kernel
theorem dX5_lowest_18 : decode cX5_lowest 18 = .ok (.if_icmp .ne 8, 3) := by decide +kernel
theorem dX5_lowest_21 : decode cX5_lowest 21 = .ok (.iload_n 1, 1) := by decide +kernel
theorem dX5_lowest_22 : decode cX5_lowest 22 = .ok (.i2s, 1) := by decide +kernel
theorem dX5_lowest_23 : decode cX5_lowest 23 = .ok (.goto 4, 3) := by decide +kernel
theorem dX5_lowest_26 : decode cX5_lowest 26 = .ok (.iload_n 1, 1) := by decide +kernel
theorem dX5_lowest_27 : decode cX5_lowest 27 = .ok (.ireturn, 1) := by decide +kernel
theorem dX5_tellsOf_0 : decode cX5_tellsOf 0 = .ok (.aload_n 0, 1) := by decide +kernel
theorem dX5_tellsOf_1 : decode cX5_tellsOf 1 = .ok (.invokevirtual 24, 3) := by decide +kernel
theorem dX5_tellsOf_4 : decode cX5_tellsOf 4 = .ok (.ifCond .ne 18, 3) := by decide +kernel
theorem dX5_tellsOf_7 : decode cX5_tellsOf 7 = .ok (.aload_n 0, 1) := by decide +kernel
theorem dX5_tellsOf_8 : decode cX5_tellsOf 8 = .ok (.getfield 20, 3) := by decide +kernel
theorem dX5_tellsOf_11 : decode cX5_tellsOf 11 = .ok (.invokevirtual 28, 3) := by decide +kernel
theorem dX5_tellsOf_14 : decode cX5_tellsOf 14 = .ok (.iload_n 1, 1) := by decide +kernel
theorem dX5_tellsOf_15 : decode cX5_tellsOf 15 = .ok (.if_icmp .ne 7, 3) := by decide +kernel
theorem dX5_tellsOf_18 : decode cX5_tellsOf 18 = .ok (.iconst 1, 1) := by decide +kernel
theorem dX5_tellsOf_19 : decode cX5_tellsOf 19 = .ok (.goto 4, 3) := by decide +kernel
theorem dX5_tellsOf_22 : decode cX5_tellsOf 22 = .ok (.iconst 0, 1) := by decide +kernel
theorem dX5_tellsOf_23 : decode cX5_tellsOf 23 = .ok (.ireturn, 1) := by decide +kernel
theorem dX5_fits_0 : decode cX5_fits 0 = .ok (.iconst 0, 1) := by decide +kernel
theorem dX5_fits_1 : decode cX5_fits 1 = .ok (.istore_n 2, 1) := by decide +kernel
theorem dX5_fits_2 : decode cX5_fits 2 = .ok (.iload_n 2, 1) := by decide +kernel
theorem dX5_fits_3 : decode cX5_fits 3 = .ok (.aload_n 0, 1) := by decide +kernel
theorem dX5_fits_4 : decode cX5_fits 4 = .ok (.getfield 20, 3) := by decide +kernel
theorem dX5_fits_7 : decode cX5_fits 7 = .ok (.invokevirtual 28, 3) := by decide +kernel
theorem dX5_fits_10 : decode cX5_fits 10 = .ok (.if_icmp .ge 33, 3) := by decide +kernel
theorem dX5_fits_13 : decode cX5_fits 13 = .ok (.aload_n 0, 1) := by decide +kernel
theorem dX5_fits_14 : decode cX5_fits 14 = .ok (.getfield 20, 3) := by decide +kernel
theorem dX5_fits_17 : decode cX5_fits 17 = .ok (.iload_n 2, 1) := by decide +kernel
theorem dX5_fits_18 : decode cX5_fits 18 = .ok (.invokevirtual 32, 3) := by decide +kernel
theorem dX5_fits_21 : decode cX5_fits 21 = .ok (.istore_n 3, 1) := by decide +kernel
theorem dX5_fits_22 : decode cX5_fits 22 = .ok (.iload_n 3, 1) := by decide +kernel
theorem dX5_fits_23 : decode cX5_fits 23 = .ok (.ifCond .lt 14, 3) := by decide +kernel
theorem dX5_fits_26 : decode cX5_fits 26 = .ok (.iload_n 3, 1) := by decide +kernel
theorem dX5_fits_27 : decode cX5_fits 27 = .ok (.iload_n 1, 1) := by decide +kernel
theorem dX5_fits_28 : decode cX5_fits 28 = .ok (.iload_n 2, 1) := by decide +kernel
theorem dX5_fits_29 : decode cX5_fits 29 = .ok (.invokestatic 36, 3) := by decide +kernel
theorem dX5_fits_32 : decode cX5_fits 32 = .ok (.if_icmp .eq 5, 3) := by decide +kernel
theorem dX5_fits_35 : decode cX5_fits 35 = .ok (.iconst 0, 1) := by decide +kernel
theorem dX5_fits_36 : decode cX5_fits 36 = .ok (.ireturn, 1) := by decide +kernel
theorem dX5_fits_37 : decode cX5_fits 37 = .ok (.iinc 2 1, 3) := by decide +kernel
theorem dX5_fits_40 : decode cX5_fits 40 = .ok (.goto (-38), 3) := by decide +kernel
theorem dX5_fits_43 : decode cX5_fits 43 = .ok (.iconst 1, 1) := by decide +kernel
theorem dX5_fits_44 : decode cX5_fits 44 = .ok (.ireturn, 1) := by decide +kernel
theorem dX6_init_0 : decode cX6_init 0 = .ok (.aload_n 0, 1) := by decide +kernel
theorem dX6_init_1 : decode cX6_init 1 = .ok (.invokespecial 3, 3) := by decide +kernel
theorem dX6_init_4 : decode cX6_init 4 = .ok (.aload_n 0, 1) := by decide +kernel
theorem dX6_init_5 : decode cX6_init 5 = .ok (.new 9, 3) := by decide +kernel
theorem dX6_init_8 : decode cX6_init 8 = .ok (.dup, 1) := by decide +kernel
theorem dX6_init_9 : decode cX6_init 9 = .ok (.bipush 50, 2) := by decide +kernel
theorem dX6_init_11 : decode cX6_init 11 = .ok (.invokespecial 11, 3) := by decide +kernel
theorem dX6_init_14 : decode cX6_init 14 = .ok (.putfield 14, 3) := by decide +kernel
theorem dX6_init_17 : decode cX6_init 17 = .ok (.aload_n 0, 1) := by decide +kernel
theorem dX6_init_18 : decode cX6_init 18 = .ok (.new 9, 3) := by decide +kernel
theorem dX6_init_21 : decode cX6_init 21 = .ok (.dup, 1) := by decide +kernel
theorem dX6_init_22 : decode cX6_init 22 = .ok (.bipush 50, 2) := by decide +kernel
theorem dX6_init_24 : decode cX6_init 24 = .ok (.invokespecial 11, 3) := by decide +kernel
theorem dX6_init_27 : decode cX6_init 27 = .ok (.putfield 20, 3) := by decide +kernel
theorem dX6_init_30 : decode cX6_init 30 = .ok (.aload_n 0, 1) := by decide +kernel
theorem dX6_init_31 : decode cX6_init 31 = .ok (.iload_n 1, 1) := by decide +kernel
theorem dX6_init_32 : decode cX6_init 32 = .ok (.putfield 23, 3) := by decide +kernel
theorem dX6_init_35 : decode cX6_init 35 = .ok (.return_, 1) := by decide +kernel
theorem dX6_gives_0 : decode cX6_gives 0 = .ok (.aload_n 0, 1) := by decide +kernel
theorem dX6_gives_1 : decode cX6_gives 1 = .ok (.getfield 14, 3) := by decide +kernel
theorem dX6_gives_4 : decode cX6_gives 4 = .ok (.invokevirtual 27, 3) := by decide +kernel
theorem dX6_gives_7 : decode cX6_gives 7 = .ok (.ifCond .ne 24, 3) := by decide +kernel
theorem dX6_gives_10 : decode cX6_gives 10 = .ok (.aload_n 0, 1) := by decide +kernel
theorem dX6_gives_11 : decode cX6_gives 11 = .ok (.aload_n 0, 1) := by decide +kernel
theorem dX6_gives_12 : decode cX6_gives 12 = .ok (.getfield 23, 3) := by decide +kernel
theorem dX6_gives_15 : decode cX6_gives 15 = .ok (.ifCond .ne 11, 3) := by decide +kernel
theorem dX6_gives_18 : decode cX6_gives 18 = .ok (.iconst 1, 1) := by decide +kernel
theorem dX6_gives_19 : decode cX6_gives 19 = .ok (.iload_n 3, 1) := by decide +kernel
theorem dX6_gives_20 : decode cX6_gives 20 = .ok (.iconst 2, 1) := by decide +kernel
theorem dX6_gives_21 : decode cX6_gives 21 = .ok (.idiv, 1) := by decide +kernel
theorem dX6_gives_22 : decode cX6_gives 22 = .ok (.iadd, 1) := by decide +kernel
theorem dX6_gives_23 : decode cX6_gives 23 = .ok (.goto 4, 3) := by decide +kernel
theorem dX6_gives_26 : decode cX6_gives 26 = .ok (.iconst 1, 1) := by decide +kernel
theorem dX6_gives_27 : decode cX6_gives 27 = .ok (.invokevirtual 31, 3) := by decide +kernel
theorem dX6_gives_30 : decode cX6_gives 30 = .ok (.ireturn, 1) := by decide +kernel
theorem dX6_gives_31 : decode cX6_gives 31 = .ok (.aload_n 0, 1) := by decide +kernel
theorem dX6_gives_32 : decode cX6_gives 32 = .ok (.getfield 20, 3) := by decide +kernel
theorem dX6_gives_35 : decode cX6_gives 35 = .ok (.invokevirtual 35, 3) := by decide +kernel
theorem dX6_gives_38 : decode cX6_gives 38 = .ok (.iconst 0, 1) := by decide +kernel
theorem dX6_gives_39 : decode cX6_gives 39 = .ok (.istore 4, 2) := by decide +kernel
theorem dX6_gives_41 : decode cX6_gives 41 = .ok (.iload 4, 2) := by decide +kernel
theorem dX6_gives_43 : decode cX6_gives 43 = .ok (.aload_n 0, 1) := by decide +kernel
theorem dX6_gives_44 : decode cX6_gives 44 = .ok (.getfield 14, 3) := by decide +kernel
theorem dX6_gives_47 : decode cX6_gives 47 = .ok (.invokevirtual 27, 3) := by decide +kernel
theorem dX6_gives_50 : decode cX6_gives 50 = .ok (.if_icmp .ge 143, 3) := by decide +kernel
theorem dX6_gives_53 : decode cX6_gives 53 = .ok (.aload_n 0, 1) := by decide +kernel
theorem dX6_gives_54 : decode cX6_gives 54 = .ok (.getfield 14, 3) := by decide +kernel
theorem dX6_gives_57 : decode cX6_gives 57 = .ok (.iload 4, 2) := by decide +kernel
theorem dX6_gives_59 : decode cX6_gives 59 = .ok (.invokevirtual 38, 3) := by decide +kernel
theorem dX6_gives_62 : decode cX6_gives 62 = .ok (.istore 5, 2) := by decide +kernel
theorem dX6_gives_64 : decode cX6_gives 64 = .ok (.iload 5, 2) := by decide +kernel
theorem dX6_gives_66 : decode cX6_gives 66 = .ok (.ifCond .lt 15, 3) := by decide +kernel
theorem dX6_gives_69 : decode cX6_gives 69 = .ok (.aload_n 0, 1) := by decide +kernel
theorem dX6_gives_70 : decode cX6_gives 70 = .ok (.getfield 20, 3) := by decide +kernel
theorem dX6_gives_73 : decode cX6_gives 73 = .ok (.iload 5, 2) := by decide +kernel
theorem dX6_gives_75 : decode cX6_gives 75 = .ok (.invokevirtual 41, 3) := by decide +kernel
theorem dX6_gives_78 : decode cX6_gives 78 = .ok (.goto 109, 3) := by decide +kernel
theorem dX6_gives_81 : decode cX6_gives 81 = .ok (.iload 5, 2) := by decide +kernel
theorem dX6_gives_83 : decode cX6_gives 83 = .ok (.bipush (-3), 2) := by decide +kernel
theorem dX6_gives_85 : decode cX6_gives 85 = .ok (.if_icmp .lt 35, 3) := by decide +kernel
theorem dX6_gives_88 : decode cX6_gives 88 = .ok (.aload_n 0, 1) := by decide +kernel
theorem dX6_gives_89 : decode cX6_gives 89 = .ok (.getfield 20, 3) := by decide +kernel
theorem dX6_gives_92 : decode cX6_gives 92 = .ok (.iload 5, 2) := by decide +kernel
theorem dX6_gives_94 : decode cX6_gives 94 = .ok (.iconst (-1), 1) := by decide +kernel
theorem dX6_gives_95 : decode cX6_gives 95 = .ok (.if_icmp .ne 7, 3) := by decide +kernel
theorem dX6_gives_98 : decode cX6_gives 98 = .ok (.iload_n 1, 1) := by decide +kernel
theorem dX6_gives_99 : decode cX6_gives 99 = .ok (.goto 15, 3) := by decide +kernel
theorem dX6_gives_102 : decode cX6_gives 102 = .ok (.iload 5, 2) := by decide +kernel
theorem dX6_gives_104 : decode cX6_gives 104 = .ok (.bipush (-2), 2) := by decide +kernel
theorem dX6_gives_106 : decode cX6_gives 106 = .ok (.if_icmp .ne 7, 3) := by decide +kernel
theorem dX6_gives_109 : decode cX6_gives 109 = .ok (.iload_n 2, 1) := by decide +kernel
theorem dX6_gives_110 : decode cX6_gives 110 = .ok (.goto 4, 3) := by decide +kernel
theorem dX6_gives_113 : decode cX6_gives 113 = .ok (.iload_n 3, 1) := by decide +kernel
theorem dX6_gives_114 : decode cX6_gives 114 = .ok (.invokevirtual 41, 3) := by decide +kernel
theorem dX6_gives_117 : decode cX6_gives 117 = .ok (.goto 70, 3) := by decide +kernel
theorem dX6_gives_120 : decode cX6_gives 120 = .ok (.iload 5, 2) := by decide +kernel
theorem dX6_gives_122 : decode cX6_gives 122 = .ok (.bipush (-33), 2) := by decide +kernel
theorem dX6_gives_124 : decode cX6_gives 124 = .ok (.if_icmp .ne 28, 3) := by decide +kernel
theorem dX6_gives_127 : decode cX6_gives 127 = .ok (.aload_n 0, 1) := by decide +kernel
theorem dX6_gives_128 : decode cX6_gives 128 = .ok (.getfield 20, 3) := by decide +kernel
theorem dX6_gives_131 : decode cX6_gives 131 = .ok (.aload_n 0, 1) := by decide +kernel
theorem dX6_gives_132 : decode cX6_gives 132 = .ok (.getfield 20, 3) := by decide +kernel
theorem dX6_gives_135 : decode cX6_gives 135 = .ok (.invokevirtual 44, 3) := by decide +kernel
theorem dX6_gives_138 : decode cX6_gives 138 = .ok (.ifCond .ne 7, 3) := by decide +kernel
theorem dX6_gives_141 : decode cX6_gives 141 = .ok (.iconst 1, 1) := by decide +kernel
theorem dX6_gives_142 : decode cX6_gives 142 = .ok (.goto 4, 3) := by decide +kernel
theorem dX6_gives_145 : decode cX6_gives 145 = .ok (.iconst 0, 1) := by decide +kernel
theorem dX6_gives_146 : decode cX6_gives 146 = .ok (.invokevirtual 41, 3) := by decide +kernel
theorem dX6_gives_149 : decode cX6_gives 149 = .ok (.goto 38, 3) := by decide +kernel
theorem dX6_gives_152 : decode cX6_gives 152 = .ok (.aload_n 0, 1) := by decide +kernel
theorem dX6_gives_153 : decode cX6_gives 153 = .ok (.getfield 20, 3) := by decide +kernel
theorem dX6_gives_156 : decode cX6_gives 156 = .ok (.invokevirtual 44, 3) := by decide +kernel
theorem dX6_gives_159 : decode cX6_gives 159 = .ok (.istore 6, 2) := by decide +kernel
theorem dX6_gives_161 : decode cX6_gives 161 = .ok (.aload_n 0, 1) := by decide +kernel
theorem dX6_gives_162 : decode cX6_gives 162 = .ok (.getfield 20, 3) := by decide +kernel
theorem dX6_gives_165 : decode cX6_gives 165 = .ok (.invokevirtual 44, 3) := by decide +kernel
theorem dX6_gives_168 : decode cX6_gives 168 = .ok (.istore 7, 2) := by decide +kernel
theorem dX6_gives_170 : decode cX6_gives 170 = .ok (.aload_n 0, 1) := by decide +kernel
theorem dX6_gives_171 : decode cX6_gives 171 = .ok (.getfield 20, 3) := by decide +kernel
theorem dX6_gives_174 : decode cX6_gives 174 = .ok (.iload 7, 2) := by decide +kernel
theorem dX6_gives_176 : decode cX6_gives 176 = .ok (.iload 5, 2) := by decide +kernel
theorem dX6_gives_178 : decode cX6_gives 178 = .ok (.ineg, 1) := by decide +kernel
theorem dX6_gives_179 : decode cX6_gives 179 = .ok (.iload 6, 2) := by decide +kernel
theorem dX6_gives_181 : decode cX6_gives 181 = .ok (.invokestatic 47, 3) := by decide +kernel
theorem dX6_gives_184 : decode cX6_gives 184 = .ok (.invokevirtual 41, 3) := by decide +kernel
theorem dX6_gives_187 : decode cX6_gives 187 = .ok (.iinc 4 1, 3) := by decide +kernel
theorem dX6_gives_190 : decode cX6_gives 190 = .ok (.goto (-149), 3) := by decide +kernel
theorem dX6_gives_193 : decode cX6_gives 193 = .ok (.aload_n 0, 1) := by decide +kernel
theorem dX6_gives_194 : decode cX6_gives 194 = .ok (.aload_n 0, 1) := by decide +kernel
theorem dX6_gives_195 : decode cX6_gives 195 = .ok (.getfield 20, 3) := by decide +kernel
theorem dX6_gives_198 : decode cX6_gives 198 = .ok (.invokevirtual 44, 3) := by decide +kernel
theorem dX6_gives_201 : decode cX6_gives 201 = .ok (.invokevirtual 31, 3) := by decide +kernel
theorem dX6_gives_204 : decode cX6_gives 204 = .ok (.ireturn, 1) := by decide +kernel
theorem dX6_held_0 : decode cX6_held 0 = .ok (.aload_n 0, 1) := by decide +kernel
theorem dX6_held_1 : decode cX6_held 1 = .ok (.getfield 23, 3) := by decide +kernel
theorem dX6_held_4 : decode cX6_held 4 = .ok (.ifCond .ne 8, 3) := by decide +kernel
theorem dX6_held_7 : decode cX6_held 7 = .ok (.bipush 99, 2) := by decide +kernel
theorem dX6_held_9 : decode cX6_held 9 = .ok (.goto 4, 3) := by decide +kernel
theorem dX6_held_12 : decode cX6_held 12 = .ok (.iconst 1, 1) := by decide +kernel
theorem dX6_held_13 : decode cX6_held 13 = .ok (.istore_n 2, 1) := by decide +kernel
theorem dX6_held_14 : decode cX6_held 14 = .ok (.iload_n 1, 1) := by decide +kernel
theorem dX6_held_15 : decode cX6_held 15 = .ok (.ifCond .ge 7, 3) := by decide +kernel
theorem dX6_held_18 : decode cX6_held 18 = .ok (.iconst 0, 1) := by decide +kernel
theorem dX6_held_19 : decode cX6_held 19 = .ok (.goto 13, 3) := by decide +kernel
theorem dX6_held_22 : decode cX6_held 22 = .ok (.iload_n 1, 1) := by decide +kernel
theorem dX6_held_23 : decode cX6_held 23 = .ok (.iload_n 2, 1) := by decide +kernel
theorem dX6_held_24 : decode cX6_held 24 = .ok (.if_icmp .le 7, 3) := by decide +kernel
theorem dX6_held_27 : decode cX6_held 27 = .ok (.iload_n 2, 1) := by decide +kernel
theorem dX6_held_28 : decode cX6_held 28 = .ok (.goto 4, 3) := by decide +kernel
theorem dX6_held_31 : decode cX6_held 31 = .ok (.iload_n 1, 1) := by decide +kernel
theorem dX6_held_32 : decode cX6_held 32 = .ok (.ireturn, 1) := by decide +kernel
theorem dX6_joined_0 : decode cX6_joined 0 = .ok (.iload_n 1, 1) := by decide +kernel
theorem dX6_joined_1 : decode cX6_joined 1 = .ok (.lookupswitch 188 #[(37, 176), (38, 105), (42, 160), (43, 152), (45, 156), (47, 164), (60, 119), (61, 130), (62, 141), (124, 91)], 91) := by decide +kernel
theorem dX6_joined_92 : decode cX6_joined 92 = .ok (.iload_n 0, 1) := by decide +kernel
theorem dX6_joined_93 : decode cX6_joined 93 = .ok (.ifCond .ne 7, 3) := by decide +kernel
theorem dX6_joined_96 : decode cX6_joined 96 = .ok (.iload_n 2, 1) := by decide +kernel
theorem dX6_joined_97 : decode cX6_joined 97 = .ok (.ifCond .eq 7, 3) := by decide +kernel
theorem dX6_joined_100 : decode cX6_joined 100 = .ok (.iconst 1, 1) := by decide +kernel
theorem dX6_joined_101 : decode cX6_joined 101 = .ok (.goto 4, 3) := by decide +kernel
theorem dX6_joined_104 : decode cX6_joined 104 = .ok (.iconst 0, 1) := by decide +kernel
theorem dX6_joined_105 : decode cX6_joined 105 = .ok (.ireturn, 1) := by decide +kernel
theorem dX6_joined_106 : decode cX6_joined 106 = .ok (.iload_n 0, 1) := by decide +kernel
theorem dX6_joined_107 : decode cX6_joined 107 = .ok (.ifCond .eq 11, 3) := by decide +kernel
theorem dX6_joined_110 : decode cX6_joined 110 = .ok (.iload_n 2, 1) := by decide +kernel
theorem dX6_joined_111 : decode cX6_joined 111 = .ok (.ifCond .eq 7, 3) := by decide +kernel
theorem dX6_joined_114 : decode cX6_joined 114 = .ok (.iconst 1, 1) := by decide +kernel
theorem dX6_joined_115 : decode cX6_joined 115 = .ok (.goto 4, 3) := by decide +kernel
theorem dX6_joined_118 : decode cX6_joined 118 = .ok (.iconst 0, 1) := by decide +kernel
theorem dX6_joined_119 : decode cX6_joined 119 = .ok (.ireturn, 1) := by decide +kernel
theorem dX6_joined_120 : decode cX6_joined 120 = .ok (.iload_n 0, 1) := by decide +kernel
theorem dX6_joined_121 : decode cX6_joined 121 = .ok (.iload_n 2, 1) := by decide +kernel
theorem dX6_joined_122 : decode cX6_joined 122 = .ok (.if_icmp .ge 7, 3) := by decide +kernel
theorem dX6_joined_125 : decode cX6_joined 125 = .ok (.iconst 1, 1) := by decide +kernel
theorem dX6_joined_126 : decode cX6_joined 126 = .ok (.goto 4, 3) := by decide +kernel
theorem dX6_joined_129 : decode cX6_joined 129 = .ok (.iconst 0, 1) := by decide +kernel
theorem dX6_joined_130 : decode cX6_joined 130 = .ok (.ireturn, 1) := by decide +kernel
theorem dX6_joined_131 : decode cX6_joined 131 = .ok (.iload_n 0, 1) := by decide +kernel
theorem dX6_joined_132 : decode cX6_joined 132 = .ok (.iload_n 2, 1) := by decide +kernel
theorem dX6_joined_133 : decode cX6_joined 133 = .ok (.if_icmp .ne 7, 3) := by decide +kernel
theorem dX6_joined_136 : decode cX6_joined 136 = .ok (.iconst 1, 1) := by decide +kernel
theorem dX6_joined_137 : decode cX6_joined 137 = .ok (.goto 4, 3) := by decide +kernel
theorem dX6_joined_140 : decode cX6_joined 140 = .ok (.iconst 0, 1) := by decide +kernel
theorem dX6_joined_141 : decode cX6_joined 141 = .ok (.ireturn, 1) := by decide +kernel
theorem dX6_joined_142 : decode cX6_joined 142 = .ok (.iload_n 0, 1) := by decide +kernel
theorem dX6_joined_143 : decode cX6_joined 143 = .ok (.iload_n 2, 1) := by decide +kernel
theorem dX6_joined_144 : decode cX6_joined 144 = .ok (.if_icmp .le 7, 3) := by decide +kernel
theorem dX6_joined_147 : decode cX6_joined 147 = .ok (.iconst 1, 1) := by decide +kernel
theorem dX6_joined_148 : decode cX6_joined 148 = .ok (.goto 4, 3) := by decide +kernel
theorem dX6_joined_151 : decode cX6_joined 151 = .ok (.iconst 0, 1) := by decide +kernel
theorem dX6_joined_152 : decode cX6_joined 152 = .ok (.ireturn, 1) := by decide +kernel
theorem dX6_joined_153 : decode cX6_joined 153 = .ok (.iload_n 0, 1) := by decide +kernel
theorem dX6_joined_154 : decode cX6_joined 154 = .ok (.iload_n 2, 1) := by decide +kernel
theorem dX6_joined_155 : decode cX6_joined 155 = .ok (.iadd, 1) := by decide +kernel
theorem dX6_joined_156 : decode cX6_joined 156 = .ok (.ireturn, 1) := by decide +kernel
theorem dX6_joined_157 : decode cX6_joined 157 = .ok (.iload_n 0, 1) := by decide +kernel
theorem dX6_joined_158 : decode cX6_joined 158 = .ok (.iload_n 2, 1) := by decide +kernel
theorem dX6_joined_159 : decode cX6_joined 159 = .ok (.isub, 1) := by decide +kernel
theorem dX6_joined_160 : decode cX6_joined 160 = .ok (.ireturn, 1) := by decide +kernel
theorem dX6_joined_161 : decode cX6_joined 161 = .ok (.iload_n 0, 1) := by decide +kernel
theorem dX6_joined_162 : decode cX6_joined 162 = .ok (.iload_n 2, 1) := by decide +kernel
theorem dX6_joined_163 : decode cX6_joined 163 = .ok (.imul, 1) := by decide +kernel
theorem dX6_joined_164 : decode cX6_joined 164 = .ok (.ireturn, 1) := by decide +kernel
theorem dX6_joined_165 : decode cX6_joined 165 = .ok (.iload_n 2, 1) := by decide +kernel
theorem dX6_joined_166 : decode cX6_joined 166 = .ok (.ifCond .ne 7, 3) := by decide +kernel
theorem dX6_joined_169 : decode cX6_joined 169 = .ok (.iconst 0, 1) := by decide +kernel
theorem dX6_joined_170 : decode cX6_joined 170 = .ok (.goto 6, 3) := by decide +kernel
theorem dX6_joined_173 : decode cX6_joined 173 = .ok (.iload_n 0, 1) := by decide +kernel
theorem dX6_joined_174 : decode cX6_joined 174 = .ok (.iload_n 2, 1) := by decide +kernel
theorem dX6_joined_175 : decode cX6_joined 175 = .ok (.idiv, 1) := by decide +kernel
theorem dX6_joined_176 : decode cX6_joined 176 = .ok (.ireturn, 1) := by decide +kernel
theorem dX6_joined_177 : decode cX6_joined 177 = .ok (.iload_n 2, 1) := by decide +kernel
theorem dX6_joined_178 : decode cX6_joined 178 = .ok (.ifCond .ne 7, 3) := by decide +kernel
theorem dX6_joined_181 : decode cX6_joined 181 = .ok (.iconst 0, 1) := by decide +kernel
theorem dX6_joined_182 : decode cX6_joined 182 = .ok (.goto 6, 3) := by decide +kernel
theorem dX6_joined_185 : decode cX6_joined 185 = .ok (.iload_n 0, 1) := by decide +kernel
theorem dX6_joined_186 : decode cX6_joined 186 = .ok (.iload_n 2, 1) := by decide +kernel
theorem dX6_joined_187 : decode cX6_joined 187 = .ok (.irem, 1) := by decide +kernel
theorem dX6_joined_188 : decode cX6_joined 188 = .ok (.ireturn, 1) := by decide +kernel
theorem dX6_joined_189 : decode cX6_joined 189 = .ok (.iconst 0, 1) := by decide +kernel
theorem dX6_joined_190 : decode cX6_joined 190 = .ok (.ireturn, 1) := by decide +kernel
theorem dX7_init_0 : decode cX7_init 0 = .ok (.aload_n 0, 1) := by decide +kernel
theorem dX7_init_1 : decode cX7_init 1 = .ok (.invokespecial 3, 3) := by decide +kernel
theorem dX7_init_4 : decode cX7_init 4 = .ok (.aload_n 0, 1) := by decide +kernel
theorem dX7_init_5 : decode cX7_init 5 = .ok (.iconst 4, 1) := by decide +kernel
theorem dX7_init_6 : decode cX7_init 6 = .ok (.putfield 9, 3) := by decide +kernel
theorem dX7_init_9 : decode cX7_init 9 = .ok (.aload_n 0, 1) := by decide +kernel
theorem dX7_init_10 : decode cX7_init 10 = .ok (.iconst 0, 1) := by decide +kernel
theorem dX7_init_11 : decode cX7_init 11 = .ok (.putfield 15, 3) := by decide +kernel
theorem dX7_init_14 : decode cX7_init 14 = .ok (.aload_n 0, 1) := by decide +kernel
theorem dX7_init_15 : decode cX7_init 15 = .ok (.iconst 0, 1) := by decide +kernel
theorem dX7_init_16 : decode cX7_init 16 = .ok (.putfield 18, 3) := by decide +kernel
theorem dX7_init_19 : decode cX7_init 19 = .ok (.aload_n 0, 1) := by decide +kernel
theorem dX7_init_20 : decode cX7_init 20 = .ok (.iconst 1, 1) := by decide +kernel
theorem dX7_init_21 : decode cX7_init 21 = .ok (.putfield 21, 3) := by decide +kernel
theorem dX7_init_24 : decode cX7_init 24 = .ok (.aload_n 0, 1) := by decide +kernel
theorem dX7_init_25 : decode cX7_init 25 = .ok (.new 24, 3) := by decide +kernel
theorem dX7_init_28 : decode cX7_init 28 = .ok (.dup, 1) := by decide +kernel
theorem dX7_init_29 : decode cX7_init 29 = .ok (.invokespecial 26, 3) := by decide +kernel
theorem dX7_init_32 : decode cX7_init 32 = .ok (.putfield 27, 3) := by decide +kernel
theorem dX7_init_35 : decode cX7_init 35 = .ok (.aload_n 0, 1) := by decide +kernel
theorem dX7_init_36 : decode cX7_init 36 = .ok (.new 31, 3) := by decide +kernel
theorem dX7_init_39 : decode cX7_init 39 = .ok (.dup, 1) := by decide +kernel
theorem dX7_init_40 : decode cX7_init 40 = .ok (.invokespecial 33, 3) := by decide +kernel
theorem dX7_init_43 : decode cX7_init 43 = .ok (.putfield 34, 3) := by decide +kernel
theorem dX7_init_46 : decode cX7_init 46 = .ok (.aload_n 0, 1) := by decide +kernel
theorem dX7_init_47 : decode cX7_init 47 = .ok (.new 38, 3) := by decide +kernel
theorem dX7_init_50 : decode cX7_init 50 = .ok (.dup, 1) := by decide +kernel
theorem dX7_init_51 : decode cX7_init 51 = .ok (.invokespecial 40, 3) := by decide +kernel
theorem dX7_init_54 : decode cX7_init 54 = .ok (.putfield 41, 3) := by decide +kernel
theorem dX7_init_57 : decode cX7_init 57 = .ok (.aload_n 0, 1) := by decide +kernel
theorem dX7_init_58 : decode cX7_init 58 = .ok (.new 45, 3) := by decide +kernel
theorem dX7_init_61 : decode cX7_init 61 = .ok (.dup, 1) := by decide +kernel
theorem dX7_init_62 : decode cX7_init 62 = .ok (.bipush 50, 2) := by decide +kernel
theorem dX7_init_64 : decode cX7_init 64 = .ok (.invokespecial 47, 3) := by decide +kernel
theorem dX7_init_67 : decode cX7_init 67 = .ok (.putfield 50, 3) := by decide +kernel
theorem dX7_init_70 : decode cX7_init 70 = .ok (.aload_n 0, 1) := by decide +kernel
theorem dX7_init_71 : decode cX7_init 71 = .ok (.new 45, 3) := by decide +kernel
theorem dX7_init_74 : decode cX7_init 74 = .ok (.dup, 1) := by decide +kernel
theorem dX7_init_75 : decode cX7_init 75 = .ok (.bipush 20, 2) := by decide +kernel
theorem dX7_init_77 : decode cX7_init 77 = .ok (.invokespecial 47, 3) := by decide +kernel
theorem dX7_init_80 : decode cX7_init 80 = .ok (.putfield 54, 3) := by decide +kernel
theorem dX7_init_83 : decode cX7_init 83 = .ok (.aload_n 0, 1) := by decide +kernel
theorem dX7_init_84 : decode cX7_init 84 = .ok (.new 57, 3) := by decide +kernel
theorem dX7_init_87 : decode cX7_init 87 = .ok (.dup, 1) := by decide +kernel
theorem dX7_init_88 : decode cX7_init 88 = .ok (.iconst 0, 1) := by decide +kernel
theorem dX7_init_89 : decode cX7_init 89 = .ok (.invokespecial 59, 3) := by decide +kernel
theorem dX7_init_92 : decode cX7_init 92 = .ok (.putfield 60, 3) := by decide +kernel
theorem dX7_init_95 : decode cX7_init 95 = .ok (.aload_n 0, 1) := by decide +kernel
theorem dX7_init_96 : decode cX7_init 96 = .ok (.new 57, 3) := by decide +kernel
theorem dX7_init_99 : decode cX7_init 99 = .ok (.dup, 1) := by decide +kernel
theorem dX7_init_100 : decode cX7_init 100 = .ok (.iconst 1, 1) := by decide +kernel
theorem dX7_init_101 : decode cX7_init 101 = .ok (.invokespecial 59, 3) := by decide +kernel
theorem dX7_init_104 : decode cX7_init 104 = .ok (.putfield 64, 3) := by decide +kernel
theorem dX7_init_107 : decode cX7_init 107 = .ok (.aload_n 0, 1) := by decide +kernel
theorem dX7_init_108 : decode cX7_init 108 = .ok (.new 67, 3) := by decide +kernel
theorem dX7_init_111 : decode cX7_init 111 = .ok (.dup, 1) := by decide +kernel
theorem dX7_init_112 : decode cX7_init 112 = .ok (.invokespecial 69, 3) := by decide +kernel
theorem dX7_init_115 : decode cX7_init 115 = .ok (.putfield 70, 3) := by decide +kernel
theorem dX7_init_118 : decode cX7_init 118 = .ok (.aload_n 0, 1) := by decide +kernel
theorem dX7_init_119 : decode cX7_init 119 = .ok (.new 45, 3) := by decide +kernel
theorem dX7_init_122 : decode cX7_init 122 = .ok (.dup, 1) := by decide +kernel
theorem dX7_init_123 : decode cX7_init 123 = .ok (.bipush 8, 2) := by decide +kernel
theorem dX7_init_125 : decode cX7_init 125 = .ok (.invokespecial 47, 3) := by decide +kernel
theorem dX7_init_128 : decode cX7_init 128 = .ok (.putfield 74, 3) := by decide +kernel
theorem dX7_init_131 : decode cX7_init 131 = .ok (.aload_n 0, 1) := by decide +kernel
theorem dX7_init_132 : decode cX7_init 132 = .ok (.iconst 0, 1) := by decide +kernel
theorem dX7_init_133 : decode cX7_init 133 = .ok (.putfield 77, 3) := by decide +kernel
theorem dX7_init_136 : decode cX7_init 136 = .ok (.return_, 1) := by decide +kernel
theorem dX7_copyFrom_0 : decode cX7_copyFrom 0 = .ok (.aload_n 0, 1) := by decide +kernel
theorem dX7_copyFrom_1 : decode cX7_copyFrom 1 = .ok (.aload_n 1, 1) := by decide +kernel
theorem dX7_copyFrom_2 : decode cX7_copyFrom 2 = .ok (.getfield 9, 3) := by decide +kernel
theorem dX7_copyFrom_5 : decode cX7_copyFrom 5 = .ok (.putfield 9, 3) := by decide +kernel
theorem dX7_copyFrom_8 : decode cX7_copyFrom 8 = .ok (.aload_n 0, 1) := by decide +kernel
theorem dX7_copyFrom_9 : decode cX7_copyFrom 9 = .ok (.aload_n 1, 1) := by decide +kernel
theorem dX7_copyFrom_10 : decode cX7_copyFrom 10 = .ok (.getfield 15, 3) := by decide +kernel
theorem dX7_copyFrom_13 : decode cX7_copyFrom 13 = .ok (.putfield 15, 3) := by decide +kernel
theorem dX7_copyFrom_16 : decode cX7_copyFrom 16 = .ok (.aload_n 0, 1) := by decide +kernel
theorem dX7_copyFrom_17 : decode cX7_copyFrom 17 = .ok (.aload_n 1, 1) := by decide +kernel
theorem dX7_copyFrom_18 : decode cX7_copyFrom 18 = .ok (.getfield 18, 3) := by decide +kernel
theorem dX7_copyFrom_21 : decode cX7_copyFrom 21 = .ok (.putfield 18, 3) := by decide +kernel
theorem dX7_copyFrom_24 : decode cX7_copyFrom 24 = .ok (.aload_n 0, 1) := by decide +kernel
theorem dX7_copyFrom_25 : decode cX7_copyFrom 25 = .ok (.aload_n 1, 1) := by decide +kernel
theorem dX7_copyFrom_26 : decode cX7_copyFrom 26 = .ok (.getfield 21, 3) := by decide +kernel
theorem dX7_copyFrom_29 : decode cX7_copyFrom 29 = .ok (.putfield 21, 3) := by decide +kernel
theorem dX7_copyFrom_32 : decode cX7_copyFrom 32 = .ok (.aload_n 0, 1) := by decide +kernel
theorem dX7_copyFrom_33 : decode cX7_copyFrom 33 = .ok (.getfield 27, 3) := by decide +kernel
theorem dX7_copyFrom_36 : decode cX7_copyFrom 36 = .ok (.aload_n 1, 1) := by decide +kernel
theorem dX7_copyFrom_37 : decode cX7_copyFrom 37 = .ok (.getfield 27, 3) := by decide +kernel
theorem dX7_copyFrom_40 : decode cX7_copyFrom 40 = .ok (.invokevirtual 80, 3) := by decide +kernel
theorem dX7_copyFrom_43 : decode cX7_copyFrom 43 = .ok (.aload_n 0, 1) := by decide +kernel
theorem dX7_copyFrom_44 : decode cX7_copyFrom 44 = .ok (.getfield 34, 3) := by decide +kernel
theorem dX7_copyFrom_47 : decode cX7_copyFrom 47 = .ok (.aload_n 1, 1) := by decide +kernel
theorem dX7_copyFrom_48 : decode cX7_copyFrom 48 = .ok (.getfield 34, 3) := by decide +kernel
theorem dX7_copyFrom_51 : decode cX7_copyFrom 51 = .ok (.invokevirtual 84, 3) := by decide +kernel
theorem dX7_copyFrom_54 : decode cX7_copyFrom 54 = .ok (.aload_n 0, 1) := by decide +kernel
theorem dX7_copyFrom_55 : decode cX7_copyFrom 55 = .ok (.getfield 41, 3) := by decide +kernel
theorem dX7_copyFrom_58 : decode cX7_copyFrom 58 = .ok (.aload_n 1, 1) := by decide +kernel
theorem dX7_copyFrom_59 : decode cX7_copyFrom 59 = .ok (.getfield 41, 3) := by decide +kernel
theorem dX7_copyFrom_62 : decode cX7_copyFrom 62 = .ok (.invokevirtual 87, 3) := by decide +kernel
theorem dX7_copyFrom_65 : decode cX7_copyFrom 65 = .ok (.aload_n 0, 1) := by decide +kernel
theorem dX7_copyFrom_66 : decode cX7_copyFrom 66 = .ok (.getfield 50, 3) := by decide +kernel
theorem dX7_copyFrom_69 : decode cX7_copyFrom 69 = .ok (.aload_n 1, 1) := by decide +kernel
theorem dX7_copyFrom_70 : decode cX7_copyFrom 70 = .ok (.getfield 50, 3) := by decide +kernel
theorem dX7_copyFrom_73 : decode cX7_copyFrom 73 = .ok (.invokevirtual 90, 3) := by decide +kernel
theorem dX7_copyFrom_76 : decode cX7_copyFrom 76 = .ok (.aload_n 0, 1) := by decide +kernel
theorem dX7_copyFrom_77 : decode cX7_copyFrom 77 = .ok (.getfield 54, 3) := by decide +kernel
theorem dX7_copyFrom_80 : decode cX7_copyFrom 80 = .ok (.aload_n 1, 1) := by decide +kernel
theorem dX7_copyFrom_81 : decode cX7_copyFrom 81 = .ok (.getfield 54, 3) := by decide +kernel
theorem dX7_copyFrom_84 : decode cX7_copyFrom 84 = .ok (.invokevirtual 90, 3) := by decide +kernel
theorem dX7_copyFrom_87 : decode cX7_copyFrom 87 = .ok (.aload_n 0, 1) := by decide +kernel
theorem dX7_copyFrom_88 : decode cX7_copyFrom 88 = .ok (.getfield 60, 3) := by decide +kernel
theorem dX7_copyFrom_91 : decode cX7_copyFrom 91 = .ok (.getfield 93, 3) := by decide +kernel
theorem dX7_copyFrom_94 : decode cX7_copyFrom 94 = .ok (.aload_n 1, 1) := by decide +kernel
theorem dX7_copyFrom_95 : decode cX7_copyFrom 95 = .ok (.getfield 60, 3) := by decide +kernel
theorem dX7_copyFrom_98 : decode cX7_copyFrom 98 = .ok (.getfield 93, 3) := by decide +kernel
theorem dX7_copyFrom_101 : decode cX7_copyFrom 101 = .ok (.invokevirtual 90, 3) := by decide +kernel
theorem dX7_copyFrom_104 : decode cX7_copyFrom 104 = .ok (.aload_n 0, 1) := by decide +kernel
theorem dX7_copyFrom_105 : decode cX7_copyFrom 105 = .ok (.getfield 64, 3) := by decide +kernel
theorem dX7_copyFrom_108 : decode cX7_copyFrom 108 = .ok (.getfield 93, 3) := by decide +kernel
theorem dX7_copyFrom_111 : decode cX7_copyFrom 111 = .ok (.aload_n 1, 1) := by decide +kernel
theorem dX7_copyFrom_112 : decode cX7_copyFrom 112 = .ok (.getfield 64, 3) := by decide +kernel
theorem dX7_copyFrom_115 : decode cX7_copyFrom 115 = .ok (.getfield 93, 3) := by decide +kernel
theorem dX7_copyFrom_118 : decode cX7_copyFrom 118 = .ok (.invokevirtual 90, 3) := by decide +kernel
theorem dX7_copyFrom_121 : decode cX7_copyFrom 121 = .ok (.return_, 1) := by decide +kernel
theorem dX7_isWell_0 : decode cX7_isWell 0 = .ok (.iload_n 1, 1) := by decide +kernel
theorem dX7_isWell_1 : decode cX7_isWell 1 = .ok (.iconst 0, 1) := by decide +kernel
theorem dX7_isWell_2 : decode cX7_isWell 2 = .ok (.aload_n 0, 1) := by decide +kernel
theorem dX7_isWell_3 : decode cX7_isWell 3 = .ok (.getfield 9, 3) := by decide +kernel
theorem dX7_isWell_6 : decode cX7_isWell 6 = .ok (.iconst 1, 1) := by decide +kernel
theorem dX7_isWell_7 : decode cX7_isWell 7 = .ok (.isub, 1) := by decide +kernel
theorem dX7_isWell_8 : decode cX7_isWell 8 = .ok (.invokestatic 96, 3) := by decide +kernel
theorem dX7_isWell_11 : decode cX7_isWell 11 = .ok (.ireturn, 1) := by decide +kernel
theorem dX7_textOf_0 : decode cX7_textOf 0 = .ok (.iload_n 1, 1) := by decide +kernel
theorem dX7_textOf_1 : decode cX7_textOf 1 = .ok (.ifCond .ne 10, 3) := by decide +kernel
theorem dX7_textOf_4 : decode cX7_textOf 4 = .ok (.aload_n 0, 1) := by decide +kernel
theorem dX7_textOf_5 : decode cX7_textOf 5 = .ok (.getfield 60, 3) := by decide +kernel
theorem dX7_textOf_8 : decode cX7_textOf 8 = .ok (.goto 7, 3) := by decide +kernel
theorem dX7_textOf_11 : decode cX7_textOf 11 = .ok (.aload_n 0, 1) := by decide +kernel
theorem dX7_textOf_12 : decode cX7_textOf 12 = .ok (.getfield 64, 3) := by decide +kernel
theorem dX7_textOf_15 : decode cX7_textOf 15 = .ok (.areturn, 1) := by decide +kernel
theorem dX7_ofOne_0 : decode cX7_ofOne 0 = .ok (.iload_n 2, 1) := by decide +kernel
theorem dX7_ofOne_1 : decode cX7_ofOne 1 = .ok (.ifCond .ne 15, 3) := by decide +kernel
theorem dX7_ofOne_4 : decode cX7_ofOne 4 = .ok (.aload_n 0, 1) := by decide +kernel
theorem dX7_ofOne_5 : decode cX7_ofOne 5 = .ok (.getfield 41, 3) := by decide +kernel
theorem dX7_ofOne_8 : decode cX7_ofOne 8 = .ok (.getfield 100, 3) := by decide +kernel
theorem dX7_ofOne_11 : decode cX7_ofOne 11 = .ok (.iload_n 1, 1) := by decide +kernel
theorem dX7_ofOne_12 : decode cX7_ofOne 12 = .ok (.invokevirtual 103, 3) := by decide +kernel
theorem dX7_ofOne_15 : decode cX7_ofOne 15 = .ok (.ireturn, 1) := by decide +kernel
theorem dX7_ofOne_16 : decode cX7_ofOne 16 = .ok (.iload_n 2, 1) := by decide +kernel
theorem dX7_ofOne_17 : decode cX7_ofOne 17 = .ok (.iconst 1, 1) := by decide +kernel
theorem dX7_ofOne_18 : decode cX7_ofOne 18 = .ok (.if_icmp .ne 17, 3) := by decide +kernel
theorem dX7_ofOne_21 : decode cX7_ofOne 21 = .ok (.aload_n 0, 1) := by decide +kernel
theorem dX7_ofOne_22 : decode cX7_ofOne 22 = .ok (.getfield 41, 3) := by decide +kernel
theorem dX7_ofOne_25 : decode cX7_ofOne 25 = .ok (.getfield 107, 3) := by decide +kernel
theorem dX7_ofOne_28 : decode cX7_ofOne 28 = .ok (.iload_n 1, 1) := by decide +kernel
theorem dX7_ofOne_29 : decode cX7_ofOne 29 = .ok (.invokevirtual 103, 3) := by decide +kernel
theorem dX7_ofOne_32 : decode cX7_ofOne 32 = .ok (.goto 18, 3) := by decide +kernel
theorem dX7_ofOne_35 : decode cX7_ofOne 35 = .ok (.aload_n 0, 1) := by decide +kernel
theorem dX7_ofOne_36 : decode cX7_ofOne 36 = .ok (.getfield 34, 3) := by decide +kernel
theorem dX7_ofOne_39 : decode cX7_ofOne 39 = .ok (.iload_n 1, 1) := by decide +kernel
theorem dX7_ofOne_40 : decode cX7_ofOne 40 = .ok (.aload_n 0, 1) := by decide +kernel
theorem dX7_ofOne_41 : decode cX7_ofOne 41 = .ok (.getfield 34, 3) := by decide +kernel
theorem dX7_ofOne_44 : decode cX7_ofOne 44 = .ok (.getfield 110, 3) := by decide +kernel
theorem dX7_ofOne_47 : decode cX7_ofOne 47 = .ok (.invokevirtual 113, 3) := by decide +kernel
theorem dX7_ofOne_50 : decode cX7_ofOne 50 = .ok (.ireturn, 1) := by decide +kernel
theorem dX7_draw_0 : decode cX7_draw 0 = .ok (.aload_n 0, 1) := by decide +kernel
theorem dX7_draw_1 : decode cX7_draw 1 = .ok (.aload_n 0, 1) := by decide +kernel
theorem dX7_draw_2 : decode cX7_draw 2 = .ok (.getfield 21, 3) := by decide +kernel
theorem dX7_draw_5 : decode cX7_draw 5 = .ok (.ldc 117, 2) := by decide +kernel
theorem dX7_draw_7 : decode cX7_draw 7 = .ok (.imul, 1) := by decide +kernel
theorem dX7_draw_8 : decode cX7_draw 8 = .ok (.sipush 12345, 3) := by decide +kernel
theorem dX7_draw_11 : decode cX7_draw 11 = .ok (.iadd, 1) := by decide +kernel
theorem dX7_draw_12 : decode cX7_draw 12 = .ok (.putfield 21, 3) := by decide +kernel
theorem dX7_draw_15 : decode cX7_draw 15 = .ok (.aload_n 0, 1) := by decide +kernel
theorem dX7_draw_16 : decode cX7_draw 16 = .ok (.getfield 21, 3) := by decide +kernel
theorem dX7_draw_19 : decode cX7_draw 19 = .ok (.bipush 8, 2) := by decide +kernel
theorem dX7_draw_21 : decode cX7_draw 21 = .ok (.iushr, 1) := by decide +kernel
theorem dX7_draw_22 : decode cX7_draw 22 = .ok (.ireturn, 1) := by decide +kernel
theorem dX7_weakeningOf_0 : decode cX7_weakeningOf 0 = .ok (.aload_n 0, 1) := by decide +kernel
theorem dX7_weakeningOf_1 : decode cX7_weakeningOf 1 = .ok (.getfield 60, 3) := by decide +kernel
theorem dX7_weakeningOf_4 : decode cX7_weakeningOf 4 = .ok (.aload_n 1, 1) := by decide +kernel
theorem dX7_weakeningOf_5 : decode cX7_weakeningOf 5 = .ok (.getfield 118, 3) := by decide +kernel
theorem dX7_weakeningOf_8 : decode cX7_weakeningOf 8 = .ok (.aload_n 1, 1) := by decide +kernel
theorem dX7_weakeningOf_9 : decode cX7_weakeningOf 9 = .ok (.getfield 121, 3) := by decide +kernel
theorem dX7_weakeningOf_12 : decode cX7_weakeningOf 12 = .ok (.iload_n 2, 1) := by decide +kernel
theorem dX7_weakeningOf_13 : decode cX7_weakeningOf 13 = .ok (.invokevirtual 124, 3) := by decide +kernel
theorem dX7_weakeningOf_16 : decode cX7_weakeningOf 16 = .ok (.istore_n 3, 1) := by decide +kernel
theorem dX7_weakeningOf_17 : decode cX7_weakeningOf 17 = .ok (.aload_n 1, 1) := by decide +kernel
theorem dX7_weakeningOf_18 : decode cX7_weakeningOf 18 = .ok (.getfield 128, 3) := by decide +kernel
theorem dX7_weakeningOf_21 : decode cX7_weakeningOf 21 = .ok (.tableswitch 82 1 6 #[39, 47, 51, 53, 72, 78], 39) := by decide +kernel
theorem dX7_weakeningOf_60 : decode cX7_weakeningOf 60 = .ok (.iconst 0, 1) := by decide +kernel
theorem dX7_weakeningOf_61 : decode cX7_weakeningOf 61 = .ok (.iload_n 3, 1) := by decide +kernel
theorem dX7_weakeningOf_62 : decode cX7_weakeningOf 62 = .ok (.iconst 1, 1) := by decide +kernel
theorem dX7_weakeningOf_63 : decode cX7_weakeningOf 63 = .ok (.isub, 1) := by decide +kernel
theorem dX7_weakeningOf_64 : decode cX7_weakeningOf 64 = .ok (.invokestatic 131, 3) := by decide +kernel
theorem dX7_weakeningOf_67 : decode cX7_weakeningOf 67 = .ok (.ireturn, 1) := by decide +kernel
theorem dX7_weakeningOf_68 : decode cX7_weakeningOf 68 = .ok (.iconst 2, 1) := by decide +kernel
theorem dX7_weakeningOf_69 : decode cX7_weakeningOf 69 = .ok (.iload_n 3, 1) := by decide +kernel
theorem dX7_weakeningOf_70 : decode cX7_weakeningOf 70 = .ok (.imul, 1) := by decide +kernel
theorem dX7_weakeningOf_71 : decode cX7_weakeningOf 71 = .ok (.ireturn, 1) := by decide +kernel
theorem dX7_weakeningOf_72 : decode cX7_weakeningOf 72 = .ok (.iconst 0, 1) := by decide +kernel
theorem dX7_weakeningOf_73 : decode cX7_weakeningOf 73 = .ok (.ireturn, 1) := by decide +kernel
theorem dX7_weakeningOf_74 : decode cX7_weakeningOf 74 = .ok (.iconst 0, 1) := by decide +kernel
theorem dX7_weakeningOf_75 : decode cX7_weakeningOf 75 = .ok (.iconst 0, 1) := by decide +kernel
theorem dX7_weakeningOf_76 : decode cX7_weakeningOf 76 = .ok (.iload_n 3, 1) := by decide +kernel
theorem dX7_weakeningOf_77 : decode cX7_weakeningOf 77 = .ok (.iconst 1, 1) := by decide +kernel
theorem dX7_weakeningOf_78 : decode cX7_weakeningOf 78 = .ok (.isub, 1) := by decide +kernel
theorem dX7_weakeningOf_79 : decode cX7_weakeningOf 79 = .ok (.invokestatic 131, 3) := by decide +kernel
theorem dX7_weakeningOf_82 : decode cX7_weakeningOf 82 = .ok (.aload_n 1, 1) := by decide +kernel
theorem dX7_weakeningOf_83 : decode cX7_weakeningOf 83 = .ok (.getfield 121, 3) := by decide +kernel
theorem dX7_weakeningOf_86 : decode cX7_weakeningOf 86 = .ok (.iconst 3, 1) := by decide +kernel
theorem dX7_weakeningOf_87 : decode cX7_weakeningOf 87 = .ok (.irem, 1) := by decide +kernel
theorem dX7_weakeningOf_88 : decode cX7_weakeningOf 88 = .ok (.isub, 1) := by decide +kernel
theorem dX7_weakeningOf_89 : decode cX7_weakeningOf 89 = .ok (.invokestatic 131, 3) := by decide +kernel
theorem dX7_weakeningOf_92 : decode cX7_weakeningOf 92 = .ok (.ireturn, 1) := by decide +kernel
theorem dX7_weakeningOf_93 : decode cX7_weakeningOf 93 = .ok (.iconst 2, 1) := by decide +kernel
theorem dX7_weakeningOf_94 : decode cX7_weakeningOf 94 = .ok (.iload_n 3, 1) := by decide +kernel
theorem dX7_weakeningOf_95 : decode cX7_weakeningOf 95 = .ok (.imul, 1) := by decide +kernel
theorem dX7_weakeningOf_96 : decode cX7_weakeningOf 96 = .ok (.iconst 1, 1) := by decide +kernel
theorem dX7_weakeningOf_97 : decode cX7_weakeningOf 97 = .ok (.iadd, 1) := by decide +kernel
theorem dX7_weakeningOf_98 : decode cX7_weakeningOf 98 = .ok (.ireturn, 1) := by decide +kernel
theorem dX7_weakeningOf_99 : decode cX7_weakeningOf 99 = .ok (.iload_n 3, 1) := by decide +kernel
theorem dX7_weakeningOf_100 : decode cX7_weakeningOf 100 = .ok (.iconst 2, 1) := by decide +kernel
theorem dX7_weakeningOf_101 : decode cX7_weakeningOf 101 = .ok (.idiv, 1) := by decide +kernel
theorem dX7_weakeningOf_102 : decode cX7_weakeningOf 102 = .ok (.ireturn, 1) := by decide +kernel
theorem dX7_weakeningOf_103 : decode cX7_weakeningOf 103 = .ok (.iload_n 3, 1) := by decide +kernel
theorem dX7_weakeningOf_104 : decode cX7_weakeningOf 104 = .ok (.ireturn, 1) := by decide +kernel
theorem dX7_nextWayOf_0 : decode cX7_nextWayOf 0 = .ok (.aload_n 1, 1) := by decide +kernel
theorem dX7_nextWayOf_1 : decode cX7_nextWayOf 1 = .ok (.getfield 128, 3) := by decide +kernel
theorem dX7_nextWayOf_4 : decode cX7_nextWayOf 4 = .ok (.tableswitch 95 2 5 #[32, 45, 47, 32], 32) := by decide +kernel
theorem dX7_nextWayOf_36 : decode cX7_nextWayOf 36 = .ok (.aload_n 0, 1) := by decide +kernel
theorem dX7_nextWayOf_37 : decode cX7_nextWayOf 37 = .ok (.getfield 27, 3) := by decide +kernel
theorem dX7_nextWayOf_40 : decode cX7_nextWayOf 40 = .ok (.aload_n 1, 1) := by decide +kernel
theorem dX7_nextWayOf_41 : decode cX7_nextWayOf 41 = .ok (.getfield 137, 3) := by decide +kernel
theorem dX7_nextWayOf_44 : decode cX7_nextWayOf 44 = .ok (.iload_n 2, 1) := by decide +kernel
theorem dX7_nextWayOf_45 : decode cX7_nextWayOf 45 = .ok (.invokevirtual 140, 3) := by decide +kernel
theorem dX7_nextWayOf_48 : decode cX7_nextWayOf 48 = .ok (.ireturn, 1) := by decide +kernel
theorem dX7_nextWayOf_49 : decode cX7_nextWayOf 49 = .ok (.iconst (-1), 1) := by decide +kernel
theorem dX7_nextWayOf_50 : decode cX7_nextWayOf 50 = .ok (.ireturn, 1) := by decide +kernel
theorem dX7_nextWayOf_51 : decode cX7_nextWayOf 51 = .ok (.aload_n 0, 1) := by decide +kernel
theorem dX7_nextWayOf_52 : decode cX7_nextWayOf 52 = .ok (.getfield 41, 3) := by decide +kernel
theorem dX7_nextWayOf_55 : decode cX7_nextWayOf 55 = .ok (.aload_n 1, 1) := by decide +kernel
theorem dX7_nextWayOf_56 : decode cX7_nextWayOf 56 = .ok (.getfield 137, 3) := by decide +kernel
theorem dX7_nextWayOf_59 : decode cX7_nextWayOf 59 = .ok (.invokevirtual 143, 3) := by decide +kernel
theorem dX7_nextWayOf_62 : decode cX7_nextWayOf 62 = .ok (.aload_n 1, 1) := by decide +kernel
theorem dX7_nextWayOf_63 : decode cX7_nextWayOf 63 = .ok (.getfield 146, 3) := by decide +kernel
theorem dX7_nextWayOf_66 : decode cX7_nextWayOf 66 = .ok (.iconst (-1), 1) := by decide +kernel
theorem dX7_nextWayOf_67 : decode cX7_nextWayOf 67 = .ok (.ixor, 1) := by decide +kernel
theorem dX7_nextWayOf_68 : decode cX7_nextWayOf 68 = .ok (.iand, 1) := by decide +kernel
theorem dX7_nextWayOf_69 : decode cX7_nextWayOf 69 = .ok (.ifCond .eq 7, 3) := by decide +kernel
theorem dX7_nextWayOf_72 : decode cX7_nextWayOf 72 = .ok (.iconst 1, 1) := by decide +kernel
theorem dX7_nextWayOf_73 : decode cX7_nextWayOf 73 = .ok (.goto 4, 3) := by decide +kernel
theorem dX7_nextWayOf_76 : decode cX7_nextWayOf 76 = .ok (.iconst 0, 1) := by decide +kernel
theorem dX7_nextWayOf_77 : decode cX7_nextWayOf 77 = .ok (.istore_n 3, 1) := by decide +kernel
theorem dX7_nextWayOf_78 : decode cX7_nextWayOf 78 = .ok (.iload_n 3, 1) := by decide +kernel
theorem dX7_nextWayOf_79 : decode cX7_nextWayOf 79 = .ok (.ifCond .eq 7, 3) := by decide +kernel
theorem dX7_nextWayOf_82 : decode cX7_nextWayOf 82 = .ok (.iconst (-1), 1) := by decide +kernel
theorem dX7_nextWayOf_83 : decode cX7_nextWayOf 83 = .ok (.goto 15, 3) := by decide +kernel
theorem dX7_nextWayOf_86 : decode cX7_nextWayOf 86 = .ok (.aload_n 0, 1) := by decide +kernel
theorem dX7_nextWayOf_87 : decode cX7_nextWayOf 87 = .ok (.getfield 27, 3) := by decide +kernel
theorem dX7_nextWayOf_90 : decode cX7_nextWayOf 90 = .ok (.aload_n 1, 1) := by decide +kernel
theorem dX7_nextWayOf_91 : decode cX7_nextWayOf 91 = .ok (.getfield 137, 3) := by decide +kernel
theorem dX7_nextWayOf_94 : decode cX7_nextWayOf 94 = .ok (.iload_n 2, 1) := by decide +kernel
theorem dX7_nextWayOf_95 : decode cX7_nextWayOf 95 = .ok (.invokevirtual 148, 3) := by decide +kernel
theorem dX7_nextWayOf_98 : decode cX7_nextWayOf 98 = .ok (.ireturn, 1) := by decide +kernel
theorem dX7_nextWayOf_99 : decode cX7_nextWayOf 99 = .ok (.aload_n 0, 1) := by decide +kernel
theorem dX7_nextWayOf_100 : decode cX7_nextWayOf 100 = .ok (.getfield 27, 3) := by decide +kernel
theorem dX7_nextWayOf_103 : decode cX7_nextWayOf 103 = .ok (.aload_n 1, 1) := by decide +kernel
theorem dX7_nextWayOf_104 : decode cX7_nextWayOf 104 = .ok (.getfield 137, 3) := by decide +kernel
theorem dX7_nextWayOf_107 : decode cX7_nextWayOf 107 = .ok (.iload_n 2, 1) := by decide +kernel
theorem dX7_nextWayOf_108 : decode cX7_nextWayOf 108 = .ok (.invokevirtual 148, 3) := by decide +kernel
theorem dX7_nextWayOf_111 : decode cX7_nextWayOf 111 = .ok (.ireturn, 1) := by decide +kernel
theorem dX7_pass_0 : decode cX7_pass 0 = .ok (.aload_n 1, 1) := by decide +kernel
theorem dX7_pass_1 : decode cX7_pass 1 = .ok (.iconst 0, 1) := by decide +kernel
theorem dX7_pass_2 : decode cX7_pass 2 = .ok (.aload_n 1, 1) := by decide +kernel
theorem dX7_pass_3 : decode cX7_pass 3 = .ok (.getfield 118, 3) := by decide +kernel
theorem dX7_pass_6 : decode cX7_pass 6 = .ok (.aload_n 0, 1) := by decide +kernel
theorem dX7_pass_7 : decode cX7_pass 7 = .ok (.aload_n 1, 1) := by decide +kernel
theorem dX7_pass_8 : decode cX7_pass 8 = .ok (.iload_n 2, 1) := by decide +kernel
theorem dX7_pass_9 : decode cX7_pass 9 = .ok (.invokevirtual 151, 3) := by decide +kernel
theorem dX7_pass_12 : decode cX7_pass 12 = .ok (.isub, 1) := by decide +kernel
theorem dX7_pass_13 : decode cX7_pass 13 = .ok (.invokestatic 131, 3) := by decide +kernel
theorem dX7_pass_16 : decode cX7_pass 16 = .ok (.putfield 118, 3) := by decide +kernel
theorem dX7_pass_19 : decode cX7_pass 19 = .ok (.aload_n 1, 1) := by decide +kernel
theorem dX7_pass_20 : decode cX7_pass 20 = .ok (.getfield 155, 3) := by decide +kernel
theorem dX7_pass_23 : decode cX7_pass 23 = .ok (.ifCond .le 16, 3) := by decide +kernel
theorem dX7_pass_26 : decode cX7_pass 26 = .ok (.aload_n 1, 1) := by decide +kernel
theorem dX7_pass_27 : decode cX7_pass 27 = .ok (.dup, 1) := by decide +kernel
theorem dX7_pass_28 : decode cX7_pass 28 = .ok (.getfield 155, 3) := by decide +kernel
theorem dX7_pass_31 : decode cX7_pass 31 = .ok (.iconst 1, 1) := by decide +kernel
theorem dX7_pass_32 : decode cX7_pass 32 = .ok (.isub, 1) := by decide +kernel
theorem dX7_pass_33 : decode cX7_pass 33 = .ok (.putfield 155, 3) := by decide +kernel
theorem dX7_pass_36 : decode cX7_pass 36 = .ok (.goto 55, 3) := by decide +kernel
theorem dX7_pass_39 : decode cX7_pass 39 = .ok (.aload_n 0, 1) := by decide +kernel
theorem dX7_pass_40 : decode cX7_pass 40 = .ok (.aload_n 1, 1) := by decide +kernel
theorem dX7_pass_41 : decode cX7_pass 41 = .ok (.iload_n 3, 1) := by decide +kernel
theorem dX7_pass_42 : decode cX7_pass 42 = .ok (.invokevirtual 158, 3) := by decide +kernel
theorem dX7_pass_45 : decode cX7_pass 45 = .ok (.istore 5, 2) := by decide +kernel
theorem dX7_pass_47 : decode cX7_pass 47 = .ok (.aload_n 0, 1) := by decide +kernel
theorem dX7_pass_48 : decode cX7_pass 48 = .ok (.getfield 27, 3) := by decide +kernel
theorem dX7_pass_51 : decode cX7_pass 51 = .ok (.iload 5, 2) := by decide +kernel
theorem dX7_pass_53 : decode cX7_pass 53 = .ok (.invokevirtual 161, 3) := by decide +kernel
theorem dX7_pass_56 : decode cX7_pass 56 = .ok (.ifCond .eq 35, 3) := by decide +kernel
theorem dX7_pass_59 : decode cX7_pass 59 = .ok (.aload_n 1, 1) := by decide +kernel
theorem dX7_pass_60 : decode cX7_pass 60 = .ok (.aload_n 0, 1) := by decide +kernel
theorem dX7_pass_61 : decode cX7_pass 61 = .ok (.getfield 27, 3) := by decide +kernel
theorem dX7_pass_64 : decode cX7_pass 64 = .ok (.getfield 165, 3) := by decide +kernel
theorem dX7_pass_67 : decode cX7_pass 67 = .ok (.iload 5, 2) := by decide +kernel
theorem dX7_pass_69 : decode cX7_pass 69 = .ok (.invokevirtual 103, 3) := by decide +kernel
theorem dX7_pass_72 : decode cX7_pass 72 = .ok (.putfield 137, 3) := by decide +kernel
theorem dX7_pass_75 : decode cX7_pass 75 = .ok (.aload_n 1, 1) := by decide +kernel
theorem dX7_pass_76 : decode cX7_pass 76 = .ok (.aload_n 0, 1) := by decide +kernel
theorem dX7_pass_77 : decode cX7_pass 77 = .ok (.getfield 27, 3) := by decide +kernel
theorem dX7_pass_80 : decode cX7_pass 80 = .ok (.getfield 168, 3) := by decide +kernel
theorem dX7_pass_83 : decode cX7_pass 83 = .ok (.iload 5, 2) := by decide +kernel
theorem dX7_pass_85 : decode cX7_pass 85 = .ok (.invokevirtual 103, 3) := by decide +kernel
theorem dX7_pass_88 : decode cX7_pass 88 = .ok (.putfield 155, 3) := by decide +kernel
theorem dX7_pass_91 : decode cX7_pass 91 = .ok (.aload_n 1, 1) := by decide +kernel
theorem dX7_pass_92 : decode cX7_pass 92 = .ok (.getfield 155, 3) := by decide +kernel
theorem dX7_pass_95 : decode cX7_pass 95 = .ok (.ifCond .ne 10, 3) := by decide +kernel
theorem dX7_pass_98 : decode cX7_pass 98 = .ok (.aload_n 0, 1) := by decide +kernel
theorem dX7_pass_99 : decode cX7_pass 99 = .ok (.aload_n 1, 1) := by decide +kernel
theorem dX7_pass_100 : decode cX7_pass 100 = .ok (.iload 4, 2) := by decide +kernel
theorem dX7_pass_102 : decode cX7_pass 102 = .ok (.invokevirtual 171, 3) := by decide +kernel
theorem dX7_pass_105 : decode cX7_pass 105 = .ok (.return_, 1) := by decide +kernel
theorem dX7_beTasted_0 : decode cX7_beTasted 0 = .ok (.iconst 0, 1) := by decide +kernel
theorem dX7_beTasted_1 : decode cX7_beTasted 1 = .ok (.istore_n 3, 1) := by decide +kernel
theorem dX7_beTasted_2 : decode cX7_beTasted 2 = .ok (.iload_n 3, 1) := by decide +kernel
theorem dX7_beTasted_3 : decode cX7_beTasted 3 = .ok (.aload_n 0, 1) := by decide +kernel
theorem dX7_beTasted_4 : decode cX7_beTasted 4 = .ok (.getfield 41, 3) := by decide +kernel
theorem dX7_beTasted_7 : decode cX7_beTasted 7 = .ok (.invokevirtual 175, 3) := by decide +kernel
theorem dX7_beTasted_10 : decode cX7_beTasted 10 = .ok (.if_icmp .ge 95, 3) := by decide +kernel
theorem dX7_beTasted_13 : decode cX7_beTasted 13 = .ok (.aload_n 0, 1) := by decide +kernel
theorem dX7_beTasted_14 : decode cX7_beTasted 14 = .ok (.getfield 41, 3) := by decide +kernel
theorem dX7_beTasted_17 : decode cX7_beTasted 17 = .ok (.getfield 107, 3) := by decide +kernel
theorem dX7_beTasted_20 : decode cX7_beTasted 20 = .ok (.iload_n 3, 1) := by decide +kernel
theorem dX7_beTasted_21 : decode cX7_beTasted 21 = .ok (.invokevirtual 103, 3) := by decide +kernel
theorem dX7_beTasted_24 : decode cX7_beTasted 24 = .ok (.istore 4, 2) := by decide +kernel
theorem dX7_beTasted_26 : decode cX7_beTasted 26 = .ok (.aload_n 1, 1) := by decide +kernel
theorem dX7_beTasted_27 : decode cX7_beTasted 27 = .ok (.getfield 118, 3) := by decide +kernel
theorem dX7_beTasted_30 : decode cX7_beTasted 30 = .ok (.iconst 1, 1) := by decide +kernel
theorem dX7_beTasted_31 : decode cX7_beTasted 31 = .ok (.iload 4, 2) := by decide +kernel
theorem dX7_beTasted_33 : decode cX7_beTasted 33 = .ok (.invokestatic 131, 3) := by decide +kernel
theorem dX7_beTasted_36 : decode cX7_beTasted 36 = .ok (.if_icmp .lt 7, 3) := by decide +kernel
theorem dX7_beTasted_39 : decode cX7_beTasted 39 = .ok (.iconst 1, 1) := by decide +kernel
theorem dX7_beTasted_40 : decode cX7_beTasted 40 = .ok (.goto 4, 3) := by decide +kernel
theorem dX7_beTasted_43 : decode cX7_beTasted 43 = .ok (.iconst 0, 1) := by decide +kernel
theorem dX7_beTasted_44 : decode cX7_beTasted 44 = .ok (.istore 5, 2) := by decide +kernel
theorem dX7_beTasted_46 : decode cX7_beTasted 46 = .ok (.iload 5, 2) := by decide +kernel
theorem dX7_beTasted_48 : decode cX7_beTasted 48 = .ok (.ifCond .eq 51, 3) := by decide +kernel
theorem dX7_beTasted_51 : decode cX7_beTasted 51 = .ok (.aload_n 0, 1) := by decide +kernel
theorem dX7_beTasted_52 : decode cX7_beTasted 52 = .ok (.getfield 41, 3) := by decide +kernel
theorem dX7_beTasted_55 : decode cX7_beTasted 55 = .ok (.getfield 100, 3) := by decide +kernel
theorem dX7_beTasted_58 : decode cX7_beTasted 58 = .ok (.iload_n 3, 1) := by decide +kernel
theorem dX7_beTasted_59 : decode cX7_beTasted 59 = .ok (.invokevirtual 103, 3) := by decide +kernel
theorem dX7_beTasted_62 : decode cX7_beTasted 62 = .ok (.aload_n 1, 1) := by decide +kernel
theorem dX7_beTasted_63 : decode cX7_beTasted 63 = .ok (.getfield 137, 3) := by decide +kernel
theorem dX7_beTasted_66 : decode cX7_beTasted 66 = .ok (.if_icmp .ne 33, 3) := by decide +kernel
theorem dX7_beTasted_69 : decode cX7_beTasted 69 = .ok (.aload_n 0, 1) := by decide +kernel
theorem dX7_beTasted_70 : decode cX7_beTasted 70 = .ok (.getfield 64, 3) := by decide +kernel
theorem dX7_beTasted_73 : decode cX7_beTasted 73 = .ok (.aload_n 1, 1) := by decide +kernel
theorem dX7_beTasted_74 : decode cX7_beTasted 74 = .ok (.getfield 118, 3) := by decide +kernel
theorem dX7_beTasted_77 : decode cX7_beTasted 77 = .ok (.iload 4, 2) := by decide +kernel
theorem dX7_beTasted_79 : decode cX7_beTasted 79 = .ok (.iload_n 2, 1) := by decide +kernel
theorem dX7_beTasted_80 : decode cX7_beTasted 80 = .ok (.invokevirtual 124, 3) := by decide +kernel
theorem dX7_beTasted_83 : decode cX7_beTasted 83 = .ok (.ifCond .eq 16, 3) := by decide +kernel
theorem dX7_beTasted_86 : decode cX7_beTasted 86 = .ok (.aload_n 1, 1) := by decide +kernel
theorem dX7_beTasted_87 : decode cX7_beTasted 87 = .ok (.aload_n 1, 1) := by decide +kernel
theorem dX7_beTasted_88 : decode cX7_beTasted 88 = .ok (.getfield 146, 3) := by decide +kernel
theorem dX7_beTasted_91 : decode cX7_beTasted 91 = .ok (.iload_n 3, 1) := by decide +kernel
theorem dX7_beTasted_92 : decode cX7_beTasted 92 = .ok (.iconst 1, 1) := by decide +kernel
theorem dX7_beTasted_93 : decode cX7_beTasted 93 = .ok (.invokestatic 179, 3) := by decide +kernel
theorem dX7_beTasted_96 : decode cX7_beTasted 96 = .ok (.putfield 146, 3) := by decide +kernel
theorem dX7_beTasted_99 : decode cX7_beTasted 99 = .ok (.iinc 3 1, 3) := by decide +kernel
theorem dX7_beTasted_102 : decode cX7_beTasted 102 = .ok (.goto (-100), 3) := by decide +kernel
theorem dX7_beTasted_105 : decode cX7_beTasted 105 = .ok (.return_, 1) := by decide +kernel
theorem dX7_passAll_0 : decode cX7_passAll 0 = .ok (.iconst 0, 1) := by decide +kernel
theorem dX7_passAll_1 : decode cX7_passAll 1 = .ok (.istore 5, 2) := by decide +kernel
theorem dX7_passAll_3 : decode cX7_passAll 3 = .ok (.iload 5, 2) := by decide +kernel
theorem dX7_passAll_5 : decode cX7_passAll 5 = .ok (.iload 4, 2) := by decide +kernel
theorem dX7_passAll_7 : decode cX7_passAll 7 = .ok (.if_icmp .ge 30, 3) := by decide +kernel
theorem dX7_passAll_10 : decode cX7_passAll 10 = .ok (.aload_n 1, 1) := by decide +kernel
theorem dX7_passAll_11 : decode cX7_passAll 11 = .ok (.getfield 118, 3) := by decide +kernel
theorem dX7_passAll_14 : decode cX7_passAll 14 = .ok (.ifCond .le 23, 3) := by decide +kernel
theorem dX7_passAll_17 : decode cX7_passAll 17 = .ok (.aload_n 0, 1) := by decide +kernel
theorem dX7_passAll_18 : decode cX7_passAll 18 = .ok (.aload_n 1, 1) := by decide +kernel
theorem dX7_passAll_19 : decode cX7_passAll 19 = .ok (.iload_n 2, 1) := by decide +kernel
theorem dX7_passAll_20 : decode cX7_passAll 20 = .ok (.iload_n 3, 1) := by decide +kernel
theorem dX7_passAll_21 : decode cX7_passAll 21 = .ok (.aload_n 0, 1) := by decide +kernel
theorem dX7_passAll_22 : decode cX7_passAll 22 = .ok (.getfield 18, 3) := by decide +kernel
theorem dX7_passAll_25 : decode cX7_passAll 25 = .ok (.iload 5, 2) := by decide +kernel
theorem dX7_passAll_27 : decode cX7_passAll 27 = .ok (.iadd, 1) := by decide +kernel
theorem dX7_passAll_28 : decode cX7_passAll 28 = .ok (.invokevirtual 183, 3) := by decide +kernel
theorem dX7_passAll_31 : decode cX7_passAll 31 = .ok (.iinc 5 1, 3) := by decide +kernel
theorem dX7_passAll_34 : decode cX7_passAll 34 = .ok (.goto (-31), 3) := by decide +kernel
theorem dX7_passAll_37 : decode cX7_passAll 37 = .ok (.return_, 1) := by decide +kernel
theorem dX7_passHour_0 : decode cX7_passHour 0 = .ok (.iconst 0, 1) := by decide +kernel
theorem dX7_passHour_1 : decode cX7_passHour 1 = .ok (.istore_n 1, 1) := by decide +kernel
theorem dX7_passHour_2 : decode cX7_passHour 2 = .ok (.iload_n 1, 1) := by decide +kernel
theorem dX7_passHour_3 : decode cX7_passHour 3 = .ok (.aload_n 0, 1) := by decide +kernel
theorem dX7_passHour_4 : decode cX7_passHour 4 = .ok (.getfield 34, 3) := by decide +kernel
theorem dX7_passHour_7 : decode cX7_passHour 7 = .ok (.invokevirtual 187, 3) := by decide +kernel
theorem dX7_passHour_10 : decode cX7_passHour 10 = .ok (.if_icmp .ge 44, 3) := by decide +kernel
theorem dX7_passHour_13 : decode cX7_passHour 13 = .ok (.aload_n 0, 1) := by decide +kernel
theorem dX7_passHour_14 : decode cX7_passHour 14 = .ok (.iload_n 1, 1) := by decide +kernel
theorem dX7_passHour_15 : decode cX7_passHour 15 = .ok (.invokevirtual 188, 3) := by decide +kernel
theorem dX7_passHour_18 : decode cX7_passHour 18 = .ok (.astore_n 2, 1) := by decide +kernel
theorem dX7_passHour_19 : decode cX7_passHour 19 = .ok (.aload_n 0, 1) := by decide +kernel
theorem dX7_passHour_20 : decode cX7_passHour 20 = .ok (.aload_n 2, 1) := by decide +kernel
theorem dX7_passHour_21 : decode cX7_passHour 21 = .ok (.aload_n 0, 1) := by decide +kernel
theorem dX7_passHour_22 : decode cX7_passHour 22 = .ok (.getfield 15, 3) := by decide +kernel
theorem dX7_passHour_25 : decode cX7_passHour 25 = .ok (.aload_n 0, 1) := by decide +kernel
theorem dX7_passHour_26 : decode cX7_passHour 26 = .ok (.getfield 27, 3) := by decide +kernel
theorem dX7_passHour_29 : decode cX7_passHour 29 = .ok (.getfield 192, 3) := by decide +kernel
theorem dX7_passHour_32 : decode cX7_passHour 32 = .ok (.aload_n 0, 1) := by decide +kernel
theorem dX7_passHour_33 : decode cX7_passHour 33 = .ok (.getfield 18, 3) := by decide +kernel
theorem dX7_passHour_36 : decode cX7_passHour 36 = .ok (.invokevirtual 183, 3) := by decide +kernel
theorem dX7_passHour_39 : decode cX7_passHour 39 = .ok (.aload_n 0, 1) := by decide +kernel
theorem dX7_passHour_40 : decode cX7_passHour 40 = .ok (.getfield 34, 3) := by decide +kernel
theorem dX7_passHour_43 : decode cX7_passHour 43 = .ok (.iload_n 1, 1) := by decide +kernel
theorem dX7_passHour_44 : decode cX7_passHour 44 = .ok (.aload_n 2, 1) := by decide +kernel
theorem dX7_passHour_45 : decode cX7_passHour 45 = .ok (.invokevirtual 195, 3) := by decide +kernel
theorem dX7_passHour_48 : decode cX7_passHour 48 = .ok (.iinc 1 1, 3) := by decide +kernel
theorem dX7_passHour_51 : decode cX7_passHour 51 = .ok (.goto (-49), 3) := by decide +kernel
theorem dX7_passHour_54 : decode cX7_passHour 54 = .ok (.aload_n 0, 1) := by decide +kernel
theorem dX7_passHour_55 : decode cX7_passHour 55 = .ok (.dup, 1) := by decide +kernel
theorem dX7_passHour_56 : decode cX7_passHour 56 = .ok (.getfield 18, 3) := by decide +kernel
theorem dX7_passHour_59 : decode cX7_passHour 59 = .ok (.iconst 1, 1) := by decide +kernel
theorem dX7_passHour_60 : decode cX7_passHour 60 = .ok (.iadd, 1) := by decide +kernel
theorem dX7_passHour_61 : decode cX7_passHour 61 = .ok (.putfield 18, 3) := by decide +kernel
theorem dX7_passHour_64 : decode cX7_passHour 64 = .ok (.return_, 1) := by decide +kernel
theorem dX7_thought_0 : decode cX7_thought 0 = .ok (.aload_n 0, 1) := by decide +kernel
theorem dX7_thought_1 : decode cX7_thought 1 = .ok (.getfield 34, 3) := by decide +kernel
theorem dX7_thought_4 : decode cX7_thought 4 = .ok (.iload_n 1, 1) := by decide +kernel
theorem dX7_thought_5 : decode cX7_thought 5 = .ok (.aload_n 0, 1) := by decide +kernel
theorem dX7_thought_6 : decode cX7_thought 6 = .ok (.getfield 70, 3) := by decide +kernel
theorem dX7_thought_9 : decode cX7_thought 9 = .ok (.invokevirtual 199, 3) := by decide +kernel
theorem dX7_thought_12 : decode cX7_thought 12 = .ok (.aload_n 0, 1) := by decide +kernel
theorem dX7_thought_13 : decode cX7_thought 13 = .ok (.getfield 70, 3) := by decide +kernel
theorem dX7_thought_16 : decode cX7_thought 16 = .ok (.areturn, 1) := by decide +kernel
theorem dX7_thinkAll_0 : decode cX7_thinkAll 0 = .ok (.aload_n 0, 1) := by decide +kernel
theorem dX7_thinkAll_1 : decode cX7_thinkAll 1 = .ok (.getfield 74, 3) := by decide +kernel
theorem dX7_thinkAll_4 : decode cX7_thinkAll 4 = .ok (.invokevirtual 202, 3) := by decide +kernel
theorem dX7_thinkAll_7 : decode cX7_thinkAll 7 = .ok (.aload_n 0, 1) := by decide +kernel
theorem dX7_thinkAll_8 : decode cX7_thinkAll 8 = .ok (.iconst 0, 1) := by decide +kernel
theorem dX7_thinkAll_9 : decode cX7_thinkAll 9 = .ok (.putfield 77, 3) := by decide +kernel
theorem dX7_thinkAll_12 : decode cX7_thinkAll 12 = .ok (.iconst 0, 1) := by decide +kernel
theorem dX7_thinkAll_13 : decode cX7_thinkAll 13 = .ok (.istore_n 2, 1) := by decide +kernel
theorem dX7_thinkAll_14 : decode cX7_thinkAll 14 = .ok (.iload_n 2, 1) := by decide +kernel
theorem dX7_thinkAll_15 : decode cX7_thinkAll 15 = .ok (.aload_n 0, 1) := by decide +kernel
theorem dX7_thinkAll_16 : decode cX7_thinkAll 16 = .ok (.getfield 34, 3) := by decide +kernel
theorem dX7_thinkAll_19 : decode cX7_thinkAll 19 = .ok (.invokevirtual 187, 3) := by decide +kernel
theorem dX7_thinkAll_22 : decode cX7_thinkAll 22 = .ok (.if_icmp .ge 56, 3) := by decide +kernel
theorem dX7_thinkAll_25 : decode cX7_thinkAll 25 = .ok (.aload_n 0, 1) := by decide +kernel
theorem dX7_thinkAll_26 : decode cX7_thinkAll 26 = .ok (.iload_n 2, 1) := by decide +kernel
theorem dX7_thinkAll_27 : decode cX7_thinkAll 27 = .ok (.invokevirtual 188, 3) := by decide +kernel
theorem dX7_thinkAll_30 : decode cX7_thinkAll 30 = .ok (.astore_n 3, 1) := by decide +kernel
theorem dX7_thinkAll_31 : decode cX7_thinkAll 31 = .ok (.aload_n 0, 1) := by decide +kernel
theorem dX7_thinkAll_32 : decode cX7_thinkAll 32 = .ok (.aload_n 3, 1) := by decide +kernel
theorem dX7_thinkAll_33 : decode cX7_thinkAll 33 = .ok (.aload_n 0, 1) := by decide +kernel
theorem dX7_thinkAll_34 : decode cX7_thinkAll 34 = .ok (.getfield 15, 3) := by decide +kernel
theorem dX7_thinkAll_37 : decode cX7_thinkAll 37 = .ok (.aload_n 0, 1) := by decide +kernel
theorem dX7_thinkAll_38 : decode cX7_thinkAll 38 = .ok (.getfield 27, 3) := by decide +kernel
theorem dX7_thinkAll_41 : decode cX7_thinkAll 41 = .ok (.getfield 192, 3) := by decide +kernel
theorem dX7_thinkAll_44 : decode cX7_thinkAll 44 = .ok (.iload_n 1, 1) := by decide +kernel
theorem dX7_thinkAll_45 : decode cX7_thinkAll 45 = .ok (.invokevirtual 205, 3) := by decide +kernel
theorem dX7_thinkAll_48 : decode cX7_thinkAll 48 = .ok (.aload_n 0, 1) := by decide +kernel
theorem dX7_thinkAll_49 : decode cX7_thinkAll 49 = .ok (.getfield 74, 3) := by decide +kernel
theorem dX7_thinkAll_52 : decode cX7_thinkAll 52 = .ok (.aload_n 3, 1) := by decide +kernel
theorem dX7_thinkAll_53 : decode cX7_thinkAll 53 = .ok (.getfield 146, 3) := by decide +kernel
theorem dX7_thinkAll_56 : decode cX7_thinkAll 56 = .ok (.invokevirtual 208, 3) := by decide +kernel
theorem dX7_thinkAll_59 : decode cX7_thinkAll 59 = .ok (.aload_n 0, 1) := by decide +kernel
theorem dX7_thinkAll_60 : decode cX7_thinkAll 60 = .ok (.dup, 1) := by decide +kernel
theorem dX7_thinkAll_61 : decode cX7_thinkAll 61 = .ok (.getfield 77, 3) := by decide +kernel
theorem dX7_thinkAll_64 : decode cX7_thinkAll 64 = .ok (.aload_n 3, 1) := by decide +kernel
theorem dX7_thinkAll_65 : decode cX7_thinkAll 65 = .ok (.getfield 118, 3) := by decide +kernel
theorem dX7_thinkAll_68 : decode cX7_thinkAll 68 = .ok (.iadd, 1) := by decide +kernel
theorem dX7_thinkAll_69 : decode cX7_thinkAll 69 = .ok (.putfield 77, 3) := by decide +kernel
theorem dX7_thinkAll_72 : decode cX7_thinkAll 72 = .ok (.iinc 2 1, 3) := by decide +kernel
theorem dX7_thinkAll_75 : decode cX7_thinkAll 75 = .ok (.goto (-61), 3) := by decide +kernel
theorem dX7_thinkAll_78 : decode cX7_thinkAll 78 = .ok (.return_, 1) := by decide +kernel
theorem dX8_init_0 : decode cX8_init 0 = .ok (.aload_n 0, 1) := by decide +kernel
theorem dX8_init_1 : decode cX8_init 1 = .ok (.invokespecial 3, 3) := by decide +kernel
theorem dX8_init_4 : decode cX8_init 4 = .ok (.aload_n 0, 1) := by decide +kernel
theorem dX8_init_5 : decode cX8_init 5 = .ok (.new 9, 3) := by decide +kernel
theorem dX8_init_8 : decode cX8_init 8 = .ok (.dup, 1) := by decide +kernel
theorem dX8_init_9 : decode cX8_init 9 = .ok (.bipush 40, 2) := by decide +kernel
theorem dX8_init_11 : decode cX8_init 11 = .ok (.invokespecial 11, 3) := by decide +kernel
theorem dX8_init_14 : decode cX8_init 14 = .ok (.putfield 14, 3) := by decide +kernel
theorem dX8_init_17 : decode cX8_init 17 = .ok (.aload_n 0, 1) := by decide +kernel
theorem dX8_init_18 : decode cX8_init 18 = .ok (.iconst 0, 1) := by decide +kernel
theorem dX8_init_19 : decode cX8_init 19 = .ok (.putfield 20, 3) := by decide +kernel
theorem dX8_init_22 : decode cX8_init 22 = .ok (.aload_n 0, 1) := by decide +kernel
theorem dX8_init_23 : decode cX8_init 23 = .ok (.iconst 0, 1) := by decide +kernel
theorem dX8_init_24 : decode cX8_init 24 = .ok (.putfield 24, 3) := by decide +kernel
theorem dX8_init_27 : decode cX8_init 27 = .ok (.aload_n 0, 1) := by decide +kernel
theorem dX8_init_28 : decode cX8_init 28 = .ok (.iconst 0, 1) := by decide +kernel
theorem dX8_init_29 : decode cX8_init 29 = .ok (.putfield 27, 3) := by decide +kernel
theorem dX8_init_32 : decode cX8_init 32 = .ok (.return_, 1) := by decide +kernel
theorem dX8_above_0 : decode cX8_above 0 = .ok (.iload_n 0, 1) := by decide +kernel
theorem dX8_above_1 : decode cX8_above 1 = .ok (.ifCond .lt 19, 3) := by decide +kernel
theorem dX8_above_4 : decode cX8_above 4 = .ok (.iload_n 0, 1) := by decide +kernel
theorem dX8_above_5 : decode cX8_above 5 = .ok (.getstatic 30, 3) := by decide +kernel
theorem dX8_above_8 : decode cX8_above 8 = .ok (.arraylength, 1) := by decide +kernel
theorem dX8_above_9 : decode cX8_above 9 = .ok (.if_icmp .ge 11, 3) := by decide +kernel
theorem dX8_above_12 : decode cX8_above 12 = .ok (.getstatic 30, 3) := by decide +kernel
theorem dX8_above_15 : decode cX8_above 15 = .ok (.iload_n 0, 1) := by decide +kernel
theorem dX8_above_16 : decode cX8_above 16 = .ok (.iaload, 1) := by decide +kernel
theorem dX8_above_17 : decode cX8_above 17 = .ok (.goto 4, 3) := by decide +kernel
theorem dX8_above_20 : decode cX8_above 20 = .ok (.iconst (-1), 1) := by decide +kernel
theorem dX8_above_21 : decode cX8_above 21 = .ok (.ireturn, 1) := by decide +kernel
theorem dX8_isUnder_0 : decode cX8_isUnder 0 = .ok (.iload_n 0, 1) := by decide +kernel
theorem dX8_isUnder_1 : decode cX8_isUnder 1 = .ok (.istore_n 2, 1) := by decide +kernel
theorem dX8_isUnder_2 : decode cX8_isUnder 2 = .ok (.iconst 0, 1) := by decide +kernel
theorem dX8_isUnder_3 : decode cX8_isUnder 3 = .ok (.istore_n 3, 1) := by decide +kernel
theorem dX8_isUnder_4 : decode cX8_isUnder 4 = .ok (.iload_n 3, 1) := by decide +kernel
theorem dX8_isUnder_5 : decode cX8_isUnder 5 = .ok (.getstatic 30, 3) := by decide +kernel
theorem dX8_isUnder_8 : decode cX8_isUnder 8 = .ok (.arraylength, 1) := by decide +kernel
theorem dX8_isUnder_9 : decode cX8_isUnder 9 = .ok (.if_icmp .ge 25, 3) := by decide +kernel
theorem dX8_isUnder_12 : decode cX8_isUnder 12 = .ok (.iload_n 2, 1) := by decide +kernel
theorem dX8_isUnder_13 : decode cX8_isUnder 13 = .ok (.ifCond .lt 21, 3) := by decide +kernel
theorem dX8_isUnder_16 : decode cX8_isUnder 16 = .ok (.iload_n 2, 1) := by decide +kernel
theorem dX8_isUnder_17 : decode cX8_isUnder 17 = .ok (.iload_n 1, 1) := by decide +kernel
theorem dX8_isUnder_18 : decode cX8_isUnder 18 = .ok (.if_icmp .ne 5, 3) := by decide +kernel
theorem dX8_isUnder_21 : decode cX8_isUnder 21 = .ok (.iconst 1, 1) := by decide +kernel
theorem dX8_isUnder_22 : decode cX8_isUnder 22 = .ok (.ireturn, 1) := by decide +kernel
theorem dX8_isUnder_23 : decode cX8_isUnder 23 = .ok (.iload_n 2, 1) := by decide +kernel
theorem dX8_isUnder_24 : decode cX8_isUnder 24 = .ok (.invokestatic 34, 3) := by decide +kernel
theorem dX8_isUnder_27 : decode cX8_isUnder 27 = .ok (.istore_n 2, 1) := by decide +kernel
theorem dX8_isUnder_28 : decode cX8_isUnder 28 = .ok (.iinc 3 1, 3) := by decide +kernel
theorem dX8_isUnder_31 : decode cX8_isUnder 31 = .ok (.goto (-27), 3) := by decide +kernel
theorem dX8_isUnder_34 : decode cX8_isUnder 34 = .ok (.iconst 0, 1) := by decide +kernel
theorem dX8_isUnder_35 : decode cX8_isUnder 35 = .ok (.ireturn, 1) := by decide +kernel
theorem dX8_bodyOf_0 : decode cX8_bodyOf 0 = .ok (.iload_n 0, 1) := by decide +kernel
theorem dX8_bodyOf_1 : decode cX8_bodyOf 1 = .ok (.iconst 4, 1) := by decide +kernel
theorem dX8_bodyOf_2 : decode cX8_bodyOf 2 = .ok (.imul, 1) := by decide +kernel
theorem dX8_bodyOf_3 : decode cX8_bodyOf 3 = .ok (.iload_n 1, 1) := by decide +kernel
theorem dX8_bodyOf_4 : decode cX8_bodyOf 4 = .ok (.iadd, 1) := by decide +kernel
theorem dX8_bodyOf_5 : decode cX8_bodyOf 5 = .ok (.istore_n 2, 1) := by decide +kernel
theorem dX8_bodyOf_6 : decode cX8_bodyOf 6 = .ok (.iload_n 2, 1) := by decide +kernel
theorem dX8_bodyOf_7 : decode cX8_bodyOf 7 = .ok (.ifCond .lt 19, 3) := by decide +kernel
theorem dX8_bodyOf_10 : decode cX8_bodyOf 10 = .ok (.iload_n 2, 1) := by decide +kernel
theorem dX8_bodyOf_11 : decode cX8_bodyOf 11 = .ok (.getstatic 38, 3) := by decide +kernel
theorem dX8_bodyOf_14 : decode cX8_bodyOf 14 = .ok (.arraylength, 1) := by decide +kernel
theorem dX8_bodyOf_15 : decode cX8_bodyOf 15 = .ok (.if_icmp .ge 11, 3) := by decide +kernel
theorem dX8_bodyOf_18 : decode cX8_bodyOf 18 = .ok (.getstatic 38, 3) := by decide +kernel
theorem dX8_bodyOf_21 : decode cX8_bodyOf 21 = .ok (.iload_n 2, 1) := by decide +kernel
theorem dX8_bodyOf_22 : decode cX8_bodyOf 22 = .ok (.iaload, 1) := by decide +kernel
theorem dX8_bodyOf_23 : decode cX8_bodyOf 23 = .ok (.goto 4, 3) := by decide +kernel
theorem dX8_bodyOf_26 : decode cX8_bodyOf 26 = .ok (.iconst 0, 1) := by decide +kernel
theorem dX8_bodyOf_27 : decode cX8_bodyOf 27 = .ok (.ireturn, 1) := by decide +kernel
theorem dX8_begin_0 : decode cX8_begin 0 = .ok (.aload_n 0, 1) := by decide +kernel
theorem dX8_begin_1 : decode cX8_begin 1 = .ok (.iload_n 1, 1) := by decide +kernel
theorem dX8_begin_2 : decode cX8_begin 2 = .ok (.putfield 20, 3) := by decide +kernel
theorem dX8_begin_5 : decode cX8_begin 5 = .ok (.aload_n 0, 1) := by decide +kernel
theorem dX8_begin_6 : decode cX8_begin 6 = .ok (.aload_n 2, 1) := by decide +kernel
theorem dX8_begin_7 : decode cX8_begin 7 = .ok (.getfield 41, 3) := by decide +kernel
theorem dX8_begin_10 : decode cX8_begin 10 = .ok (.putfield 24, 3) := by decide +kernel
theorem dX8_begin_13 : decode cX8_begin 13 = .ok (.aload_n 0, 1) := by decide +kernel
theorem dX8_begin_14 : decode cX8_begin 14 = .ok (.aload_n 2, 1) := by decide +kernel
theorem dX8_begin_15 : decode cX8_begin 15 = .ok (.getfield 44, 3) := by decide +kernel
theorem dX8_begin_18 : decode cX8_begin 18 = .ok (.putfield 27, 3) := by decide +kernel
theorem dX8_begin_21 : decode cX8_begin 21 = .ok (.aload_n 0, 1) := by decide +kernel
theorem dX8_begin_22 : decode cX8_begin 22 = .ok (.getfield 14, 3) := by decide +kernel
theorem dX8_begin_25 : decode cX8_begin 25 = .ok (.invokevirtual 45, 3) := by decide +kernel
theorem dX8_begin_28 : decode cX8_begin 28 = .ok (.aload_n 0, 1) := by decide +kernel
theorem dX8_begin_29 : decode cX8_begin 29 = .ok (.aload_n 0, 1) := by decide +kernel
theorem dX8_begin_30 : decode cX8_begin 30 = .ok (.getfield 24, 3) := by decide +kernel
theorem dX8_begin_33 : decode cX8_begin 33 = .ok (.iload_n 3, 1) := by decide +kernel
theorem dX8_begin_34 : decode cX8_begin 34 = .ok (.iload 4, 2) := by decide +kernel
theorem dX8_begin_36 : decode cX8_begin 36 = .ok (.iconst 0, 1) := by decide +kernel
theorem dX8_begin_37 : decode cX8_begin 37 = .ok (.invokevirtual 48, 3) := by decide +kernel
theorem dX8_begin_40 : decode cX8_begin 40 = .ok (.ireturn, 1) := by decide +kernel
theorem dX8_says_0 : decode cX8_says 0 = .ok (.iload_n 1, 1) := by decide +kernel
theorem dX8_says_1 : decode cX8_says 1 = .ok (.istore 5, 2) := by decide +kernel
theorem dX8_says_3 : decode cX8_says 3 = .ok (.iconst 0, 1) := by decide +kernel
theorem dX8_says_4 : decode cX8_says 4 = .ok (.istore 6, 2) := by decide +kernel
theorem dX8_says_6 : decode cX8_says 6 = .ok (.iload 6, 2) := by decide +kernel
theorem dX8_says_8 : decode cX8_says 8 = .ok (.getstatic 30, 3) := by decide +kernel
theorem dX8_says_11 : decode cX8_says 11 = .ok (.arraylength, 1) := by decide +kernel
theorem dX8_says_12 : decode cX8_says 12 = .ok (.if_icmp .ge 30, 3) := by decide +kernel
theorem dX8_says_15 : decode cX8_says 15 = .ok (.iload 5, 2) := by decide +kernel
theorem dX8_says_17 : decode cX8_says 17 = .ok (.ifCond .lt 25, 3) := by decide +kernel
theorem dX8_says_20 : decode cX8_says 20 = .ok (.iload 5, 2) := by decide +kernel
theorem dX8_says_22 : decode cX8_says 22 = .ok (.iload_n 2, 1) := by decide +kernel
theorem dX8_says_23 : decode cX8_says 23 = .ok (.invokestatic 52, 3) := by decide +kernel
theorem dX8_says_26 : decode cX8_says 26 = .ok (.ifCond .ne 16, 3) := by decide +kernel
theorem dX8_says_29 : decode cX8_says 29 = .ok (.iload 5, 2) := by decide +kernel
theorem dX8_says_31 : decode cX8_says 31 = .ok (.invokestatic 34, 3) := by decide +kernel
theorem dX8_says_34 : decode cX8_says 34 = .ok (.istore 5, 2) := by decide +kernel
theorem dX8_says_36 : decode cX8_says 36 = .ok (.iinc 6 1, 3) := by decide +kernel
theorem dX8_says_39 : decode cX8_says 39 = .ok (.goto (-33), 3) := by decide +kernel
theorem dX8_says_42 : decode cX8_says 42 = .ok (.iload 5, 2) := by decide +kernel
theorem dX8_says_44 : decode cX8_says 44 = .ok (.ifCond .lt 10, 3) := by decide +kernel
theorem dX8_says_47 : decode cX8_says 47 = .ok (.iload 4, 2) := by decide +kernel
theorem dX8_says_49 : decode cX8_says 49 = .ok (.bipush 40, 2) := by decide +kernel
theorem dX8_says_51 : decode cX8_says 51 = .ok (.if_icmp .le 5, 3) := by decide +kernel
theorem dX8_says_54 : decode cX8_says 54 = .ok (.iconst 0, 1) := by decide +kernel
theorem dX8_says_55 : decode cX8_says 55 = .ok (.ireturn, 1) := by decide +kernel
theorem dX8_says_56 : decode cX8_says 56 = .ok (.aload_n 0, 1) := by decide +kernel
theorem dX8_says_57 : decode cX8_says 57 = .ok (.getfield 14, 3) := by decide +kernel
theorem dX8_says_60 : decode cX8_says 60 = .ok (.iload 5, 2) := by decide +kernel
theorem dX8_says_62 : decode cX8_says 62 = .ok (.iload_n 2, 1) := by decide +kernel
theorem dX8_says_63 : decode cX8_says 63 = .ok (.invokestatic 52, 3) := by decide +kernel
theorem dX8_says_66 : decode cX8_says 66 = .ok (.invokevirtual 56, 3) := by decide +kernel
theorem dX8_says_69 : decode cX8_says 69 = .ok (.aload_n 0, 1) := by decide +kernel
theorem dX8_says_70 : decode cX8_says 70 = .ok (.iload 5, 2) := by decide +kernel
theorem dX8_says_72 : decode cX8_says 72 = .ok (.iload_n 2, 1) := by decide +kernel
theorem dX8_says_73 : decode cX8_says 73 = .ok (.invokestatic 52, 3) := by decide +kernel
theorem dX8_says_76 : decode cX8_says 76 = .ok (.iload 5, 2) := by decide +kernel
theorem dX8_says_78 : decode cX8_says 78 = .ok (.invokestatic 34, 3) := by decide +kernel
theorem dX8_says_81 : decode cX8_says 81 = .ok (.iload_n 3, 1) := by decide +kernel
theorem dX8_says_82 : decode cX8_says 82 = .ok (.iload 4, 2) := by decide +kernel
theorem dX8_says_84 : decode cX8_says 84 = .ok (.iconst 1, 1) := by decide +kernel
theorem dX8_says_85 : decode cX8_says 85 = .ok (.iadd, 1) := by decide +kernel
theorem dX8_says_86 : decode cX8_says 86 = .ok (.invokevirtual 59, 3) := by decide +kernel
theorem dX8_says_89 : decode cX8_says 89 = .ok (.ireturn, 1) := by decide +kernel
theorem dX8_saysBody_0 : decode cX8_saysBody 0 = .ok (.iload_n 1, 1) := by decide +kernel
theorem dX8_saysBody_1 : decode cX8_saysBody 1 = .ok (.lookupswitch 273 #[(10, 99), (11, 106), (12, 121), (13, 128), (20, 154), (30, 166), (40, 189), (50, 200), (60, 223), (70, 235), (71, 250)], 99) := by decide +kernel
theorem dX8_saysBody_100 : decode cX8_saysBody 100 = .ok (.iload_n 3, 1) := by decide +kernel
theorem dX8_saysBody_101 : decode cX8_saysBody 101 = .ok (.aload_n 0, 1) := by decide +kernel
theorem dX8_saysBody_102 : decode cX8_saysBody 102 = .ok (.getfield 20, 3) := by decide +kernel
theorem dX8_saysBody_105 : decode cX8_saysBody 105 = .ok (.iadd, 1) := by decide +kernel
theorem dX8_saysBody_106 : decode cX8_saysBody 106 = .ok (.ireturn, 1) := by decide +kernel
theorem dX8_saysBody_107 : decode cX8_saysBody 107 = .ok (.aload_n 0, 1) := by decide +kernel
theorem dX8_saysBody_108 : decode cX8_saysBody 108 = .ok (.aload_n 0, 1) := by decide +kernel
theorem dX8_saysBody_109 : decode cX8_saysBody 109 = .ok (.getfield 24, 3) := by decide +kernel
theorem dX8_saysBody_112 : decode cX8_saysBody 112 = .ok (.iconst 0, 1) := by decide +kernel
theorem dX8_saysBody_113 : decode cX8_saysBody 113 = .ok (.iload_n 3, 1) := by decide +kernel
theorem dX8_saysBody_114 : decode cX8_saysBody 114 = .ok (.iload 4, 2) := by decide +kernel
theorem dX8_saysBody_116 : decode cX8_saysBody 116 = .ok (.invokevirtual 48, 3) := by decide +kernel
theorem dX8_saysBody_119 : decode cX8_saysBody 119 = .ok (.iconst 2, 1) := by decide +kernel
theorem dX8_saysBody_120 : decode cX8_saysBody 120 = .ok (.imul, 1) := by decide +kernel
theorem dX8_saysBody_121 : decode cX8_saysBody 121 = .ok (.ireturn, 1) := by decide +kernel
theorem dX8_saysBody_122 : decode cX8_saysBody 122 = .ok (.iload_n 3, 1) := by decide +kernel
theorem dX8_saysBody_123 : decode cX8_saysBody 123 = .ok (.aload_n 0, 1) := by decide +kernel
theorem dX8_saysBody_124 : decode cX8_saysBody 124 = .ok (.getfield 27, 3) := by decide +kernel
theorem dX8_saysBody_127 : decode cX8_saysBody 127 = .ok (.isub, 1) := by decide +kernel
theorem dX8_saysBody_128 : decode cX8_saysBody 128 = .ok (.ireturn, 1) := by decide +kernel
theorem dX8_saysBody_129 : decode cX8_saysBody 129 = .ok (.aload_n 0, 1) := by decide +kernel
theorem dX8_saysBody_130 : decode cX8_saysBody 130 = .ok (.aload_n 0, 1) := by decide +kernel
theorem dX8_saysBody_131 : decode cX8_saysBody 131 = .ok (.getfield 24, 3) := by decide +kernel
theorem dX8_saysBody_134 : decode cX8_saysBody 134 = .ok (.iconst 1, 1) := by decide +kernel
theorem dX8_saysBody_135 : decode cX8_saysBody 135 = .ok (.iload_n 3, 1) := by decide +kernel
theorem dX8_saysBody_136 : decode cX8_saysBody 136 = .ok (.iload 4, 2) := by decide +kernel
theorem dX8_saysBody_138 : decode cX8_saysBody 138 = .ok (.invokevirtual 48, 3) := by decide +kernel
theorem dX8_saysBody_141 : decode cX8_saysBody 141 = .ok (.aload_n 0, 1) := by decide +kernel
theorem dX8_saysBody_142 : decode cX8_saysBody 142 = .ok (.aload_n 0, 1) := by decide +kernel
theorem dX8_saysBody_143 : decode cX8_saysBody 143 = .ok (.getfield 24, 3) := by decide +kernel
theorem dX8_saysBody_146 : decode cX8_saysBody 146 = .ok (.iconst 2, 1) := by decide +kernel
theorem dX8_saysBody_147 : decode cX8_saysBody 147 = .ok (.iload_n 3, 1) := by decide +kernel
theorem dX8_saysBody_148 : decode cX8_saysBody 148 = .ok (.iload 4, 2) := by decide +kernel
theorem dX8_saysBody_150 : decode cX8_saysBody 150 = .ok (.invokevirtual 48, 3) := by decide +kernel
theorem dX8_saysBody_153 : decode cX8_saysBody 153 = .ok (.ixor, 1) := by decide +kernel
theorem dX8_saysBody_154 : decode cX8_saysBody 154 = .ok (.ireturn, 1) := by decide +kernel
theorem dX8_saysBody_155 : decode cX8_saysBody 155 = .ok (.aload_n 0, 1) := by decide +kernel
theorem dX8_saysBody_156 : decode cX8_saysBody 156 = .ok (.iload_n 2, 1) := by decide +kernel
theorem dX8_saysBody_157 : decode cX8_saysBody 157 = .ok (.iconst 0, 1) := by decide +kernel
theorem dX8_saysBody_158 : decode cX8_saysBody 158 = .ok (.iload_n 3, 1) := by decide +kernel
theorem dX8_saysBody_159 : decode cX8_saysBody 159 = .ok (.iload 4, 2) := by decide +kernel
theorem dX8_saysBody_161 : decode cX8_saysBody 161 = .ok (.invokevirtual 48, 3) := by decide +kernel
theorem dX8_saysBody_164 : decode cX8_saysBody 164 = .ok (.iconst 3, 1) := by decide +kernel
theorem dX8_saysBody_165 : decode cX8_saysBody 165 = .ok (.imul, 1) := by decide +kernel
theorem dX8_saysBody_166 : decode cX8_saysBody 166 = .ok (.ireturn, 1) := by decide +kernel
theorem dX8_saysBody_167 : decode cX8_saysBody 167 = .ok (.aload_n 0, 1) := by decide +kernel
theorem dX8_saysBody_168 : decode cX8_saysBody 168 = .ok (.iload_n 2, 1) := by decide +kernel
theorem dX8_saysBody_169 : decode cX8_saysBody 169 = .ok (.iconst 1, 1) := by decide +kernel
theorem dX8_saysBody_170 : decode cX8_saysBody 170 = .ok (.iload_n 3, 1) := by decide +kernel
theorem dX8_saysBody_171 : decode cX8_saysBody 171 = .ok (.iload 4, 2) := by decide +kernel
theorem dX8_saysBody_173 : decode cX8_saysBody 173 = .ok (.invokevirtual 48, 3) := by decide +kernel
theorem dX8_saysBody_176 : decode cX8_saysBody 176 = .ok (.aload_n 0, 1) := by decide +kernel
theorem dX8_saysBody_177 : decode cX8_saysBody 177 = .ok (.aload_n 0, 1) := by decide +kernel
theorem dX8_saysBody_178 : decode cX8_saysBody 178 = .ok (.getfield 24, 3) := by decide +kernel
theorem dX8_saysBody_181 : decode cX8_saysBody 181 = .ok (.iconst 2, 1) := by decide +kernel
theorem dX8_saysBody_182 : decode cX8_saysBody 182 = .ok (.iconst 1, 1) := by decide +kernel
theorem dX8_saysBody_183 : decode cX8_saysBody 183 = .ok (.iload 4, 2) := by decide +kernel
theorem dX8_saysBody_185 : decode cX8_saysBody 185 = .ok (.invokevirtual 48, 3) := by decide +kernel
theorem dX8_saysBody_188 : decode cX8_saysBody 188 = .ok (.isub, 1) := by decide +kernel
theorem dX8_saysBody_189 : decode cX8_saysBody 189 = .ok (.ireturn, 1) := by decide +kernel
theorem dX8_saysBody_190 : decode cX8_saysBody 190 = .ok (.aload_n 0, 1) := by decide +kernel
theorem dX8_saysBody_191 : decode cX8_saysBody 191 = .ok (.iload_n 2, 1) := by decide +kernel
theorem dX8_saysBody_192 : decode cX8_saysBody 192 = .ok (.iconst 2, 1) := by decide +kernel
theorem dX8_saysBody_193 : decode cX8_saysBody 193 = .ok (.iload_n 3, 1) := by decide +kernel
theorem dX8_saysBody_194 : decode cX8_saysBody 194 = .ok (.iload 4, 2) := by decide +kernel
theorem dX8_saysBody_196 : decode cX8_saysBody 196 = .ok (.invokevirtual 48, 3) := by decide +kernel
theorem dX8_saysBody_199 : decode cX8_saysBody 199 = .ok (.ineg, 1) := by decide +kernel
theorem dX8_saysBody_200 : decode cX8_saysBody 200 = .ok (.ireturn, 1) := by decide +kernel
theorem dX8_saysBody_201 : decode cX8_saysBody 201 = .ok (.aload_n 0, 1) := by decide +kernel
theorem dX8_saysBody_202 : decode cX8_saysBody 202 = .ok (.iload_n 2, 1) := by decide +kernel
theorem dX8_saysBody_203 : decode cX8_saysBody 203 = .ok (.iconst 3, 1) := by decide +kernel
theorem dX8_saysBody_204 : decode cX8_saysBody 204 = .ok (.iload_n 3, 1) := by decide +kernel
theorem dX8_saysBody_205 : decode cX8_saysBody 205 = .ok (.iload 4, 2) := by decide +kernel
theorem dX8_saysBody_207 : decode cX8_saysBody 207 = .ok (.invokevirtual 48, 3) := by decide +kernel
theorem dX8_saysBody_210 : decode cX8_saysBody 210 = .ok (.aload_n 0, 1) := by decide +kernel
theorem dX8_saysBody_211 : decode cX8_saysBody 211 = .ok (.aload_n 0, 1) := by decide +kernel
theorem dX8_saysBody_212 : decode cX8_saysBody 212 = .ok (.getfield 24, 3) := by decide +kernel
theorem dX8_saysBody_215 : decode cX8_saysBody 215 = .ok (.iconst 0, 1) := by decide +kernel
theorem dX8_saysBody_216 : decode cX8_saysBody 216 = .ok (.iconst 2, 1) := by decide +kernel
theorem dX8_saysBody_217 : decode cX8_saysBody 217 = .ok (.iload 4, 2) := by decide +kernel
theorem dX8_saysBody_219 : decode cX8_saysBody 219 = .ok (.invokevirtual 48, 3) := by decide +kernel
theorem dX8_saysBody_222 : decode cX8_saysBody 222 = .ok (.isub, 1) := by decide +kernel
theorem dX8_saysBody_223 : decode cX8_saysBody 223 = .ok (.ireturn, 1) := by decide +kernel
theorem dX8_saysBody_224 : decode cX8_saysBody 224 = .ok (.aload_n 0, 1) := by decide +kernel
theorem dX8_saysBody_225 : decode cX8_saysBody 225 = .ok (.iload_n 2, 1) := by decide +kernel
theorem dX8_saysBody_226 : decode cX8_saysBody 226 = .ok (.iconst 1, 1) := by decide +kernel
theorem dX8_saysBody_227 : decode cX8_saysBody 227 = .ok (.iload_n 3, 1) := by decide +kernel
theorem dX8_saysBody_228 : decode cX8_saysBody 228 = .ok (.iconst 1, 1) := by decide +kernel
theorem dX8_saysBody_229 : decode cX8_saysBody 229 = .ok (.iadd, 1) := by decide +kernel
theorem dX8_saysBody_230 : decode cX8_saysBody 230 = .ok (.iload 4, 2) := by decide +kernel
theorem dX8_saysBody_232 : decode cX8_saysBody 232 = .ok (.invokevirtual 48, 3) := by decide +kernel
theorem dX8_saysBody_235 : decode cX8_saysBody 235 = .ok (.ireturn, 1) := by decide +kernel
theorem dX8_saysBody_236 : decode cX8_saysBody 236 = .ok (.aload_n 0, 1) := by decide +kernel
theorem dX8_saysBody_237 : decode cX8_saysBody 237 = .ok (.iload_n 2, 1) := by decide +kernel
theorem dX8_saysBody_238 : decode cX8_saysBody 238 = .ok (.iconst 2, 1) := by decide +kernel
theorem dX8_saysBody_239 : decode cX8_saysBody 239 = .ok (.iload_n 3, 1) := by decide +kernel
theorem dX8_saysBody_240 : decode cX8_saysBody 240 = .ok (.iload 4, 2) := by decide +kernel
theorem dX8_saysBody_242 : decode cX8_saysBody 242 = .ok (.invokevirtual 48, 3) := by decide +kernel
theorem dX8_saysBody_245 : decode cX8_saysBody 245 = .ok (.aload_n 0, 1) := by decide +kernel
theorem dX8_saysBody_246 : decode cX8_saysBody 246 = .ok (.getfield 20, 3) := by decide +kernel
theorem dX8_saysBody_249 : decode cX8_saysBody 249 = .ok (.ixor, 1) := by decide +kernel
theorem dX8_saysBody_250 : decode cX8_saysBody 250 = .ok (.ireturn, 1) := by decide +kernel
theorem dX8_saysBody_251 : decode cX8_saysBody 251 = .ok (.aload_n 0, 1) := by decide +kernel
theorem dX8_saysBody_252 : decode cX8_saysBody 252 = .ok (.aload_n 0, 1) := by decide +kernel
theorem dX8_saysBody_253 : decode cX8_saysBody 253 = .ok (.getfield 24, 3) := by decide +kernel
theorem dX8_saysBody_256 : decode cX8_saysBody 256 = .ok (.iconst 1, 1) := by decide +kernel
theorem dX8_saysBody_257 : decode cX8_saysBody 257 = .ok (.iload_n 3, 1) := by decide +kernel
theorem dX8_saysBody_258 : decode cX8_saysBody 258 = .ok (.iload 4, 2) := by decide +kernel
theorem dX8_saysBody_260 : decode cX8_saysBody 260 = .ok (.invokevirtual 48, 3) := by decide +kernel
theorem dX8_saysBody_263 : decode cX8_saysBody 263 = .ok (.aload_n 0, 1) := by decide +kernel
theorem dX8_saysBody_264 : decode cX8_saysBody 264 = .ok (.iload_n 2, 1) := by decide +kernel
theorem dX8_saysBody_265 : decode cX8_saysBody 265 = .ok (.iconst 3, 1) := by decide +kernel
theorem dX8_saysBody_266 : decode cX8_saysBody 266 = .ok (.iload_n 3, 1) := by decide +kernel
theorem dX8_saysBody_267 : decode cX8_saysBody 267 = .ok (.iload 4, 2) := by decide +kernel
theorem dX8_saysBody_269 : decode cX8_saysBody 269 = .ok (.invokevirtual 48, 3) := by decide +kernel
theorem dX8_saysBody_272 : decode cX8_saysBody 272 = .ok (.isub, 1) := by decide +kernel
theorem dX8_saysBody_273 : decode cX8_saysBody 273 = .ok (.ireturn, 1) := by decide +kernel
theorem dX8_saysBody_274 : decode cX8_saysBody 274 = .ok (.iconst 0, 1) := by decide +kernel
theorem dX8_saysBody_275 : decode cX8_saysBody 275 = .ok (.ireturn, 1) := by decide +kernel
theorem dX9_init_0 : decode cX9_init 0 = .ok (.aload_n 0, 1) := by decide +kernel
theorem dX9_init_1 : decode cX9_init 1 = .ok (.invokespecial 3, 3) := by decide +kernel
theorem dX9_init_4 : decode cX9_init 4 = .ok (.aload_n 0, 1) := by decide +kernel
theorem dX9_init_5 : decode cX9_init 5 = .ok (.new 9, 3) := by decide +kernel
theorem dX9_init_8 : decode cX9_init 8 = .ok (.dup, 1) := by decide +kernel
theorem dX9_init_9 : decode cX9_init 9 = .ok (.bipush 8, 2) := by decide +kernel
theorem dX9_init_11 : decode cX9_init 11 = .ok (.invokespecial 11, 3) := by decide +kernel
theorem dX9_init_14 : decode cX9_init 14 = .ok (.putfield 14, 3) := by decide +kernel
theorem dX9_init_17 : decode cX9_init 17 = .ok (.aload_n 0, 1) := by decide +kernel
theorem dX9_init_18 : decode cX9_init 18 = .ok (.new 9, 3) := by decide +kernel
theorem dX9_init_21 : decode cX9_init 21 = .ok (.dup, 1) := by decide +kernel
theorem dX9_init_22 : decode cX9_init 22 = .ok (.bipush 8, 2) := by decide +kernel
theorem dX9_init_24 : decode cX9_init 24 = .ok (.invokespecial 11, 3) := by decide +kernel
theorem dX9_init_27 : decode cX9_init 27 = .ok (.putfield 20, 3) := by decide +kernel
theorem dX9_init_30 : decode cX9_init 30 = .ok (.aload_n 0, 1) := by decide +kernel
theorem dX9_init_31 : decode cX9_init 31 = .ok (.new 9, 3) := by decide +kernel
theorem dX9_init_34 : decode cX9_init 34 = .ok (.dup, 1) := by decide +kernel
theorem dX9_init_35 : decode cX9_init 35 = .ok (.bipush 8, 2) := by decide +kernel
theorem dX9_init_37 : decode cX9_init 37 = .ok (.invokespecial 11, 3) := by decide +kernel
theorem dX9_init_40 : decode cX9_init 40 = .ok (.putfield 23, 3) := by decide +kernel
theorem dX9_init_43 : decode cX9_init 43 = .ok (.aload_n 0, 1) := by decide +kernel
theorem dX9_init_44 : decode cX9_init 44 = .ok (.iconst 0, 1) := by decide +kernel
theorem dX9_init_45 : decode cX9_init 45 = .ok (.putfield 26, 3) := by decide +kernel
theorem dX9_init_48 : decode cX9_init 48 = .ok (.return_, 1) := by decide +kernel
theorem dX9_size_0 : decode cX9_size 0 = .ok (.aload_n 0, 1) := by decide +kernel
theorem dX9_size_1 : decode cX9_size 1 = .ok (.getfield 14, 3) := by decide +kernel
theorem dX9_size_4 : decode cX9_size 4 = .ok (.invokevirtual 30, 3) := by decide +kernel
theorem dX9_size_7 : decode cX9_size 7 = .ok (.ireturn, 1) := by decide +kernel
theorem dX9_has_0 : decode cX9_has 0 = .ok (.aload_n 0, 1) := by decide +kernel
end
section
theorem dX9_has_1 : decode cX9_has 1 = .ok (.getfield 14, 3) := by decide +kernel
theorem dX9_has_4 : decode cX9_has 4 = .ok (.iload_n 1, 1) := by decide +kernel
theorem dX9_has_5 : decode cX9_has 5 = .ok (.invokevirtual 34, 3) := by decide +kernel
theorem dX9_has_8 : decode cX9_has 8 = .ok (.ireturn, 1) := by decide +kernel
theorem dX9_add_0 : decode cX9_add 0 = .ok (.aload_n 0, 1) := by decide +kernel
theorem dX9_add_1 : decode cX9_add 1 = .ok (.getfield 14, 3) := by decide +kernel
theorem dX9_add_4 : decode cX9_add 4 = .ok (.iload_n 1, 1) := by decide +kernel
theorem dX9_add_5 : decode cX9_add 5 = .ok (.invokevirtual 38, 3) := by decide +kernel
theorem dX9_add_8 : decode cX9_add 8 = .ok (.aload_n 0, 1) := by decide +kernel
theorem dX9_add_9 : decode cX9_add 9 = .ok (.getfield 20, 3) := by decide +kernel
theorem dX9_add_12 : decode cX9_add 12 = .ok (.iload_n 2, 1) := by decide +kernel
theorem dX9_add_13 : decode cX9_add 13 = .ok (.invokevirtual 38, 3) := by decide +kernel
theorem dX9_add_16 : decode cX9_add 16 = .ok (.aload_n 0, 1) := by decide +kernel
theorem dX9_add_17 : decode cX9_add 17 = .ok (.getfield 23, 3) := by decide +kernel
theorem dX9_add_20 : decode cX9_add 20 = .ok (.iload_n 3, 1) := by decide +kernel
theorem dX9_add_21 : decode cX9_add 21 = .ok (.invokevirtual 38, 3) := by decide +kernel
theorem dX9_add_24 : decode cX9_add 24 = .ok (.return_, 1) := by decide +kernel
theorem dX9_firstFrom_0 : decode cX9_firstFrom 0 = .ok (.iconst 0, 1) := by decide +kernel
theorem dX9_firstFrom_1 : decode cX9_firstFrom 1 = .ok (.istore_n 3, 1) := by decide +kernel
theorem dX9_firstFrom_2 : decode cX9_firstFrom 2 = .ok (.iload_n 3, 1) := by decide +kernel
theorem dX9_firstFrom_3 : decode cX9_firstFrom 3 = .ok (.aload_n 0, 1) := by decide +kernel
theorem dX9_firstFrom_4 : decode cX9_firstFrom 4 = .ok (.getfield 14, 3) := by decide +kernel
theorem dX9_firstFrom_7 : decode cX9_firstFrom 7 = .ok (.invokevirtual 30, 3) := by decide +kernel
theorem dX9_firstFrom_10 : decode cX9_firstFrom 10 = .ok (.if_icmp .ge 31, 3) := by decide +kernel
theorem dX9_firstFrom_13 : decode cX9_firstFrom 13 = .ok (.aload_n 0, 1) := by decide +kernel
theorem dX9_firstFrom_14 : decode cX9_firstFrom 14 = .ok (.getfield 14, 3) := by decide +kernel
theorem dX9_firstFrom_17 : decode cX9_firstFrom 17 = .ok (.iload_n 3, 1) := by decide +kernel
theorem dX9_firstFrom_18 : decode cX9_firstFrom 18 = .ok (.invokevirtual 41, 3) := by decide +kernel
theorem dX9_firstFrom_21 : decode cX9_firstFrom 21 = .ok (.iload_n 1, 1) := by decide +kernel
theorem dX9_firstFrom_22 : decode cX9_firstFrom 22 = .ok (.if_icmp .ne 13, 3) := by decide +kernel
theorem dX9_firstFrom_25 : decode cX9_firstFrom 25 = .ok (.iload_n 2, 1) := by decide +kernel
theorem dX9_firstFrom_26 : decode cX9_firstFrom 26 = .ok (.iload_n 3, 1) := by decide +kernel
theorem dX9_firstFrom_27 : decode cX9_firstFrom 27 = .ok (.invokestatic 45, 3) := by decide +kernel
theorem dX9_firstFrom_30 : decode cX9_firstFrom 30 = .ok (.ifCond .ne 5, 3) := by decide +kernel
theorem dX9_firstFrom_33 : decode cX9_firstFrom 33 = .ok (.iload_n 3, 1) := by decide +kernel
theorem dX9_firstFrom_34 : decode cX9_firstFrom 34 = .ok (.ireturn, 1) := by decide +kernel
theorem dX9_firstFrom_35 : decode cX9_firstFrom 35 = .ok (.iinc 3 1, 3) := by decide +kernel
theorem dX9_firstFrom_38 : decode cX9_firstFrom 38 = .ok (.goto (-36), 3) := by decide +kernel
theorem dX9_firstFrom_41 : decode cX9_firstFrom 41 = .ok (.iconst (-1), 1) := by decide +kernel
theorem dX9_firstFrom_42 : decode cX9_firstFrom 42 = .ok (.ireturn, 1) := by decide +kernel
theorem dX9_lastFrom_0 : decode cX9_lastFrom 0 = .ok (.aload_n 0, 1) := by decide +kernel
theorem dX9_lastFrom_1 : decode cX9_lastFrom 1 = .ok (.getfield 14, 3) := by decide +kernel
theorem dX9_lastFrom_4 : decode cX9_lastFrom 4 = .ok (.invokevirtual 30, 3) := by decide +kernel
theorem dX9_lastFrom_7 : decode cX9_lastFrom 7 = .ok (.iconst 1, 1) := by decide +kernel
theorem dX9_lastFrom_8 : decode cX9_lastFrom 8 = .ok (.isub, 1) := by decide +kernel
theorem dX9_lastFrom_9 : decode cX9_lastFrom 9 = .ok (.istore_n 3, 1) := by decide +kernel
theorem dX9_lastFrom_10 : decode cX9_lastFrom 10 = .ok (.iload_n 3, 1) := by decide +kernel
theorem dX9_lastFrom_11 : decode cX9_lastFrom 11 = .ok (.ifCond .lt 31, 3) := by decide +kernel
theorem dX9_lastFrom_14 : decode cX9_lastFrom 14 = .ok (.aload_n 0, 1) := by decide +kernel
theorem dX9_lastFrom_15 : decode cX9_lastFrom 15 = .ok (.getfield 14, 3) := by decide +kernel
theorem dX9_lastFrom_18 : decode cX9_lastFrom 18 = .ok (.iload_n 3, 1) := by decide +kernel
theorem dX9_lastFrom_19 : decode cX9_lastFrom 19 = .ok (.invokevirtual 41, 3) := by decide +kernel
theorem dX9_lastFrom_22 : decode cX9_lastFrom 22 = .ok (.iload_n 1, 1) := by decide +kernel
theorem dX9_lastFrom_23 : decode cX9_lastFrom 23 = .ok (.if_icmp .ne 13, 3) := by decide +kernel
theorem dX9_lastFrom_26 : decode cX9_lastFrom 26 = .ok (.iload_n 2, 1) := by decide +kernel
theorem dX9_lastFrom_27 : decode cX9_lastFrom 27 = .ok (.iload_n 3, 1) := by decide +kernel
theorem dX9_lastFrom_28 : decode cX9_lastFrom 28 = .ok (.invokestatic 45, 3) := by decide +kernel
theorem dX9_lastFrom_31 : decode cX9_lastFrom 31 = .ok (.ifCond .ne 5, 3) := by decide +kernel
theorem dX9_lastFrom_34 : decode cX9_lastFrom 34 = .ok (.iload_n 3, 1) := by decide +kernel
theorem dX9_lastFrom_35 : decode cX9_lastFrom 35 = .ok (.ireturn, 1) := by decide +kernel
theorem dX9_lastFrom_36 : decode cX9_lastFrom 36 = .ok (.iinc 3 (-1), 3) := by decide +kernel
theorem dX9_lastFrom_39 : decode cX9_lastFrom 39 = .ok (.goto (-29), 3) := by decide +kernel
theorem dX9_lastFrom_42 : decode cX9_lastFrom 42 = .ok (.iconst (-1), 1) := by decide +kernel
theorem dX9_lastFrom_43 : decode cX9_lastFrom 43 = .ok (.ireturn, 1) := by decide +kernel
theorem dX9_copyFrom_0 : decode cX9_copyFrom 0 = .ok (.aload_n 0, 1) := by decide +kernel
theorem dX9_copyFrom_1 : decode cX9_copyFrom 1 = .ok (.getfield 14, 3) := by decide +kernel
theorem dX9_copyFrom_4 : decode cX9_copyFrom 4 = .ok (.aload_n 1, 1) := by decide +kernel
theorem dX9_copyFrom_5 : decode cX9_copyFrom 5 = .ok (.getfield 14, 3) := by decide +kernel
theorem dX9_copyFrom_8 : decode cX9_copyFrom 8 = .ok (.invokevirtual 49, 3) := by decide +kernel
theorem dX9_copyFrom_11 : decode cX9_copyFrom 11 = .ok (.aload_n 0, 1) := by decide +kernel
theorem dX9_copyFrom_12 : decode cX9_copyFrom 12 = .ok (.getfield 20, 3) := by decide +kernel
theorem dX9_copyFrom_15 : decode cX9_copyFrom 15 = .ok (.aload_n 1, 1) := by decide +kernel
theorem dX9_copyFrom_16 : decode cX9_copyFrom 16 = .ok (.getfield 20, 3) := by decide +kernel
theorem dX9_copyFrom_19 : decode cX9_copyFrom 19 = .ok (.invokevirtual 49, 3) := by decide +kernel
theorem dX9_copyFrom_22 : decode cX9_copyFrom 22 = .ok (.aload_n 0, 1) := by decide +kernel
theorem dX9_copyFrom_23 : decode cX9_copyFrom 23 = .ok (.getfield 23, 3) := by decide +kernel
theorem dX9_copyFrom_26 : decode cX9_copyFrom 26 = .ok (.aload_n 1, 1) := by decide +kernel
theorem dX9_copyFrom_27 : decode cX9_copyFrom 27 = .ok (.getfield 23, 3) := by decide +kernel
theorem dX9_copyFrom_30 : decode cX9_copyFrom 30 = .ok (.invokevirtual 49, 3) := by decide +kernel
theorem dX9_copyFrom_33 : decode cX9_copyFrom 33 = .ok (.aload_n 0, 1) := by decide +kernel
theorem dX9_copyFrom_34 : decode cX9_copyFrom 34 = .ok (.aload_n 1, 1) := by decide +kernel
theorem dX9_copyFrom_35 : decode cX9_copyFrom 35 = .ok (.getfield 26, 3) := by decide +kernel
theorem dX9_copyFrom_38 : decode cX9_copyFrom 38 = .ok (.putfield 26, 3) := by decide +kernel
theorem dX9_copyFrom_41 : decode cX9_copyFrom 41 = .ok (.return_, 1) := by decide +kernel
theorem dX10_init_0 : decode cX10_init 0 = .ok (.aload_n 0, 1) := by decide +kernel
theorem dX10_init_1 : decode cX10_init 1 = .ok (.invokespecial 1, 3) := by decide +kernel
theorem dX10_init_4 : decode cX10_init 4 = .ok (.aload_n 0, 1) := by decide +kernel
theorem dX10_init_5 : decode cX10_init 5 = .ok (.new 7, 3) := by decide +kernel
theorem dX10_init_8 : decode cX10_init 8 = .ok (.dup, 1) := by decide +kernel
theorem dX10_init_9 : decode cX10_init 9 = .ok (.invokespecial 9, 3) := by decide +kernel
theorem dX10_init_12 : decode cX10_init 12 = .ok (.putfield 10, 3) := by decide +kernel
theorem dX10_init_15 : decode cX10_init 15 = .ok (.aload_n 0, 1) := by decide +kernel
theorem dX10_init_16 : decode cX10_init 16 = .ok (.new 7, 3) := by decide +kernel
theorem dX10_init_19 : decode cX10_init 19 = .ok (.dup, 1) := by decide +kernel
theorem dX10_init_20 : decode cX10_init 20 = .ok (.invokespecial 9, 3) := by decide +kernel
theorem dX10_init_23 : decode cX10_init 23 = .ok (.putfield 16, 3) := by decide +kernel
theorem dX10_init_26 : decode cX10_init 26 = .ok (.aload_n 0, 1) := by decide +kernel
theorem dX10_init_27 : decode cX10_init 27 = .ok (.new 19, 3) := by decide +kernel
theorem dX10_init_30 : decode cX10_init 30 = .ok (.dup, 1) := by decide +kernel
theorem dX10_init_31 : decode cX10_init 31 = .ok (.invokespecial 21, 3) := by decide +kernel
theorem dX10_init_34 : decode cX10_init 34 = .ok (.putfield 22, 3) := by decide +kernel
theorem dX10_init_37 : decode cX10_init 37 = .ok (.aload_n 0, 1) := by decide +kernel
theorem dX10_init_38 : decode cX10_init 38 = .ok (.new 26, 3) := by decide +kernel
theorem dX10_init_41 : decode cX10_init 41 = .ok (.dup, 1) := by decide +kernel
theorem dX10_init_42 : decode cX10_init 42 = .ok (.invokespecial 28, 3) := by decide +kernel
theorem dX10_init_45 : decode cX10_init 45 = .ok (.putfield 29, 3) := by decide +kernel
theorem dX10_init_48 : decode cX10_init 48 = .ok (.aload_n 0, 1) := by decide +kernel
theorem dX10_init_49 : decode cX10_init 49 = .ok (.iconst 4, 1) := by decide +kernel
theorem dX10_init_50 : decode cX10_init 50 = .ok (.anewarray 33, 3) := by decide +kernel
theorem dX10_init_53 : decode cX10_init 53 = .ok (.putfield 35, 3) := by decide +kernel
theorem dX10_init_56 : decode cX10_init 56 = .ok (.aload_n 0, 1) := by decide +kernel
theorem dX10_init_57 : decode cX10_init 57 = .ok (.new 39, 3) := by decide +kernel
theorem dX10_init_60 : decode cX10_init 60 = .ok (.dup, 1) := by decide +kernel
theorem dX10_init_61 : decode cX10_init 61 = .ok (.bipush 40, 2) := by decide +kernel
theorem dX10_init_63 : decode cX10_init 63 = .ok (.invokespecial 41, 3) := by decide +kernel
theorem dX10_init_66 : decode cX10_init 66 = .ok (.putfield 44, 3) := by decide +kernel
theorem dX10_init_69 : decode cX10_init 69 = .ok (.aload_n 0, 1) := by decide +kernel
theorem dX10_init_70 : decode cX10_init 70 = .ok (.new 39, 3) := by decide +kernel
theorem dX10_init_73 : decode cX10_init 73 = .ok (.dup, 1) := by decide +kernel
theorem dX10_init_74 : decode cX10_init 74 = .ok (.bipush 6, 2) := by decide +kernel
theorem dX10_init_76 : decode cX10_init 76 = .ok (.invokespecial 41, 3) := by decide +kernel
theorem dX10_init_79 : decode cX10_init 79 = .ok (.putfield 48, 3) := by decide +kernel
theorem dX10_init_82 : decode cX10_init 82 = .ok (.aload_n 0, 1) := by decide +kernel
theorem dX10_init_83 : decode cX10_init 83 = .ok (.iconst 0, 1) := by decide +kernel
theorem dX10_init_84 : decode cX10_init 84 = .ok (.putfield 51, 3) := by decide +kernel
theorem dX10_init_87 : decode cX10_init 87 = .ok (.iconst 0, 1) := by decide +kernel
theorem dX10_init_88 : decode cX10_init 88 = .ok (.istore_n 1, 1) := by decide +kernel
theorem dX10_init_89 : decode cX10_init 89 = .ok (.iload_n 1, 1) := by decide +kernel
theorem dX10_init_90 : decode cX10_init 90 = .ok (.aload_n 0, 1) := by decide +kernel
theorem dX10_init_91 : decode cX10_init 91 = .ok (.getfield 35, 3) := by decide +kernel
theorem dX10_init_94 : decode cX10_init 94 = .ok (.arraylength, 1) := by decide +kernel
theorem dX10_init_95 : decode cX10_init 95 = .ok (.if_icmp .ge 22, 3) := by decide +kernel
theorem dX10_init_98 : decode cX10_init 98 = .ok (.aload_n 0, 1) := by decide +kernel
theorem dX10_init_99 : decode cX10_init 99 = .ok (.getfield 35, 3) := by decide +kernel
theorem dX10_init_102 : decode cX10_init 102 = .ok (.iload_n 1, 1) := by decide +kernel
theorem dX10_init_103 : decode cX10_init 103 = .ok (.new 33, 3) := by decide +kernel
theorem dX10_init_106 : decode cX10_init 106 = .ok (.dup, 1) := by decide +kernel
theorem dX10_init_107 : decode cX10_init 107 = .ok (.invokespecial 55, 3) := by decide +kernel
theorem dX10_init_110 : decode cX10_init 110 = .ok (.aastore, 1) := by decide +kernel
theorem dX10_init_111 : decode cX10_init 111 = .ok (.iinc 1 1, 3) := by decide +kernel
theorem dX10_init_114 : decode cX10_init 114 = .ok (.goto (-25), 3) := by decide +kernel
theorem dX10_init_117 : decode cX10_init 117 = .ok (.aload_n 0, 1) := by decide +kernel
theorem dX10_init_118 : decode cX10_init 118 = .ok (.getfield 48, 3) := by decide +kernel
theorem dX10_init_121 : decode cX10_init 121 = .ok (.bipush 6, 2) := by decide +kernel
theorem dX10_init_123 : decode cX10_init 123 = .ok (.invokevirtual 56, 3) := by decide +kernel
theorem dX10_init_126 : decode cX10_init 126 = .ok (.return_, 1) := by decide +kernel
theorem dX10_wells_0 : decode cX10_wells 0 = .ok (.iload_n 1, 1) := by decide +kernel
theorem dX10_wells_1 : decode cX10_wells 1 = .ok (.iconst 2, 1) := by decide +kernel
theorem dX10_wells_2 : decode cX10_wells 2 = .ok (.bipush 8, 2) := by decide +kernel
theorem dX10_wells_4 : decode cX10_wells 4 = .ok (.invokestatic 59, 3) := by decide +kernel
theorem dX10_wells_7 : decode cX10_wells 7 = .ok (.ifCond .ne 9, 3) := by decide +kernel
theorem dX10_wells_10 : decode cX10_wells 10 = .ok (.aload_n 0, 1) := by decide +kernel
theorem dX10_wells_11 : decode cX10_wells 11 = .ok (.iconst 1, 1) := by decide +kernel
theorem dX10_wells_12 : decode cX10_wells 12 = .ok (.invokevirtual 63, 3) := by decide +kernel
theorem dX10_wells_15 : decode cX10_wells 15 = .ok (.ireturn, 1) := by decide +kernel
theorem dX10_wells_16 : decode cX10_wells 16 = .ok (.aload_n 0, 1) := by decide +kernel
theorem dX10_wells_17 : decode cX10_wells 17 = .ok (.getfield 10, 3) := by decide +kernel
theorem dX10_wells_20 : decode cX10_wells 20 = .ok (.getfield 67, 3) := by decide +kernel
theorem dX10_wells_23 : decode cX10_wells 23 = .ok (.invokevirtual 71, 3) := by decide +kernel
theorem dX10_wells_26 : decode cX10_wells 26 = .ok (.ifCond .gt 29, 3) := by decide +kernel
theorem dX10_wells_29 : decode cX10_wells 29 = .ok (.aload_n 0, 1) := by decide +kernel
theorem dX10_wells_30 : decode cX10_wells 30 = .ok (.getfield 10, 3) := by decide +kernel
theorem dX10_wells_33 : decode cX10_wells 33 = .ok (.getfield 77, 3) := by decide +kernel
theorem dX10_wells_36 : decode cX10_wells 36 = .ok (.invokevirtual 81, 3) := by decide +kernel
theorem dX10_wells_39 : decode cX10_wells 39 = .ok (.ifCond .gt 16, 3) := by decide +kernel
theorem dX10_wells_42 : decode cX10_wells 42 = .ok (.aload_n 0, 1) := by decide +kernel
theorem dX10_wells_43 : decode cX10_wells 43 = .ok (.getfield 10, 3) := by decide +kernel
theorem dX10_wells_46 : decode cX10_wells 46 = .ok (.getfield 84, 3) := by decide +kernel
theorem dX10_wells_49 : decode cX10_wells 49 = .ok (.invokevirtual 88, 3) := by decide +kernel
theorem dX10_wells_52 : decode cX10_wells 52 = .ok (.ifCond .le 9, 3) := by decide +kernel
theorem dX10_wells_55 : decode cX10_wells 55 = .ok (.aload_n 0, 1) := by decide +kernel
theorem dX10_wells_56 : decode cX10_wells 56 = .ok (.iconst 3, 1) := by decide +kernel
theorem dX10_wells_57 : decode cX10_wells 57 = .ok (.invokevirtual 63, 3) := by decide +kernel
theorem dX10_wells_60 : decode cX10_wells 60 = .ok (.ireturn, 1) := by decide +kernel
theorem dX10_wells_61 : decode cX10_wells 61 = .ok (.aload_n 0, 1) := by decide +kernel
theorem dX10_wells_62 : decode cX10_wells 62 = .ok (.getfield 10, 3) := by decide +kernel
theorem dX10_wells_65 : decode cX10_wells 65 = .ok (.getfield 91, 3) := by decide +kernel
theorem dX10_wells_68 : decode cX10_wells 68 = .ok (.istore_n 2, 1) := by decide +kernel
theorem dX10_wells_69 : decode cX10_wells 69 = .ok (.aload_n 0, 1) := by decide +kernel
theorem dX10_wells_70 : decode cX10_wells 70 = .ok (.getfield 10, 3) := by decide +kernel
theorem dX10_wells_73 : decode cX10_wells 73 = .ok (.iload_n 1, 1) := by decide +kernel
theorem dX10_wells_74 : decode cX10_wells 74 = .ok (.putfield 91, 3) := by decide +kernel
theorem dX10_wells_77 : decode cX10_wells 77 = .ok (.iload_n 2, 1) := by decide +kernel
theorem dX10_wells_78 : decode cX10_wells 78 = .ok (.ireturn, 1) := by decide +kernel
theorem dX10_way_0 : decode cX10_way 0 = .ok (.aload_n 0, 1) := by decide +kernel
theorem dX10_way_1 : decode cX10_way 1 = .ok (.getfield 10, 3) := by decide +kernel
theorem dX10_way_4 : decode cX10_way 4 = .ok (.iload_n 1, 1) := by decide +kernel
theorem dX10_way_5 : decode cX10_way 5 = .ok (.invokevirtual 94, 3) := by decide +kernel
theorem dX10_way_8 : decode cX10_way 8 = .ok (.ifCond .eq 29, 3) := by decide +kernel
theorem dX10_way_11 : decode cX10_way 11 = .ok (.aload_n 0, 1) := by decide +kernel
theorem dX10_way_12 : decode cX10_way 12 = .ok (.getfield 10, 3) := by decide +kernel
theorem dX10_way_15 : decode cX10_way 15 = .ok (.iload_n 2, 1) := by decide +kernel
theorem dX10_way_16 : decode cX10_way 16 = .ok (.invokevirtual 94, 3) := by decide +kernel
theorem dX10_way_19 : decode cX10_way 19 = .ok (.ifCond .eq 18, 3) := by decide +kernel
theorem dX10_way_22 : decode cX10_way 22 = .ok (.iload_n 1, 1) := by decide +kernel
theorem dX10_way_23 : decode cX10_way 23 = .ok (.iload_n 2, 1) := by decide +kernel
theorem dX10_way_24 : decode cX10_way 24 = .ok (.if_icmp .eq 13, 3) := by decide +kernel
theorem dX10_way_27 : decode cX10_way 27 = .ok (.iload_n 3, 1) := by decide +kernel
theorem dX10_way_28 : decode cX10_way 28 = .ok (.iconst 1, 1) := by decide +kernel
theorem dX10_way_29 : decode cX10_way 29 = .ok (.bipush 9, 2) := by decide +kernel
theorem dX10_way_31 : decode cX10_way 31 = .ok (.invokestatic 59, 3) := by decide +kernel
theorem dX10_way_34 : decode cX10_way 34 = .ok (.ifCond .ne 9, 3) := by decide +kernel
theorem dX10_way_37 : decode cX10_way 37 = .ok (.aload_n 0, 1) := by decide +kernel
theorem dX10_way_38 : decode cX10_way 38 = .ok (.iconst 1, 1) := by decide +kernel
theorem dX10_way_39 : decode cX10_way 39 = .ok (.invokevirtual 63, 3) := by decide +kernel
theorem dX10_way_42 : decode cX10_way 42 = .ok (.ireturn, 1) := by decide +kernel
theorem dX10_way_43 : decode cX10_way 43 = .ok (.aload_n 0, 1) := by decide +kernel
theorem dX10_way_44 : decode cX10_way 44 = .ok (.getfield 10, 3) := by decide +kernel
theorem dX10_way_47 : decode cX10_way 47 = .ok (.getfield 67, 3) := by decide +kernel
theorem dX10_way_50 : decode cX10_way 50 = .ok (.invokevirtual 71, 3) := by decide +kernel
theorem dX10_way_53 : decode cX10_way 53 = .ok (.bipush 8, 2) := by decide +kernel
theorem dX10_way_55 : decode cX10_way 55 = .ok (.if_icmp .lt 9, 3) := by decide +kernel
theorem dX10_way_58 : decode cX10_way 58 = .ok (.aload_n 0, 1) := by decide +kernel
theorem dX10_way_59 : decode cX10_way 59 = .ok (.iconst 4, 1) := by decide +kernel
theorem dX10_way_60 : decode cX10_way 60 = .ok (.invokevirtual 63, 3) := by decide +kernel
theorem dX10_way_63 : decode cX10_way 63 = .ok (.ireturn, 1) := by decide +kernel
theorem dX10_way_64 : decode cX10_way 64 = .ok (.aload_n 0, 1) := by decide +kernel
theorem dX10_way_65 : decode cX10_way 65 = .ok (.getfield 10, 3) := by decide +kernel
theorem dX10_way_68 : decode cX10_way 68 = .ok (.getfield 67, 3) := by decide +kernel
theorem dX10_way_71 : decode cX10_way 71 = .ok (.iload_n 1, 1) := by decide +kernel
theorem dX10_way_72 : decode cX10_way 72 = .ok (.iload_n 2, 1) := by decide +kernel
theorem dX10_way_73 : decode cX10_way 73 = .ok (.iload_n 3, 1) := by decide +kernel
theorem dX10_way_74 : decode cX10_way 74 = .ok (.invokevirtual 98, 3) := by decide +kernel
theorem dX10_way_77 : decode cX10_way 77 = .ok (.aload_n 0, 1) := by decide +kernel
theorem dX10_way_78 : decode cX10_way 78 = .ok (.getfield 10, 3) := by decide +kernel
theorem dX10_way_81 : decode cX10_way 81 = .ok (.getfield 67, 3) := by decide +kernel
theorem dX10_way_84 : decode cX10_way 84 = .ok (.invokevirtual 71, 3) := by decide +kernel
theorem dX10_way_87 : decode cX10_way 87 = .ok (.iconst 1, 1) := by decide +kernel
theorem dX10_way_88 : decode cX10_way 88 = .ok (.isub, 1) := by decide +kernel
theorem dX10_way_89 : decode cX10_way 89 = .ok (.ireturn, 1) := by decide +kernel
theorem dX10_ofWay_0 : decode cX10_ofWay 0 = .ok (.aload_n 0, 1) := by decide +kernel
theorem dX10_ofWay_1 : decode cX10_ofWay 1 = .ok (.getfield 10, 3) := by decide +kernel
theorem dX10_ofWay_4 : decode cX10_ofWay 4 = .ok (.getfield 67, 3) := by decide +kernel
theorem dX10_ofWay_7 : decode cX10_ofWay 7 = .ok (.iload_n 1, 1) := by decide +kernel
theorem dX10_ofWay_8 : decode cX10_ofWay 8 = .ok (.invokevirtual 102, 3) := by decide +kernel
theorem dX10_ofWay_11 : decode cX10_ofWay 11 = .ok (.ifCond .ne 9, 3) := by decide +kernel
theorem dX10_ofWay_14 : decode cX10_ofWay 14 = .ok (.aload_n 0, 1) := by decide +kernel
theorem dX10_ofWay_15 : decode cX10_ofWay 15 = .ok (.iconst 1, 1) := by decide +kernel
theorem dX10_ofWay_16 : decode cX10_ofWay 16 = .ok (.invokevirtual 63, 3) := by decide +kernel
theorem dX10_ofWay_19 : decode cX10_ofWay 19 = .ok (.ireturn, 1) := by decide +kernel
theorem dX10_ofWay_20 : decode cX10_ofWay 20 = .ok (.iload_n 2, 1) := by decide +kernel
theorem dX10_ofWay_21 : decode cX10_ofWay 21 = .ok (.tableswitch 91 0 3 #[31, 46, 61, 76], 31) := by decide +kernel
theorem dX10_ofWay_52 : decode cX10_ofWay 52 = .ok (.aload_n 0, 1) := by decide +kernel
theorem dX10_ofWay_53 : decode cX10_ofWay 53 = .ok (.getfield 10, 3) := by decide +kernel
theorem dX10_ofWay_56 : decode cX10_ofWay 56 = .ok (.getfield 67, 3) := by decide +kernel
theorem dX10_ofWay_59 : decode cX10_ofWay 59 = .ok (.getfield 105, 3) := by decide +kernel
theorem dX10_ofWay_62 : decode cX10_ofWay 62 = .ok (.iload_n 1, 1) := by decide +kernel
theorem dX10_ofWay_63 : decode cX10_ofWay 63 = .ok (.invokevirtual 108, 3) := by decide +kernel
theorem dX10_ofWay_66 : decode cX10_ofWay 66 = .ok (.ireturn, 1) := by decide +kernel
theorem dX10_ofWay_67 : decode cX10_ofWay 67 = .ok (.aload_n 0, 1) := by decide +kernel
theorem dX10_ofWay_68 : decode cX10_ofWay 68 = .ok (.getfield 10, 3) := by decide +kernel
theorem dX10_ofWay_71 : decode cX10_ofWay 71 = .ok (.getfield 67, 3) := by decide +kernel
theorem dX10_ofWay_74 : decode cX10_ofWay 74 = .ok (.getfield 111, 3) := by decide +kernel
theorem dX10_ofWay_77 : decode cX10_ofWay 77 = .ok (.iload_n 1, 1) := by decide +kernel
theorem dX10_ofWay_78 : decode cX10_ofWay 78 = .ok (.invokevirtual 108, 3) := by decide +kernel
theorem dX10_ofWay_81 : decode cX10_ofWay 81 = .ok (.ireturn, 1) := by decide +kernel
theorem dX10_ofWay_82 : decode cX10_ofWay 82 = .ok (.aload_n 0, 1) := by decide +kernel
theorem dX10_ofWay_83 : decode cX10_ofWay 83 = .ok (.getfield 10, 3) := by decide +kernel
theorem dX10_ofWay_86 : decode cX10_ofWay 86 = .ok (.getfield 67, 3) := by decide +kernel
theorem dX10_ofWay_89 : decode cX10_ofWay 89 = .ok (.getfield 114, 3) := by decide +kernel
theorem dX10_ofWay_92 : decode cX10_ofWay 92 = .ok (.iload_n 1, 1) := by decide +kernel
theorem dX10_ofWay_93 : decode cX10_ofWay 93 = .ok (.invokevirtual 108, 3) := by decide +kernel
theorem dX10_ofWay_96 : decode cX10_ofWay 96 = .ok (.ireturn, 1) := by decide +kernel
theorem dX10_ofWay_97 : decode cX10_ofWay 97 = .ok (.aload_n 0, 1) := by decide +kernel
theorem dX10_ofWay_98 : decode cX10_ofWay 98 = .ok (.getfield 10, 3) := by decide +kernel
theorem dX10_ofWay_101 : decode cX10_ofWay 101 = .ok (.getfield 67, 3) := by decide +kernel
theorem dX10_ofWay_104 : decode cX10_ofWay 104 = .ok (.getfield 117, 3) := by decide +kernel
theorem dX10_ofWay_107 : decode cX10_ofWay 107 = .ok (.iload_n 1, 1) := by decide +kernel
theorem dX10_ofWay_108 : decode cX10_ofWay 108 = .ok (.invokestatic 120, 3) := by decide +kernel
theorem dX10_ofWay_111 : decode cX10_ofWay 111 = .ok (.ireturn, 1) := by decide +kernel
theorem dX10_ofWay_112 : decode cX10_ofWay 112 = .ok (.aload_n 0, 1) := by decide +kernel
theorem dX10_ofWay_113 : decode cX10_ofWay 113 = .ok (.iconst 1, 1) := by decide +kernel
theorem dX10_ofWay_114 : decode cX10_ofWay 114 = .ok (.invokevirtual 63, 3) := by decide +kernel
theorem dX10_ofWay_117 : decode cX10_ofWay 117 = .ok (.ireturn, 1) := by decide +kernel
theorem dX10_stop_0 : decode cX10_stop 0 = .ok (.aload_n 0, 1) := by decide +kernel
theorem dX10_stop_1 : decode cX10_stop 1 = .ok (.getfield 10, 3) := by decide +kernel
theorem dX10_stop_4 : decode cX10_stop 4 = .ok (.getfield 67, 3) := by decide +kernel
theorem dX10_stop_7 : decode cX10_stop 7 = .ok (.iload_n 1, 1) := by decide +kernel
theorem dX10_stop_8 : decode cX10_stop 8 = .ok (.invokevirtual 102, 3) := by decide +kernel
theorem dX10_stop_11 : decode cX10_stop 11 = .ok (.ifCond .eq 12, 3) := by decide +kernel
theorem dX10_stop_14 : decode cX10_stop 14 = .ok (.iload_n 2, 1) := by decide +kernel
theorem dX10_stop_15 : decode cX10_stop 15 = .ok (.iconst 0, 1) := by decide +kernel
theorem dX10_stop_16 : decode cX10_stop 16 = .ok (.iconst 1, 1) := by decide +kernel
theorem dX10_stop_17 : decode cX10_stop 17 = .ok (.invokestatic 59, 3) := by decide +kernel
theorem dX10_stop_20 : decode cX10_stop 20 = .ok (.ifCond .ne 9, 3) := by decide +kernel
theorem dX10_stop_23 : decode cX10_stop 23 = .ok (.aload_n 0, 1) := by decide +kernel
theorem dX10_stop_24 : decode cX10_stop 24 = .ok (.iconst 1, 1) := by decide +kernel
theorem dX10_stop_25 : decode cX10_stop 25 = .ok (.invokevirtual 63, 3) := by decide +kernel
theorem dX10_stop_28 : decode cX10_stop 28 = .ok (.ireturn, 1) := by decide +kernel
theorem dX10_stop_29 : decode cX10_stop 29 = .ok (.aload_n 0, 1) := by decide +kernel
theorem dX10_stop_30 : decode cX10_stop 30 = .ok (.getfield 10, 3) := by decide +kernel
theorem dX10_stop_33 : decode cX10_stop 33 = .ok (.getfield 67, 3) := by decide +kernel
theorem dX10_stop_36 : decode cX10_stop 36 = .ok (.getfield 117, 3) := by decide +kernel
theorem dX10_stop_39 : decode cX10_stop 39 = .ok (.iload_n 1, 1) := by decide +kernel
theorem dX10_stop_40 : decode cX10_stop 40 = .ok (.invokestatic 120, 3) := by decide +kernel
theorem dX10_stop_43 : decode cX10_stop 43 = .ok (.istore_n 3, 1) := by decide +kernel
theorem dX10_stop_44 : decode cX10_stop 44 = .ok (.aload_n 0, 1) := by decide +kernel
theorem dX10_stop_45 : decode cX10_stop 45 = .ok (.getfield 10, 3) := by decide +kernel
theorem dX10_stop_48 : decode cX10_stop 48 = .ok (.getfield 67, 3) := by decide +kernel
theorem dX10_stop_51 : decode cX10_stop 51 = .ok (.aload_n 0, 1) := by decide +kernel
theorem dX10_stop_52 : decode cX10_stop 52 = .ok (.getfield 10, 3) := by decide +kernel
theorem dX10_stop_55 : decode cX10_stop 55 = .ok (.getfield 67, 3) := by decide +kernel
theorem dX10_stop_58 : decode cX10_stop 58 = .ok (.getfield 117, 3) := by decide +kernel
theorem dX10_stop_61 : decode cX10_stop 61 = .ok (.iload_n 1, 1) := by decide +kernel
theorem dX10_stop_62 : decode cX10_stop 62 = .ok (.iload_n 2, 1) := by decide +kernel
theorem dX10_stop_63 : decode cX10_stop 63 = .ok (.iconst 1, 1) := by decide +kernel
theorem dX10_stop_64 : decode cX10_stop 64 = .ok (.if_icmp .ne 7, 3) := by decide +kernel
theorem dX10_stop_67 : decode cX10_stop 67 = .ok (.iconst 1, 1) := by decide +kernel
theorem dX10_stop_68 : decode cX10_stop 68 = .ok (.goto 4, 3) := by decide +kernel
theorem dX10_stop_71 : decode cX10_stop 71 = .ok (.iconst 0, 1) := by decide +kernel
theorem dX10_stop_72 : decode cX10_stop 72 = .ok (.invokestatic 124, 3) := by decide +kernel
theorem dX10_stop_75 : decode cX10_stop 75 = .ok (.putfield 117, 3) := by decide +kernel
theorem dX10_stop_78 : decode cX10_stop 78 = .ok (.iload_n 3, 1) := by decide +kernel
theorem dX10_stop_79 : decode cX10_stop 79 = .ok (.ireturn, 1) := by decide +kernel
theorem dX10_rain_0 : decode cX10_rain 0 = .ok (.iload_n 1, 1) := by decide +kernel
theorem dX10_rain_1 : decode cX10_rain 1 = .ok (.iconst 0, 1) := by decide +kernel
theorem dX10_rain_2 : decode cX10_rain 2 = .ok (.bipush 9, 2) := by decide +kernel
theorem dX10_rain_4 : decode cX10_rain 4 = .ok (.invokestatic 59, 3) := by decide +kernel
theorem dX10_rain_7 : decode cX10_rain 7 = .ok (.ifCond .ne 9, 3) := by decide +kernel
theorem dX10_rain_10 : decode cX10_rain 10 = .ok (.aload_n 0, 1) := by decide +kernel
theorem dX10_rain_11 : decode cX10_rain 11 = .ok (.iconst 1, 1) := by decide +kernel
theorem dX10_rain_12 : decode cX10_rain 12 = .ok (.invokevirtual 63, 3) := by decide +kernel
theorem dX10_rain_15 : decode cX10_rain 15 = .ok (.ireturn, 1) := by decide +kernel
theorem dX10_rain_16 : decode cX10_rain 16 = .ok (.aload_n 0, 1) := by decide +kernel
theorem dX10_rain_17 : decode cX10_rain 17 = .ok (.getfield 10, 3) := by decide +kernel
theorem dX10_rain_20 : decode cX10_rain 20 = .ok (.getfield 128, 3) := by decide +kernel
theorem dX10_rain_23 : decode cX10_rain 23 = .ok (.istore_n 2, 1) := by decide +kernel
theorem dX10_rain_24 : decode cX10_rain 24 = .ok (.aload_n 0, 1) := by decide +kernel
theorem dX10_rain_25 : decode cX10_rain 25 = .ok (.getfield 10, 3) := by decide +kernel
theorem dX10_rain_28 : decode cX10_rain 28 = .ok (.iload_n 1, 1) := by decide +kernel
theorem dX10_rain_29 : decode cX10_rain 29 = .ok (.putfield 128, 3) := by decide +kernel
theorem dX10_rain_32 : decode cX10_rain 32 = .ok (.iload_n 2, 1) := by decide +kernel
theorem dX10_rain_33 : decode cX10_rain 33 = .ok (.ireturn, 1) := by decide +kernel
theorem dX10_call_0 : decode cX10_call 0 = .ok (.iload_n 1, 1) := by decide +kernel
theorem dX10_call_1 : decode cX10_call 1 = .ok (.invokestatic 131, 3) := by decide +kernel
theorem dX10_call_4 : decode cX10_call 4 = .ok (.ifCond .eq 24, 3) := by decide +kernel
theorem dX10_call_7 : decode cX10_call 7 = .ok (.aload_n 0, 1) := by decide +kernel
theorem dX10_call_8 : decode cX10_call 8 = .ok (.getfield 10, 3) := by decide +kernel
theorem dX10_call_11 : decode cX10_call 11 = .ok (.iload_n 2, 1) := by decide +kernel
theorem dX10_call_12 : decode cX10_call 12 = .ok (.invokevirtual 94, 3) := by decide +kernel
theorem dX10_call_15 : decode cX10_call 15 = .ok (.ifCond .eq 13, 3) := by decide +kernel
theorem dX10_call_18 : decode cX10_call 18 = .ok (.iload_n 3, 1) := by decide +kernel
theorem dX10_call_19 : decode cX10_call 19 = .ok (.iconst 0, 1) := by decide +kernel
theorem dX10_call_20 : decode cX10_call 20 = .ok (.bipush 99, 2) := by decide +kernel
theorem dX10_call_22 : decode cX10_call 22 = .ok (.invokestatic 59, 3) := by decide +kernel
theorem dX10_call_25 : decode cX10_call 25 = .ok (.ifCond .ne 9, 3) := by decide +kernel
theorem dX10_call_28 : decode cX10_call 28 = .ok (.aload_n 0, 1) := by decide +kernel
theorem dX10_call_29 : decode cX10_call 29 = .ok (.iconst 1, 1) := by decide +kernel
theorem dX10_call_30 : decode cX10_call 30 = .ok (.invokevirtual 63, 3) := by decide +kernel
theorem dX10_call_33 : decode cX10_call 33 = .ok (.ireturn, 1) := by decide +kernel
theorem dX10_call_34 : decode cX10_call 34 = .ok (.aload_n 0, 1) := by decide +kernel
theorem dX10_call_35 : decode cX10_call 35 = .ok (.getfield 10, 3) := by decide +kernel
theorem dX10_call_38 : decode cX10_call 38 = .ok (.getfield 77, 3) := by decide +kernel
theorem dX10_call_41 : decode cX10_call 41 = .ok (.invokevirtual 81, 3) := by decide +kernel
theorem dX10_call_44 : decode cX10_call 44 = .ok (.bipush 8, 2) := by decide +kernel
theorem dX10_call_46 : decode cX10_call 46 = .ok (.if_icmp .lt 9, 3) := by decide +kernel
theorem dX10_call_49 : decode cX10_call 49 = .ok (.aload_n 0, 1) := by decide +kernel
theorem dX10_call_50 : decode cX10_call 50 = .ok (.iconst 4, 1) := by decide +kernel
theorem dX10_call_51 : decode cX10_call 51 = .ok (.invokevirtual 63, 3) := by decide +kernel
theorem dX10_call_54 : decode cX10_call 54 = .ok (.ireturn, 1) := by decide +kernel
theorem dX10_call_55 : decode cX10_call 55 = .ok (.aload_n 0, 1) := by decide +kernel
theorem dX10_call_56 : decode cX10_call 56 = .ok (.getfield 10, 3) := by decide +kernel
theorem dX10_call_59 : decode cX10_call 59 = .ok (.getfield 77, 3) := by decide +kernel
theorem dX10_call_62 : decode cX10_call 62 = .ok (.iload_n 1, 1) := by decide +kernel
theorem dX10_call_63 : decode cX10_call 63 = .ok (.bipush 10, 2) := by decide +kernel
theorem dX10_call_65 : decode cX10_call 65 = .ok (.idiv, 1) := by decide +kernel
theorem dX10_call_66 : decode cX10_call 66 = .ok (.iload_n 1, 1) := by decide +kernel
theorem dX10_call_67 : decode cX10_call 67 = .ok (.bipush 10, 2) := by decide +kernel
theorem dX10_call_69 : decode cX10_call 69 = .ok (.irem, 1) := by decide +kernel
theorem dX10_call_70 : decode cX10_call 70 = .ok (.iload_n 2, 1) := by decide +kernel
theorem dX10_call_71 : decode cX10_call 71 = .ok (.iload_n 3, 1) := by decide +kernel
theorem dX10_call_72 : decode cX10_call 72 = .ok (.invokevirtual 134, 3) := by decide +kernel
theorem dX10_call_75 : decode cX10_call 75 = .ok (.aload_n 0, 1) := by decide +kernel
theorem dX10_call_76 : decode cX10_call 76 = .ok (.getfield 10, 3) := by decide +kernel
theorem dX10_call_79 : decode cX10_call 79 = .ok (.getfield 77, 3) := by decide +kernel
theorem dX10_call_82 : decode cX10_call 82 = .ok (.invokevirtual 81, 3) := by decide +kernel
theorem dX10_call_85 : decode cX10_call 85 = .ok (.iconst 1, 1) := by decide +kernel
theorem dX10_call_86 : decode cX10_call 86 = .ok (.isub, 1) := by decide +kernel
theorem dX10_call_87 : decode cX10_call 87 = .ok (.ireturn, 1) := by decide +kernel
theorem dX10_ofSaying_0 : decode cX10_ofSaying 0 = .ok (.aload_n 0, 1) := by decide +kernel
theorem dX10_ofSaying_1 : decode cX10_ofSaying 1 = .ok (.getfield 10, 3) := by decide +kernel
theorem dX10_ofSaying_4 : decode cX10_ofSaying 4 = .ok (.getfield 77, 3) := by decide +kernel
theorem dX10_ofSaying_7 : decode cX10_ofSaying 7 = .ok (.iload_n 1, 1) := by decide +kernel
theorem dX10_ofSaying_8 : decode cX10_ofSaying 8 = .ok (.invokevirtual 137, 3) := by decide +kernel
theorem dX10_ofSaying_11 : decode cX10_ofSaying 11 = .ok (.ifCond .ne 9, 3) := by decide +kernel
theorem dX10_ofSaying_14 : decode cX10_ofSaying 14 = .ok (.aload_n 0, 1) := by decide +kernel
theorem dX10_ofSaying_15 : decode cX10_ofSaying 15 = .ok (.iconst 1, 1) := by decide +kernel
theorem dX10_ofSaying_16 : decode cX10_ofSaying 16 = .ok (.invokevirtual 63, 3) := by decide +kernel
theorem dX10_ofSaying_19 : decode cX10_ofSaying 19 = .ok (.ireturn, 1) := by decide +kernel
theorem dX10_ofSaying_20 : decode cX10_ofSaying 20 = .ok (.aload_n 0, 1) := by decide +kernel
theorem dX10_ofSaying_21 : decode cX10_ofSaying 21 = .ok (.getfield 10, 3) := by decide +kernel
theorem dX10_ofSaying_24 : decode cX10_ofSaying 24 = .ok (.iload_n 1, 1) := by decide +kernel
theorem dX10_ofSaying_25 : decode cX10_ofSaying 25 = .ok (.invokevirtual 138, 3) := by decide +kernel
theorem dX10_ofSaying_28 : decode cX10_ofSaying 28 = .ok (.astore_n 3, 1) := by decide +kernel
theorem dX10_ofSaying_29 : decode cX10_ofSaying 29 = .ok (.iload_n 2, 1) := by decide +kernel
theorem dX10_ofSaying_30 : decode cX10_ofSaying 30 = .ok (.tableswitch 111 0 7 #[46, 51, 56, 61, 66, 71, 87, 106], 46) := by decide +kernel
theorem dX10_ofSaying_76 : decode cX10_ofSaying 76 = .ok (.aload_n 3, 1) := by decide +kernel
theorem dX10_ofSaying_77 : decode cX10_ofSaying 77 = .ok (.getfield 142, 3) := by decide +kernel
theorem dX10_ofSaying_80 : decode cX10_ofSaying 80 = .ok (.ireturn, 1) := by decide +kernel
theorem dX10_ofSaying_81 : decode cX10_ofSaying 81 = .ok (.aload_n 3, 1) := by decide +kernel
theorem dX10_ofSaying_82 : decode cX10_ofSaying 82 = .ok (.getfield 147, 3) := by decide +kernel
theorem dX10_ofSaying_85 : decode cX10_ofSaying 85 = .ok (.ireturn, 1) := by decide +kernel
theorem dX10_ofSaying_86 : decode cX10_ofSaying 86 = .ok (.aload_n 3, 1) := by decide +kernel
theorem dX10_ofSaying_87 : decode cX10_ofSaying 87 = .ok (.getfield 150, 3) := by decide +kernel
theorem dX10_ofSaying_90 : decode cX10_ofSaying 90 = .ok (.ireturn, 1) := by decide +kernel
theorem dX10_ofSaying_91 : decode cX10_ofSaying 91 = .ok (.aload_n 3, 1) := by decide +kernel
theorem dX10_ofSaying_92 : decode cX10_ofSaying 92 = .ok (.getfield 153, 3) := by decide +kernel
theorem dX10_ofSaying_95 : decode cX10_ofSaying 95 = .ok (.ireturn, 1) := by decide +kernel
theorem dX10_ofSaying_96 : decode cX10_ofSaying 96 = .ok (.aload_n 3, 1) := by decide +kernel
theorem dX10_ofSaying_97 : decode cX10_ofSaying 97 = .ok (.getfield 156, 3) := by decide +kernel
theorem dX10_ofSaying_100 : decode cX10_ofSaying 100 = .ok (.ireturn, 1) := by decide +kernel
theorem dX10_ofSaying_101 : decode cX10_ofSaying 101 = .ok (.aload_n 0, 1) := by decide +kernel
theorem dX10_ofSaying_102 : decode cX10_ofSaying 102 = .ok (.getfield 10, 3) := by decide +kernel
theorem dX10_ofSaying_105 : decode cX10_ofSaying 105 = .ok (.aload_n 3, 1) := by decide +kernel
theorem dX10_ofSaying_106 : decode cX10_ofSaying 106 = .ok (.aload_n 0, 1) := by decide +kernel
theorem dX10_ofSaying_107 : decode cX10_ofSaying 107 = .ok (.getfield 10, 3) := by decide +kernel
theorem dX10_ofSaying_110 : decode cX10_ofSaying 110 = .ok (.getfield 128, 3) := by decide +kernel
theorem dX10_ofSaying_113 : decode cX10_ofSaying 113 = .ok (.invokevirtual 159, 3) := by decide +kernel
theorem dX10_ofSaying_116 : decode cX10_ofSaying 116 = .ok (.ireturn, 1) := by decide +kernel
theorem dX10_ofSaying_117 : decode cX10_ofSaying 117 = .ok (.aload_n 0, 1) := by decide +kernel
theorem dX10_ofSaying_118 : decode cX10_ofSaying 118 = .ok (.getfield 10, 3) := by decide +kernel
theorem dX10_ofSaying_121 : decode cX10_ofSaying 121 = .ok (.aload_n 3, 1) := by decide +kernel
theorem dX10_ofSaying_122 : decode cX10_ofSaying 122 = .ok (.aload_n 0, 1) := by decide +kernel
theorem dX10_ofSaying_123 : decode cX10_ofSaying 123 = .ok (.getfield 10, 3) := by decide +kernel
theorem dX10_ofSaying_126 : decode cX10_ofSaying 126 = .ok (.getfield 67, 3) := by decide +kernel
theorem dX10_ofSaying_129 : decode cX10_ofSaying 129 = .ok (.getfield 117, 3) := by decide +kernel
theorem dX10_ofSaying_132 : decode cX10_ofSaying 132 = .ok (.invokevirtual 163, 3) := by decide +kernel
theorem dX10_ofSaying_135 : decode cX10_ofSaying 135 = .ok (.ireturn, 1) := by decide +kernel
theorem dX10_ofSaying_136 : decode cX10_ofSaying 136 = .ok (.aload_n 3, 1) := by decide +kernel
theorem dX10_ofSaying_137 : decode cX10_ofSaying 137 = .ok (.getfield 166, 3) := by decide +kernel
theorem dX10_ofSaying_140 : decode cX10_ofSaying 140 = .ok (.ireturn, 1) := by decide +kernel
theorem dX10_ofSaying_141 : decode cX10_ofSaying 141 = .ok (.aload_n 0, 1) := by decide +kernel
theorem dX10_ofSaying_142 : decode cX10_ofSaying 142 = .ok (.iconst 1, 1) := by decide +kernel
theorem dX10_ofSaying_143 : decode cX10_ofSaying 143 = .ok (.invokevirtual 63, 3) := by decide +kernel
theorem dX10_ofSaying_146 : decode cX10_ofSaying 146 = .ok (.ireturn, 1) := by decide +kernel
theorem dX10_change_0 : decode cX10_change 0 = .ok (.aload_n 0, 1) := by decide +kernel
theorem dX10_change_1 : decode cX10_change 1 = .ok (.getfield 10, 3) := by decide +kernel
theorem dX10_change_4 : decode cX10_change 4 = .ok (.getfield 77, 3) := by decide +kernel
theorem dX10_change_7 : decode cX10_change 7 = .ok (.iload_n 1, 1) := by decide +kernel
theorem dX10_change_8 : decode cX10_change 8 = .ok (.invokevirtual 137, 3) := by decide +kernel
theorem dX10_change_11 : decode cX10_change 11 = .ok (.ifCond .eq 12, 3) := by decide +kernel
theorem dX10_change_14 : decode cX10_change 14 = .ok (.iload_n 2, 1) := by decide +kernel
theorem dX10_change_15 : decode cX10_change 15 = .ok (.iconst 0, 1) := by decide +kernel
theorem dX10_change_16 : decode cX10_change 16 = .ok (.iconst 1, 1) := by decide +kernel
theorem dX10_change_17 : decode cX10_change 17 = .ok (.invokestatic 59, 3) := by decide +kernel
theorem dX10_change_20 : decode cX10_change 20 = .ok (.ifCond .ne 9, 3) := by decide +kernel
theorem dX10_change_23 : decode cX10_change 23 = .ok (.aload_n 0, 1) := by decide +kernel
theorem dX10_change_24 : decode cX10_change 24 = .ok (.iconst 1, 1) := by decide +kernel
theorem dX10_change_25 : decode cX10_change 25 = .ok (.invokevirtual 63, 3) := by decide +kernel
theorem dX10_change_28 : decode cX10_change 28 = .ok (.ireturn, 1) := by decide +kernel
theorem dX10_change_29 : decode cX10_change 29 = .ok (.iload_n 2, 1) := by decide +kernel
theorem dX10_change_30 : decode cX10_change 30 = .ok (.ifCond .ne 17, 3) := by decide +kernel
theorem dX10_change_33 : decode cX10_change 33 = .ok (.aload_n 0, 1) := by decide +kernel
theorem dX10_change_34 : decode cX10_change 34 = .ok (.getfield 10, 3) := by decide +kernel
theorem dX10_change_37 : decode cX10_change 37 = .ok (.iload_n 3, 1) := by decide +kernel
theorem dX10_change_38 : decode cX10_change 38 = .ok (.invokevirtual 94, 3) := by decide +kernel
theorem dX10_change_41 : decode cX10_change 41 = .ok (.ifCond .ne 22, 3) := by decide +kernel
theorem dX10_change_44 : decode cX10_change 44 = .ok (.goto 13, 3) := by decide +kernel
theorem dX10_change_47 : decode cX10_change 47 = .ok (.iload_n 3, 1) := by decide +kernel
theorem dX10_change_48 : decode cX10_change 48 = .ok (.iconst 0, 1) := by decide +kernel
theorem dX10_change_49 : decode cX10_change 49 = .ok (.bipush 99, 2) := by decide +kernel
theorem dX10_change_51 : decode cX10_change 51 = .ok (.invokestatic 59, 3) := by decide +kernel
theorem dX10_change_54 : decode cX10_change 54 = .ok (.ifCond .ne 9, 3) := by decide +kernel
theorem dX10_change_57 : decode cX10_change 57 = .ok (.aload_n 0, 1) := by decide +kernel
theorem dX10_change_58 : decode cX10_change 58 = .ok (.iconst 1, 1) := by decide +kernel
theorem dX10_change_59 : decode cX10_change 59 = .ok (.invokevirtual 63, 3) := by decide +kernel
theorem dX10_change_62 : decode cX10_change 62 = .ok (.ireturn, 1) := by decide +kernel
theorem dX10_change_63 : decode cX10_change 63 = .ok (.iload_n 2, 1) := by decide +kernel
theorem dX10_change_64 : decode cX10_change 64 = .ok (.ifCond .ne 16, 3) := by decide +kernel
theorem dX10_change_67 : decode cX10_change 67 = .ok (.aload_n 0, 1) := by decide +kernel
theorem dX10_change_68 : decode cX10_change 68 = .ok (.getfield 10, 3) := by decide +kernel
theorem dX10_change_71 : decode cX10_change 71 = .ok (.getfield 77, 3) := by decide +kernel
theorem dX10_change_74 : decode cX10_change 74 = .ok (.getfield 169, 3) := by decide +kernel
theorem dX10_change_77 : decode cX10_change 77 = .ok (.goto 13, 3) := by decide +kernel
theorem dX10_change_80 : decode cX10_change 80 = .ok (.aload_n 0, 1) := by decide +kernel
theorem dX10_change_81 : decode cX10_change 81 = .ok (.getfield 10, 3) := by decide +kernel
theorem dX10_change_84 : decode cX10_change 84 = .ok (.getfield 77, 3) := by decide +kernel
theorem dX10_change_87 : decode cX10_change 87 = .ok (.getfield 172, 3) := by decide +kernel
theorem dX10_change_90 : decode cX10_change 90 = .ok (.astore 4, 2) := by decide +kernel
theorem dX10_change_92 : decode cX10_change 92 = .ok (.aload 4, 2) := by decide +kernel
theorem dX10_change_94 : decode cX10_change 94 = .ok (.iload_n 1, 1) := by decide +kernel
theorem dX10_change_95 : decode cX10_change 95 = .ok (.invokevirtual 108, 3) := by decide +kernel
theorem dX10_change_98 : decode cX10_change 98 = .ok (.istore 5, 2) := by decide +kernel
theorem dX10_change_100 : decode cX10_change 100 = .ok (.aload 4, 2) := by decide +kernel
theorem dX10_change_102 : decode cX10_change 102 = .ok (.iload_n 1, 1) := by decide +kernel
theorem dX10_change_103 : decode cX10_change 103 = .ok (.iload_n 3, 1) := by decide +kernel
theorem dX10_change_104 : decode cX10_change 104 = .ok (.invokevirtual 175, 3) := by decide +kernel
theorem dX10_change_107 : decode cX10_change 107 = .ok (.iload_n 2, 1) := by decide +kernel
theorem dX10_change_108 : decode cX10_change 108 = .ok (.ifCond .ne 18, 3) := by decide +kernel
theorem dX10_change_111 : decode cX10_change 111 = .ok (.aload_n 0, 1) := by decide +kernel
theorem dX10_change_112 : decode cX10_change 112 = .ok (.getfield 10, 3) := by decide +kernel
theorem dX10_change_115 : decode cX10_change 115 = .ok (.getfield 77, 3) := by decide +kernel
theorem dX10_change_118 : decode cX10_change 118 = .ok (.getfield 179, 3) := by decide +kernel
theorem dX10_change_121 : decode cX10_change 121 = .ok (.iload_n 1, 1) := by decide +kernel
theorem dX10_change_122 : decode cX10_change 122 = .ok (.iconst 0, 1) := by decide +kernel
theorem dX10_change_123 : decode cX10_change 123 = .ok (.invokevirtual 175, 3) := by decide +kernel
theorem dX10_change_126 : decode cX10_change 126 = .ok (.iload 5, 2) := by decide +kernel
theorem dX10_change_128 : decode cX10_change 128 = .ok (.ireturn, 1) := by decide +kernel
theorem dX10_become_0 : decode cX10_become 0 = .ok (.aload_n 0, 1) := by decide +kernel
theorem dX10_become_1 : decode cX10_become 1 = .ok (.getfield 10, 3) := by decide +kernel
theorem dX10_become_4 : decode cX10_become 4 = .ok (.getfield 77, 3) := by decide +kernel
theorem dX10_become_7 : decode cX10_become 7 = .ok (.iload_n 1, 1) := by decide +kernel
theorem dX10_become_8 : decode cX10_become 8 = .ok (.invokevirtual 137, 3) := by decide +kernel
theorem dX10_become_11 : decode cX10_become 11 = .ok (.ifCond .eq 10, 3) := by decide +kernel
theorem dX10_become_14 : decode cX10_become 14 = .ok (.iload_n 2, 1) := by decide +kernel
theorem dX10_become_15 : decode cX10_become 15 = .ok (.invokestatic 131, 3) := by decide +kernel
theorem dX10_become_18 : decode cX10_become 18 = .ok (.ifCond .ne 9, 3) := by decide +kernel
theorem dX10_become_21 : decode cX10_become 21 = .ok (.aload_n 0, 1) := by decide +kernel
theorem dX10_become_22 : decode cX10_become 22 = .ok (.iconst 1, 1) := by decide +kernel
theorem dX10_become_23 : decode cX10_become 23 = .ok (.invokevirtual 63, 3) := by decide +kernel
theorem dX10_become_26 : decode cX10_become 26 = .ok (.ireturn, 1) := by decide +kernel
theorem dX10_become_27 : decode cX10_become 27 = .ok (.aload_n 0, 1) := by decide +kernel
theorem dX10_become_28 : decode cX10_become 28 = .ok (.getfield 10, 3) := by decide +kernel
theorem dX10_become_31 : decode cX10_become 31 = .ok (.getfield 77, 3) := by decide +kernel
theorem dX10_become_34 : decode cX10_become 34 = .ok (.getfield 182, 3) := by decide +kernel
theorem dX10_become_37 : decode cX10_become 37 = .ok (.iload_n 1, 1) := by decide +kernel
theorem dX10_become_38 : decode cX10_become 38 = .ok (.invokevirtual 108, 3) := by decide +kernel
theorem dX10_become_41 : decode cX10_become 41 = .ok (.istore_n 3, 1) := by decide +kernel
theorem dX10_become_42 : decode cX10_become 42 = .ok (.aload_n 0, 1) := by decide +kernel
theorem dX10_become_43 : decode cX10_become 43 = .ok (.getfield 10, 3) := by decide +kernel
theorem dX10_become_46 : decode cX10_become 46 = .ok (.getfield 77, 3) := by decide +kernel
theorem dX10_become_49 : decode cX10_become 49 = .ok (.getfield 182, 3) := by decide +kernel
theorem dX10_become_52 : decode cX10_become 52 = .ok (.iload_n 1, 1) := by decide +kernel
theorem dX10_become_53 : decode cX10_become 53 = .ok (.iload_n 2, 1) := by decide +kernel
theorem dX10_become_54 : decode cX10_become 54 = .ok (.bipush 10, 2) := by decide +kernel
theorem dX10_become_56 : decode cX10_become 56 = .ok (.idiv, 1) := by decide +kernel
theorem dX10_become_57 : decode cX10_become 57 = .ok (.invokevirtual 175, 3) := by decide +kernel
theorem dX10_become_60 : decode cX10_become 60 = .ok (.aload_n 0, 1) := by decide +kernel
theorem dX10_become_61 : decode cX10_become 61 = .ok (.getfield 10, 3) := by decide +kernel
theorem dX10_become_64 : decode cX10_become 64 = .ok (.getfield 77, 3) := by decide +kernel
theorem dX10_become_67 : decode cX10_become 67 = .ok (.getfield 185, 3) := by decide +kernel
theorem dX10_become_70 : decode cX10_become 70 = .ok (.iload_n 1, 1) := by decide +kernel
theorem dX10_become_71 : decode cX10_become 71 = .ok (.iload_n 2, 1) := by decide +kernel
theorem dX10_become_72 : decode cX10_become 72 = .ok (.bipush 10, 2) := by decide +kernel
theorem dX10_become_74 : decode cX10_become 74 = .ok (.irem, 1) := by decide +kernel
theorem dX10_become_75 : decode cX10_become 75 = .ok (.invokevirtual 175, 3) := by decide +kernel
theorem dX10_become_78 : decode cX10_become 78 = .ok (.iload_n 3, 1) := by decide +kernel
theorem dX10_become_79 : decode cX10_become 79 = .ok (.ireturn, 1) := by decide +kernel
theorem dX10_as_0 : decode cX10_as 0 = .ok (.aload_n 0, 1) := by decide +kernel
theorem dX10_as_1 : decode cX10_as 1 = .ok (.getfield 10, 3) := by decide +kernel
theorem dX10_as_4 : decode cX10_as 4 = .ok (.getfield 77, 3) := by decide +kernel
theorem dX10_as_7 : decode cX10_as 7 = .ok (.iload_n 1, 1) := by decide +kernel
theorem dX10_as_8 : decode cX10_as 8 = .ok (.invokevirtual 137, 3) := by decide +kernel
theorem dX10_as_11 : decode cX10_as 11 = .ok (.ifCond .eq 13, 3) := by decide +kernel
theorem dX10_as_14 : decode cX10_as 14 = .ok (.iload_n 2, 1) := by decide +kernel
theorem dX10_as_15 : decode cX10_as 15 = .ok (.iconst 0, 1) := by decide +kernel
theorem dX10_as_16 : decode cX10_as 16 = .ok (.bipush 6, 2) := by decide +kernel
theorem dX10_as_18 : decode cX10_as 18 = .ok (.invokestatic 59, 3) := by decide +kernel
theorem dX10_as_21 : decode cX10_as 21 = .ok (.ifCond .ne 9, 3) := by decide +kernel
theorem dX10_as_24 : decode cX10_as 24 = .ok (.aload_n 0, 1) := by decide +kernel
theorem dX10_as_25 : decode cX10_as 25 = .ok (.iconst 1, 1) := by decide +kernel
theorem dX10_as_26 : decode cX10_as 26 = .ok (.invokevirtual 63, 3) := by decide +kernel
theorem dX10_as_29 : decode cX10_as 29 = .ok (.ireturn, 1) := by decide +kernel
theorem dX10_as_30 : decode cX10_as 30 = .ok (.aload_n 0, 1) := by decide +kernel
theorem dX10_as_31 : decode cX10_as 31 = .ok (.getfield 10, 3) := by decide +kernel
theorem dX10_as_34 : decode cX10_as 34 = .ok (.getfield 77, 3) := by decide +kernel
theorem dX10_as_37 : decode cX10_as 37 = .ok (.getfield 182, 3) := by decide +kernel
theorem dX10_as_40 : decode cX10_as 40 = .ok (.iload_n 1, 1) := by decide +kernel
theorem dX10_as_41 : decode cX10_as 41 = .ok (.invokevirtual 108, 3) := by decide +kernel
theorem dX10_as_44 : decode cX10_as 44 = .ok (.iload_n 2, 1) := by decide +kernel
theorem dX10_as_45 : decode cX10_as 45 = .ok (.invokestatic 188, 3) := by decide +kernel
theorem dX10_as_48 : decode cX10_as 48 = .ok (.ifCond .ne 9, 3) := by decide +kernel
theorem dX10_as_51 : decode cX10_as 51 = .ok (.aload_n 0, 1) := by decide +kernel
theorem dX10_as_52 : decode cX10_as 52 = .ok (.iconst 5, 1) := by decide +kernel
theorem dX10_as_53 : decode cX10_as 53 = .ok (.invokevirtual 63, 3) := by decide +kernel
theorem dX10_as_56 : decode cX10_as 56 = .ok (.ireturn, 1) := by decide +kernel
theorem dX10_as_57 : decode cX10_as 57 = .ok (.aload_n 0, 1) := by decide +kernel
theorem dX10_as_58 : decode cX10_as 58 = .ok (.getfield 10, 3) := by decide +kernel
theorem dX10_as_61 : decode cX10_as 61 = .ok (.getfield 77, 3) := by decide +kernel
theorem dX10_as_64 : decode cX10_as 64 = .ok (.getfield 185, 3) := by decide +kernel
theorem dX10_as_67 : decode cX10_as 67 = .ok (.iload_n 1, 1) := by decide +kernel
theorem dX10_as_68 : decode cX10_as 68 = .ok (.invokevirtual 108, 3) := by decide +kernel
theorem dX10_as_71 : decode cX10_as 71 = .ok (.ireturn, 1) := by decide +kernel
theorem dX10_folk_0 : decode cX10_folk 0 = .ok (.aload_n 0, 1) := by decide +kernel
theorem dX10_folk_1 : decode cX10_folk 1 = .ok (.getfield 10, 3) := by decide +kernel
theorem dX10_folk_4 : decode cX10_folk 4 = .ok (.iload_n 1, 1) := by decide +kernel
theorem dX10_folk_5 : decode cX10_folk 5 = .ok (.invokevirtual 94, 3) := by decide +kernel
theorem dX10_folk_8 : decode cX10_folk 8 = .ok (.ifCond .eq 13, 3) := by decide +kernel
theorem dX10_folk_11 : decode cX10_folk 11 = .ok (.iload_n 2, 1) := by decide +kernel
theorem dX10_folk_12 : decode cX10_folk 12 = .ok (.iconst 0, 1) := by decide +kernel
theorem dX10_folk_13 : decode cX10_folk 13 = .ok (.bipush 99, 2) := by decide +kernel
theorem dX10_folk_15 : decode cX10_folk 15 = .ok (.invokestatic 59, 3) := by decide +kernel
theorem dX10_folk_18 : decode cX10_folk 18 = .ok (.ifCond .ne 9, 3) := by decide +kernel
theorem dX10_folk_21 : decode cX10_folk 21 = .ok (.aload_n 0, 1) := by decide +kernel
theorem dX10_folk_22 : decode cX10_folk 22 = .ok (.iconst 1, 1) := by decide +kernel
theorem dX10_folk_23 : decode cX10_folk 23 = .ok (.invokevirtual 63, 3) := by decide +kernel
theorem dX10_folk_26 : decode cX10_folk 26 = .ok (.ireturn, 1) := by decide +kernel
theorem dX10_folk_27 : decode cX10_folk 27 = .ok (.aload_n 0, 1) := by decide +kernel
theorem dX10_folk_28 : decode cX10_folk 28 = .ok (.getfield 10, 3) := by decide +kernel
theorem dX10_folk_31 : decode cX10_folk 31 = .ok (.getfield 84, 3) := by decide +kernel
theorem dX10_folk_34 : decode cX10_folk 34 = .ok (.invokevirtual 88, 3) := by decide +kernel
theorem dX10_folk_37 : decode cX10_folk 37 = .ok (.bipush 6, 2) := by decide +kernel
theorem dX10_folk_39 : decode cX10_folk 39 = .ok (.if_icmp .lt 9, 3) := by decide +kernel
theorem dX10_folk_42 : decode cX10_folk 42 = .ok (.aload_n 0, 1) := by decide +kernel
theorem dX10_folk_43 : decode cX10_folk 43 = .ok (.iconst 4, 1) := by decide +kernel
theorem dX10_folk_44 : decode cX10_folk 44 = .ok (.invokevirtual 63, 3) := by decide +kernel
theorem dX10_folk_47 : decode cX10_folk 47 = .ok (.ireturn, 1) := by decide +kernel
theorem dX10_folk_48 : decode cX10_folk 48 = .ok (.aload_n 0, 1) := by decide +kernel
theorem dX10_folk_49 : decode cX10_folk 49 = .ok (.getfield 10, 3) := by decide +kernel
theorem dX10_folk_52 : decode cX10_folk 52 = .ok (.getfield 84, 3) := by decide +kernel
theorem dX10_folk_55 : decode cX10_folk 55 = .ok (.iload_n 1, 1) := by decide +kernel
theorem dX10_folk_56 : decode cX10_folk 56 = .ok (.iload_n 2, 1) := by decide +kernel
theorem dX10_folk_57 : decode cX10_folk 57 = .ok (.invokevirtual 192, 3) := by decide +kernel
theorem dX10_folk_60 : decode cX10_folk 60 = .ok (.aload_n 0, 1) := by decide +kernel
theorem dX10_folk_61 : decode cX10_folk 61 = .ok (.getfield 10, 3) := by decide +kernel
theorem dX10_folk_64 : decode cX10_folk 64 = .ok (.getfield 84, 3) := by decide +kernel
theorem dX10_folk_67 : decode cX10_folk 67 = .ok (.invokevirtual 88, 3) := by decide +kernel
theorem dX10_folk_70 : decode cX10_folk 70 = .ok (.iconst 1, 1) := by decide +kernel
theorem dX10_folk_71 : decode cX10_folk 71 = .ok (.isub, 1) := by decide +kernel
theorem dX10_folk_72 : decode cX10_folk 72 = .ok (.ireturn, 1) := by decide +kernel
theorem dX10_ofFolk_0 : decode cX10_ofFolk 0 = .ok (.aload_n 0, 1) := by decide +kernel
theorem dX10_ofFolk_1 : decode cX10_ofFolk 1 = .ok (.getfield 10, 3) := by decide +kernel
theorem dX10_ofFolk_4 : decode cX10_ofFolk 4 = .ok (.getfield 84, 3) := by decide +kernel
theorem dX10_ofFolk_7 : decode cX10_ofFolk 7 = .ok (.iload_n 1, 1) := by decide +kernel
theorem dX10_ofFolk_8 : decode cX10_ofFolk 8 = .ok (.invokevirtual 194, 3) := by decide +kernel
theorem dX10_ofFolk_11 : decode cX10_ofFolk 11 = .ok (.ifCond .eq 12, 3) := by decide +kernel
theorem dX10_ofFolk_14 : decode cX10_ofFolk 14 = .ok (.iload_n 2, 1) := by decide +kernel
theorem dX10_ofFolk_15 : decode cX10_ofFolk 15 = .ok (.iconst 0, 1) := by decide +kernel
theorem dX10_ofFolk_16 : decode cX10_ofFolk 16 = .ok (.iconst 2, 1) := by decide +kernel
theorem dX10_ofFolk_17 : decode cX10_ofFolk 17 = .ok (.invokestatic 59, 3) := by decide +kernel
theorem dX10_ofFolk_20 : decode cX10_ofFolk 20 = .ok (.ifCond .ne 9, 3) := by decide +kernel
theorem dX10_ofFolk_23 : decode cX10_ofFolk 23 = .ok (.aload_n 0, 1) := by decide +kernel
theorem dX10_ofFolk_24 : decode cX10_ofFolk 24 = .ok (.iconst 1, 1) := by decide +kernel
theorem dX10_ofFolk_25 : decode cX10_ofFolk 25 = .ok (.invokevirtual 63, 3) := by decide +kernel
theorem dX10_ofFolk_28 : decode cX10_ofFolk 28 = .ok (.ireturn, 1) := by decide +kernel
theorem dX10_ofFolk_29 : decode cX10_ofFolk 29 = .ok (.aload_n 0, 1) := by decide +kernel
theorem dX10_ofFolk_30 : decode cX10_ofFolk 30 = .ok (.getfield 10, 3) := by decide +kernel
theorem dX10_ofFolk_33 : decode cX10_ofFolk 33 = .ok (.iload_n 1, 1) := by decide +kernel
theorem dX10_ofFolk_34 : decode cX10_ofFolk 34 = .ok (.iload_n 2, 1) := by decide +kernel
theorem dX10_ofFolk_35 : decode cX10_ofFolk 35 = .ok (.invokevirtual 195, 3) := by decide +kernel
theorem dX10_ofFolk_38 : decode cX10_ofFolk 38 = .ok (.ireturn, 1) := by decide +kernel
theorem dX10_drink_0 : decode cX10_drink 0 = .ok (.aload_n 0, 1) := by decide +kernel
theorem dX10_drink_1 : decode cX10_drink 1 = .ok (.getfield 10, 3) := by decide +kernel
theorem dX10_drink_4 : decode cX10_drink 4 = .ok (.getfield 84, 3) := by decide +kernel
theorem dX10_drink_7 : decode cX10_drink 7 = .ok (.iload_n 1, 1) := by decide +kernel
theorem dX10_drink_8 : decode cX10_drink 8 = .ok (.invokevirtual 194, 3) := by decide +kernel
theorem dX10_drink_11 : decode cX10_drink 11 = .ok (.ifCond .eq 21, 3) := by decide +kernel
theorem dX10_drink_14 : decode cX10_drink 14 = .ok (.iload_n 2, 1) := by decide +kernel
theorem dX10_drink_15 : decode cX10_drink 15 = .ok (.iconst 0, 1) := by decide +kernel
theorem dX10_drink_16 : decode cX10_drink 16 = .ok (.iconst 2, 1) := by decide +kernel
theorem dX10_drink_17 : decode cX10_drink 17 = .ok (.invokestatic 59, 3) := by decide +kernel
theorem dX10_drink_20 : decode cX10_drink 20 = .ok (.ifCond .eq 12, 3) := by decide +kernel
theorem dX10_drink_23 : decode cX10_drink 23 = .ok (.aload_n 0, 1) := by decide +kernel
theorem dX10_drink_24 : decode cX10_drink 24 = .ok (.iload_n 2, 1) := by decide +kernel
theorem dX10_drink_25 : decode cX10_drink 25 = .ok (.iload_n 3, 1) := by decide +kernel
theorem dX10_drink_26 : decode cX10_drink 26 = .ok (.invokevirtual 198, 3) := by decide +kernel
theorem dX10_drink_29 : decode cX10_drink 29 = .ok (.ifCond .ne 9, 3) := by decide +kernel
theorem dX10_drink_32 : decode cX10_drink 32 = .ok (.aload_n 0, 1) := by decide +kernel
theorem dX10_drink_33 : decode cX10_drink 33 = .ok (.iconst 1, 1) := by decide +kernel
theorem dX10_drink_34 : decode cX10_drink 34 = .ok (.invokevirtual 63, 3) := by decide +kernel
theorem dX10_drink_37 : decode cX10_drink 37 = .ok (.ireturn, 1) := by decide +kernel
theorem dX10_drink_38 : decode cX10_drink 38 = .ok (.aload_n 0, 1) := by decide +kernel
theorem dX10_drink_39 : decode cX10_drink 39 = .ok (.getfield 10, 3) := by decide +kernel
theorem dX10_drink_42 : decode cX10_drink 42 = .ok (.iload_n 1, 1) := by decide +kernel
theorem dX10_drink_43 : decode cX10_drink 43 = .ok (.iload_n 2, 1) := by decide +kernel
theorem dX10_drink_44 : decode cX10_drink 44 = .ok (.invokevirtual 195, 3) := by decide +kernel
theorem dX10_drink_47 : decode cX10_drink 47 = .ok (.istore 4, 2) := by decide +kernel
theorem dX10_drink_49 : decode cX10_drink 49 = .ok (.iload_n 2, 1) := by decide +kernel
theorem dX10_drink_50 : decode cX10_drink 50 = .ok (.ifCond .ne 21, 3) := by decide +kernel
theorem dX10_drink_53 : decode cX10_drink 53 = .ok (.aload_n 0, 1) := by decide +kernel
theorem dX10_drink_54 : decode cX10_drink 54 = .ok (.getfield 10, 3) := by decide +kernel
theorem dX10_drink_57 : decode cX10_drink 57 = .ok (.getfield 84, 3) := by decide +kernel
theorem dX10_drink_60 : decode cX10_drink 60 = .ok (.getfield 201, 3) := by decide +kernel
theorem dX10_drink_63 : decode cX10_drink 63 = .ok (.iload_n 1, 1) := by decide +kernel
theorem dX10_drink_64 : decode cX10_drink 64 = .ok (.iload_n 3, 1) := by decide +kernel
theorem dX10_drink_65 : decode cX10_drink 65 = .ok (.invokevirtual 175, 3) := by decide +kernel
theorem dX10_drink_68 : decode cX10_drink 68 = .ok (.goto 38, 3) := by decide +kernel
theorem dX10_drink_71 : decode cX10_drink 71 = .ok (.iload_n 2, 1) := by decide +kernel
theorem dX10_drink_72 : decode cX10_drink 72 = .ok (.iconst 1, 1) := by decide +kernel
theorem dX10_drink_73 : decode cX10_drink 73 = .ok (.if_icmp .ne 21, 3) := by decide +kernel
theorem dX10_drink_76 : decode cX10_drink 76 = .ok (.aload_n 0, 1) := by decide +kernel
theorem dX10_drink_77 : decode cX10_drink 77 = .ok (.getfield 10, 3) := by decide +kernel
theorem dX10_drink_80 : decode cX10_drink 80 = .ok (.getfield 84, 3) := by decide +kernel
theorem dX10_drink_83 : decode cX10_drink 83 = .ok (.getfield 202, 3) := by decide +kernel
theorem dX10_drink_86 : decode cX10_drink 86 = .ok (.iload_n 1, 1) := by decide +kernel
theorem dX10_drink_87 : decode cX10_drink 87 = .ok (.iload_n 3, 1) := by decide +kernel
theorem dX10_drink_88 : decode cX10_drink 88 = .ok (.invokevirtual 175, 3) := by decide +kernel
theorem dX10_drink_91 : decode cX10_drink 91 = .ok (.goto 15, 3) := by decide +kernel
theorem dX10_drink_94 : decode cX10_drink 94 = .ok (.aload_n 0, 1) := by decide +kernel
theorem dX10_drink_95 : decode cX10_drink 95 = .ok (.getfield 10, 3) := by decide +kernel
theorem dX10_drink_98 : decode cX10_drink 98 = .ok (.getfield 77, 3) := by decide +kernel
theorem dX10_drink_101 : decode cX10_drink 101 = .ok (.iload_n 1, 1) := by decide +kernel
theorem dX10_drink_102 : decode cX10_drink 102 = .ok (.iload_n 3, 1) := by decide +kernel
theorem dX10_drink_103 : decode cX10_drink 103 = .ok (.invokevirtual 205, 3) := by decide +kernel
theorem dX10_drink_106 : decode cX10_drink 106 = .ok (.iload 4, 2) := by decide +kernel
theorem dX10_drink_108 : decode cX10_drink 108 = .ok (.ireturn, 1) := by decide +kernel
theorem dX10_feed_0 : decode cX10_feed 0 = .ok (.iload_n 3, 1) := by decide +kernel
theorem dX10_feed_1 : decode cX10_feed 1 = .ok (.iconst 1, 1) := by decide +kernel
theorem dX10_feed_2 : decode cX10_feed 2 = .ok (.bipush 8, 2) := by decide +kernel
theorem dX10_feed_4 : decode cX10_feed 4 = .ok (.invokestatic 59, 3) := by decide +kernel
theorem dX10_feed_7 : decode cX10_feed 7 = .ok (.ifCond .ne 9, 3) := by decide +kernel
theorem dX10_feed_10 : decode cX10_feed 10 = .ok (.aload_n 0, 1) := by decide +kernel
theorem dX10_feed_11 : decode cX10_feed 11 = .ok (.iconst 1, 1) := by decide +kernel
theorem dX10_feed_12 : decode cX10_feed 12 = .ok (.invokevirtual 63, 3) := by decide +kernel
theorem dX10_feed_15 : decode cX10_feed 15 = .ok (.ireturn, 1) := by decide +kernel
theorem dX10_feed_16 : decode cX10_feed 16 = .ok (.aload_n 0, 1) := by decide +kernel
theorem dX10_feed_17 : decode cX10_feed 17 = .ok (.getfield 10, 3) := by decide +kernel
theorem dX10_feed_20 : decode cX10_feed 20 = .ok (.getfield 208, 3) := by decide +kernel
theorem dX10_feed_23 : decode cX10_feed 23 = .ok (.invokevirtual 211, 3) := by decide +kernel
theorem dX10_feed_26 : decode cX10_feed 26 = .ok (.iload_n 3, 1) := by decide +kernel
theorem dX10_feed_27 : decode cX10_feed 27 = .ok (.iadd, 1) := by decide +kernel
theorem dX10_feed_28 : decode cX10_feed 28 = .ok (.bipush 50, 2) := by decide +kernel
theorem dX10_feed_30 : decode cX10_feed 30 = .ok (.if_icmp .le 9, 3) := by decide +kernel
theorem dX10_feed_33 : decode cX10_feed 33 = .ok (.aload_n 0, 1) := by decide +kernel
theorem dX10_feed_34 : decode cX10_feed 34 = .ok (.iconst 4, 1) := by decide +kernel
theorem dX10_feed_35 : decode cX10_feed 35 = .ok (.invokevirtual 63, 3) := by decide +kernel
theorem dX10_feed_38 : decode cX10_feed 38 = .ok (.ireturn, 1) := by decide +kernel
theorem dX10_feed_39 : decode cX10_feed 39 = .ok (.iconst 0, 1) := by decide +kernel
theorem dX10_feed_40 : decode cX10_feed 40 = .ok (.istore 4, 2) := by decide +kernel
theorem dX10_feed_42 : decode cX10_feed 42 = .ok (.iload 4, 2) := by decide +kernel
theorem dX10_feed_44 : decode cX10_feed 44 = .ok (.iload_n 3, 1) := by decide +kernel
theorem dX10_feed_45 : decode cX10_feed 45 = .ok (.if_icmp .ge 31, 3) := by decide +kernel
theorem dX10_feed_48 : decode cX10_feed 48 = .ok (.aload_n 0, 1) := by decide +kernel
theorem dX10_feed_49 : decode cX10_feed 49 = .ok (.getfield 10, 3) := by decide +kernel
theorem dX10_feed_52 : decode cX10_feed 52 = .ok (.getfield 208, 3) := by decide +kernel
theorem dX10_feed_55 : decode cX10_feed 55 = .ok (.lload_n 1, 1) := by decide +kernel
theorem dX10_feed_56 : decode cX10_feed 56 = .ok (.bipush 8, 2) := by decide +kernel
theorem dX10_feed_58 : decode cX10_feed 58 = .ok (.iload 4, 2) := by decide +kernel
theorem dX10_feed_60 : decode cX10_feed 60 = .ok (.imul, 1) := by decide +kernel
theorem dX10_feed_61 : decode cX10_feed 61 = .ok (.lushr, 1) := by decide +kernel
theorem dX10_feed_62 : decode cX10_feed 62 = .ok (.l2i, 1) := by decide +kernel
theorem dX10_feed_63 : decode cX10_feed 63 = .ok (.sipush 255, 3) := by decide +kernel
theorem dX10_feed_66 : decode cX10_feed 66 = .ok (.iand, 1) := by decide +kernel
theorem dX10_feed_67 : decode cX10_feed 67 = .ok (.invokevirtual 212, 3) := by decide +kernel
theorem dX10_feed_70 : decode cX10_feed 70 = .ok (.iinc 4 1, 3) := by decide +kernel
theorem dX10_feed_73 : decode cX10_feed 73 = .ok (.goto (-31), 3) := by decide +kernel
theorem dX10_feed_76 : decode cX10_feed 76 = .ok (.aload_n 0, 1) := by decide +kernel
theorem dX10_feed_77 : decode cX10_feed 77 = .ok (.getfield 10, 3) := by decide +kernel
theorem dX10_feed_80 : decode cX10_feed 80 = .ok (.getfield 208, 3) := by decide +kernel
theorem dX10_feed_83 : decode cX10_feed 83 = .ok (.invokevirtual 211, 3) := by decide +kernel
theorem dX10_feed_86 : decode cX10_feed 86 = .ok (.ireturn, 1) := by decide +kernel
theorem dX10_text_0 : decode cX10_text 0 = .ok (.iload_n 1, 1) := by decide +kernel
theorem dX10_text_1 : decode cX10_text 1 = .ok (.iconst 0, 1) := by decide +kernel
theorem dX10_text_2 : decode cX10_text 2 = .ok (.iconst 1, 1) := by decide +kernel
theorem dX10_text_3 : decode cX10_text 3 = .ok (.invokestatic 59, 3) := by decide +kernel
theorem dX10_text_6 : decode cX10_text 6 = .ok (.ifCond .ne 9, 3) := by decide +kernel
theorem dX10_text_9 : decode cX10_text 9 = .ok (.aload_n 0, 1) := by decide +kernel
theorem dX10_text_10 : decode cX10_text 10 = .ok (.iconst 1, 1) := by decide +kernel
theorem dX10_text_11 : decode cX10_text 11 = .ok (.invokevirtual 63, 3) := by decide +kernel
theorem dX10_text_14 : decode cX10_text 14 = .ok (.ireturn, 1) := by decide +kernel
theorem dX10_text_15 : decode cX10_text 15 = .ok (.aload_n 0, 1) := by decide +kernel
theorem dX10_text_16 : decode cX10_text 16 = .ok (.getfield 22, 3) := by decide +kernel
theorem dX10_text_19 : decode cX10_text 19 = .ok (.aload_n 0, 1) := by decide +kernel
theorem dX10_text_20 : decode cX10_text 20 = .ok (.getfield 10, 3) := by decide +kernel
theorem dX10_text_23 : decode cX10_text 23 = .ok (.getfield 208, 3) := by decide +kernel
theorem dX10_text_26 : decode cX10_text 26 = .ok (.iload_n 1, 1) := by decide +kernel
theorem dX10_text_27 : decode cX10_text 27 = .ok (.ifCond .ne 8, 3) := by decide +kernel
theorem dX10_text_30 : decode cX10_text 30 = .ok (.ldc 214, 2) := by decide +kernel
theorem dX10_text_32 : decode cX10_text 32 = .ok (.goto 5, 3) := by decide +kernel
theorem dX10_text_35 : decode cX10_text 35 = .ok (.ldc 216, 2) := by decide +kernel
theorem dX10_text_37 : decode cX10_text 37 = .ok (.invokevirtual 218, 3) := by decide +kernel
theorem dX10_text_40 : decode cX10_text 40 = .ok (.istore_n 2, 1) := by decide +kernel
theorem dX10_text_41 : decode cX10_text 41 = .ok (.aload_n 0, 1) := by decide +kernel
theorem dX10_text_42 : decode cX10_text 42 = .ok (.getfield 10, 3) := by decide +kernel
theorem dX10_text_45 : decode cX10_text 45 = .ok (.getfield 208, 3) := by decide +kernel
theorem dX10_text_48 : decode cX10_text 48 = .ok (.invokevirtual 222, 3) := by decide +kernel
theorem dX10_text_51 : decode cX10_text 51 = .ok (.iload_n 2, 1) := by decide +kernel
theorem dX10_text_52 : decode cX10_text 52 = .ok (.ifCond .lt 8, 3) := by decide +kernel
theorem dX10_text_55 : decode cX10_text 55 = .ok (.bipush (-10), 2) := by decide +kernel
theorem dX10_text_57 : decode cX10_text 57 = .ok (.iload_n 2, 1) := by decide +kernel
theorem dX10_text_58 : decode cX10_text 58 = .ok (.isub, 1) := by decide +kernel
theorem dX10_text_59 : decode cX10_text 59 = .ok (.ireturn, 1) := by decide +kernel
theorem dX10_text_60 : decode cX10_text 60 = .ok (.aload_n 0, 1) := by decide +kernel
theorem dX10_text_61 : decode cX10_text 61 = .ok (.getfield 10, 3) := by decide +kernel
theorem dX10_text_64 : decode cX10_text 64 = .ok (.iload_n 1, 1) := by decide +kernel
theorem dX10_text_65 : decode cX10_text 65 = .ok (.invokevirtual 225, 3) := by decide +kernel
theorem dX10_text_68 : decode cX10_text 68 = .ok (.getfield 229, 3) := by decide +kernel
theorem dX10_text_71 : decode cX10_text 71 = .ok (.aload_n 0, 1) := by decide +kernel
theorem dX10_text_72 : decode cX10_text 72 = .ok (.getfield 22, 3) := by decide +kernel
theorem dX10_text_75 : decode cX10_text 75 = .ok (.getfield 234, 3) := by decide +kernel
theorem dX10_text_78 : decode cX10_text 78 = .ok (.invokevirtual 235, 3) := by decide +kernel
theorem dX10_text_81 : decode cX10_text 81 = .ok (.iconst 1, 1) := by decide +kernel
theorem dX10_text_82 : decode cX10_text 82 = .ok (.ireturn, 1) := by decide +kernel
theorem dX10_law_0 : decode cX10_law 0 = .ok (.iload_n 1, 1) := by decide +kernel
theorem dX10_law_1 : decode cX10_law 1 = .ok (.iconst 0, 1) := by decide +kernel
theorem dX10_law_2 : decode cX10_law 2 = .ok (.iconst 1, 1) := by decide +kernel
theorem dX10_law_3 : decode cX10_law 3 = .ok (.invokestatic 59, 3) := by decide +kernel
theorem dX10_law_6 : decode cX10_law 6 = .ok (.ifCond .ne 9, 3) := by decide +kernel
theorem dX10_law_9 : decode cX10_law 9 = .ok (.aload_n 0, 1) := by decide +kernel
theorem dX10_law_10 : decode cX10_law 10 = .ok (.iconst 1, 1) := by decide +kernel
theorem dX10_law_11 : decode cX10_law 11 = .ok (.invokevirtual 63, 3) := by decide +kernel
theorem dX10_law_14 : decode cX10_law 14 = .ok (.ireturn, 1) := by decide +kernel
theorem dX10_law_15 : decode cX10_law 15 = .ok (.aload_n 0, 1) := by decide +kernel
theorem dX10_law_16 : decode cX10_law 16 = .ok (.getfield 10, 3) := by decide +kernel
theorem dX10_law_19 : decode cX10_law 19 = .ok (.iload_n 1, 1) := by decide +kernel
theorem dX10_law_20 : decode cX10_law 20 = .ok (.invokevirtual 225, 3) := by decide +kernel
theorem dX10_law_23 : decode cX10_law 23 = .ok (.iload_n 2, 1) := by decide +kernel
theorem dX10_law_24 : decode cX10_law 24 = .ok (.iload_n 3, 1) := by decide +kernel
theorem dX10_law_25 : decode cX10_law 25 = .ok (.iload 4, 2) := by decide +kernel
theorem dX10_law_27 : decode cX10_law 27 = .ok (.invokevirtual 239, 3) := by decide +kernel
theorem dX10_law_30 : decode cX10_law 30 = .ok (.ireturn, 1) := by decide +kernel
theorem dX10_hours_0 : decode cX10_hours 0 = .ok (.iload_n 1, 1) := by decide +kernel
theorem dX10_hours_1 : decode cX10_hours 1 = .ok (.iconst 1, 1) := by decide +kernel
theorem dX10_hours_2 : decode cX10_hours 2 = .ok (.bipush 99, 2) := by decide +kernel
theorem dX10_hours_4 : decode cX10_hours 4 = .ok (.invokestatic 59, 3) := by decide +kernel
theorem dX10_hours_7 : decode cX10_hours 7 = .ok (.ifCond .ne 9, 3) := by decide +kernel
theorem dX10_hours_10 : decode cX10_hours 10 = .ok (.aload_n 0, 1) := by decide +kernel
theorem dX10_hours_11 : decode cX10_hours 11 = .ok (.iconst 1, 1) := by decide +kernel
theorem dX10_hours_12 : decode cX10_hours 12 = .ok (.invokevirtual 63, 3) := by decide +kernel
theorem dX10_hours_15 : decode cX10_hours 15 = .ok (.ireturn, 1) := by decide +kernel
theorem dX10_hours_16 : decode cX10_hours 16 = .ok (.aload_n 0, 1) := by decide +kernel
theorem dX10_hours_17 : decode cX10_hours 17 = .ok (.getfield 10, 3) := by decide +kernel
theorem dX10_hours_20 : decode cX10_hours 20 = .ok (.getfield 243, 3) := by decide +kernel
theorem dX10_hours_23 : decode cX10_hours 23 = .ok (.iload_n 1, 1) := by decide +kernel
theorem dX10_hours_24 : decode cX10_hours 24 = .ok (.iadd, 1) := by decide +kernel
theorem dX10_hours_25 : decode cX10_hours 25 = .ok (.sipush 9999, 3) := by decide +kernel
theorem dX10_hours_28 : decode cX10_hours 28 = .ok (.if_icmp .le 9, 3) := by decide +kernel
theorem dX10_hours_31 : decode cX10_hours 31 = .ok (.aload_n 0, 1) := by decide +kernel
theorem dX10_hours_32 : decode cX10_hours 32 = .ok (.iconst 3, 1) := by decide +kernel
theorem dX10_hours_33 : decode cX10_hours 33 = .ok (.invokevirtual 63, 3) := by decide +kernel
theorem dX10_hours_36 : decode cX10_hours 36 = .ok (.ireturn, 1) := by decide +kernel
theorem dX10_hours_37 : decode cX10_hours 37 = .ok (.iconst 0, 1) := by decide +kernel
theorem dX10_hours_38 : decode cX10_hours 38 = .ok (.istore_n 2, 1) := by decide +kernel
theorem dX10_hours_39 : decode cX10_hours 39 = .ok (.iload_n 2, 1) := by decide +kernel
theorem dX10_hours_40 : decode cX10_hours 40 = .ok (.iload_n 1, 1) := by decide +kernel
theorem dX10_hours_41 : decode cX10_hours 41 = .ok (.if_icmp .ge 16, 3) := by decide +kernel
theorem dX10_hours_44 : decode cX10_hours 44 = .ok (.aload_n 0, 1) := by decide +kernel
theorem dX10_hours_45 : decode cX10_hours 45 = .ok (.getfield 10, 3) := by decide +kernel
theorem dX10_hours_48 : decode cX10_hours 48 = .ok (.invokevirtual 246, 3) := by decide +kernel
theorem dX10_hours_51 : decode cX10_hours 51 = .ok (.iinc 2 1, 3) := by decide +kernel
theorem dX10_hours_54 : decode cX10_hours 54 = .ok (.goto (-15), 3) := by decide +kernel
theorem dX10_hours_57 : decode cX10_hours 57 = .ok (.aload_n 0, 1) := by decide +kernel
theorem dX10_hours_58 : decode cX10_hours 58 = .ok (.getfield 10, 3) := by decide +kernel
theorem dX10_hours_61 : decode cX10_hours 61 = .ok (.getfield 77, 3) := by decide +kernel
theorem dX10_hours_64 : decode cX10_hours 64 = .ok (.invokevirtual 249, 3) := by decide +kernel
theorem dX10_hours_67 : decode cX10_hours 67 = .ok (.invokestatic 252, 3) := by decide +kernel
theorem dX10_hours_70 : decode cX10_hours 70 = .ok (.ireturn, 1) := by decide +kernel
theorem dX10_loose_0 : decode cX10_loose 0 = .ok (.iload_n 1, 1) := by decide +kernel
theorem dX10_loose_1 : decode cX10_loose 1 = .ok (.iconst 1, 1) := by decide +kernel
theorem dX10_loose_2 : decode cX10_loose 2 = .ok (.bipush 40, 2) := by decide +kernel
theorem dX10_loose_4 : decode cX10_loose 4 = .ok (.invokestatic 59, 3) := by decide +kernel
theorem dX10_loose_7 : decode cX10_loose 7 = .ok (.ifCond .ne 9, 3) := by decide +kernel
theorem dX10_loose_10 : decode cX10_loose 10 = .ok (.aload_n 0, 1) := by decide +kernel
theorem dX10_loose_11 : decode cX10_loose 11 = .ok (.iconst 1, 1) := by decide +kernel
theorem dX10_loose_12 : decode cX10_loose 12 = .ok (.invokevirtual 63, 3) := by decide +kernel
theorem dX10_loose_15 : decode cX10_loose 15 = .ok (.ireturn, 1) := by decide +kernel
theorem dX10_loose_16 : decode cX10_loose 16 = .ok (.aload_n 0, 1) := by decide +kernel
theorem dX10_loose_17 : decode cX10_loose 17 = .ok (.getfield 10, 3) := by decide +kernel
theorem dX10_loose_20 : decode cX10_loose 20 = .ok (.getfield 243, 3) := by decide +kernel
theorem dX10_loose_23 : decode cX10_loose 23 = .ok (.iload_n 1, 1) := by decide +kernel
theorem dX10_loose_24 : decode cX10_loose 24 = .ok (.iadd, 1) := by decide +kernel
theorem dX10_loose_25 : decode cX10_loose 25 = .ok (.sipush 9999, 3) := by decide +kernel
theorem dX10_loose_28 : decode cX10_loose 28 = .ok (.if_icmp .le 9, 3) := by decide +kernel
theorem dX10_loose_31 : decode cX10_loose 31 = .ok (.aload_n 0, 1) := by decide +kernel
theorem dX10_loose_32 : decode cX10_loose 32 = .ok (.iconst 3, 1) := by decide +kernel
theorem dX10_loose_33 : decode cX10_loose 33 = .ok (.invokevirtual 63, 3) := by decide +kernel
theorem dX10_loose_36 : decode cX10_loose 36 = .ok (.ireturn, 1) := by decide +kernel
theorem dX10_loose_37 : decode cX10_loose 37 = .ok (.iconst 0, 1) := by decide +kernel
theorem dX10_loose_38 : decode cX10_loose 38 = .ok (.istore_n 2, 1) := by decide +kernel
theorem dX10_loose_39 : decode cX10_loose 39 = .ok (.iload_n 2, 1) := by decide +kernel
theorem dX10_loose_40 : decode cX10_loose 40 = .ok (.iload_n 1, 1) := by decide +kernel
theorem dX10_loose_41 : decode cX10_loose 41 = .ok (.if_icmp .ge 33, 3) := by decide +kernel
theorem dX10_loose_44 : decode cX10_loose 44 = .ok (.aload_n 0, 1) := by decide +kernel
theorem dX10_loose_45 : decode cX10_loose 45 = .ok (.getfield 10, 3) := by decide +kernel
theorem dX10_loose_48 : decode cX10_loose 48 = .ok (.aload_n 0, 1) := by decide +kernel
theorem dX10_loose_49 : decode cX10_loose 49 = .ok (.getfield 10, 3) := by decide +kernel
theorem dX10_loose_52 : decode cX10_loose 52 = .ok (.invokevirtual 257, 3) := by decide +kernel
theorem dX10_loose_55 : decode cX10_loose 55 = .ok (.bipush 10, 2) := by decide +kernel
theorem dX10_loose_57 : decode cX10_loose 57 = .ok (.irem, 1) := by decide +kernel
theorem dX10_loose_58 : decode cX10_loose 58 = .ok (.putfield 128, 3) := by decide +kernel
theorem dX10_loose_61 : decode cX10_loose 61 = .ok (.aload_n 0, 1) := by decide +kernel
theorem dX10_loose_62 : decode cX10_loose 62 = .ok (.getfield 10, 3) := by decide +kernel
theorem dX10_loose_65 : decode cX10_loose 65 = .ok (.invokevirtual 246, 3) := by decide +kernel
theorem dX10_loose_68 : decode cX10_loose 68 = .ok (.iinc 2 1, 3) := by decide +kernel
theorem dX10_loose_71 : decode cX10_loose 71 = .ok (.goto (-32), 3) := by decide +kernel
theorem dX10_loose_74 : decode cX10_loose 74 = .ok (.aload_n 0, 1) := by decide +kernel
theorem dX10_loose_75 : decode cX10_loose 75 = .ok (.getfield 10, 3) := by decide +kernel
theorem dX10_loose_78 : decode cX10_loose 78 = .ok (.getfield 77, 3) := by decide +kernel
theorem dX10_loose_81 : decode cX10_loose 81 = .ok (.invokevirtual 249, 3) := by decide +kernel
theorem dX10_loose_84 : decode cX10_loose 84 = .ok (.invokestatic 252, 3) := by decide +kernel
theorem dX10_loose_87 : decode cX10_loose 87 = .ok (.ireturn, 1) := by decide +kernel
theorem dX10_then_0 : decode cX10_then 0 = .ok (.iload_n 1, 1) := by decide +kernel
theorem dX10_then_1 : decode cX10_then 1 = .ok (.iconst 0, 1) := by decide +kernel
theorem dX10_then_2 : decode cX10_then 2 = .ok (.bipush 99, 2) := by decide +kernel
theorem dX10_then_4 : decode cX10_then 4 = .ok (.invokestatic 59, 3) := by decide +kernel
theorem dX10_then_7 : decode cX10_then 7 = .ok (.ifCond .eq 17, 3) := by decide +kernel
theorem dX10_then_10 : decode cX10_then 10 = .ok (.aload_n 0, 1) := by decide +kernel
theorem dX10_then_11 : decode cX10_then 11 = .ok (.getfield 10, 3) := by decide +kernel
theorem dX10_then_14 : decode cX10_then 14 = .ok (.getfield 84, 3) := by decide +kernel
theorem dX10_then_17 : decode cX10_then 17 = .ok (.iload_n 2, 1) := by decide +kernel
theorem dX10_then_18 : decode cX10_then 18 = .ok (.invokevirtual 194, 3) := by decide +kernel
theorem dX10_then_21 : decode cX10_then 21 = .ok (.ifCond .ne 9, 3) := by decide +kernel
theorem dX10_then_24 : decode cX10_then 24 = .ok (.aload_n 0, 1) := by decide +kernel
theorem dX10_then_25 : decode cX10_then 25 = .ok (.iconst 1, 1) := by decide +kernel
theorem dX10_then_26 : decode cX10_then 26 = .ok (.invokevirtual 63, 3) := by decide +kernel
theorem dX10_then_29 : decode cX10_then 29 = .ok (.ireturn, 1) := by decide +kernel
theorem dX10_then_30 : decode cX10_then 30 = .ok (.aload_n 0, 1) := by decide +kernel
theorem dX10_then_31 : decode cX10_then 31 = .ok (.getfield 10, 3) := by decide +kernel
theorem dX10_then_34 : decode cX10_then 34 = .ok (.iload_n 1, 1) := by decide +kernel
theorem dX10_then_35 : decode cX10_then 35 = .ok (.invokevirtual 260, 3) := by decide +kernel
theorem dX10_then_38 : decode cX10_then 38 = .ok (.aload_n 0, 1) := by decide +kernel
theorem dX10_then_39 : decode cX10_then 39 = .ok (.getfield 10, 3) := by decide +kernel
theorem dX10_then_42 : decode cX10_then 42 = .ok (.getfield 77, 3) := by decide +kernel
theorem dX10_then_45 : decode cX10_then 45 = .ok (.iload_n 2, 1) := by decide +kernel
theorem dX10_then_46 : decode cX10_then 46 = .ok (.aload_n 0, 1) := by decide +kernel
theorem dX10_then_47 : decode cX10_then 47 = .ok (.getfield 10, 3) := by decide +kernel
theorem dX10_then_50 : decode cX10_then 50 = .ok (.getfield 263, 3) := by decide +kernel
theorem dX10_then_53 : decode cX10_then 53 = .ok (.invokevirtual 266, 3) := by decide +kernel
theorem dX10_then_56 : decode cX10_then 56 = .ok (.ireturn, 1) := by decide +kernel
theorem dX10_learns_0 : decode cX10_learns 0 = .ok (.aload_n 0, 1) := by decide +kernel
theorem dX10_learns_1 : decode cX10_learns 1 = .ok (.getfield 10, 3) := by decide +kernel
theorem dX10_learns_4 : decode cX10_learns 4 = .ok (.getfield 84, 3) := by decide +kernel
theorem dX10_learns_7 : decode cX10_learns 7 = .ok (.iload_n 1, 1) := by decide +kernel
theorem dX10_learns_8 : decode cX10_learns 8 = .ok (.invokevirtual 194, 3) := by decide +kernel
theorem dX10_learns_11 : decode cX10_learns 11 = .ok (.ifCond .eq 17, 3) := by decide +kernel
theorem dX10_learns_14 : decode cX10_learns 14 = .ok (.aload_n 0, 1) := by decide +kernel
theorem dX10_learns_15 : decode cX10_learns 15 = .ok (.getfield 10, 3) := by decide +kernel
theorem dX10_learns_18 : decode cX10_learns 18 = .ok (.getfield 77, 3) := by decide +kernel
theorem dX10_learns_21 : decode cX10_learns 21 = .ok (.iload_n 2, 1) := by decide +kernel
theorem dX10_learns_22 : decode cX10_learns 22 = .ok (.invokevirtual 137, 3) := by decide +kernel
theorem dX10_learns_25 : decode cX10_learns 25 = .ok (.ifCond .ne 9, 3) := by decide +kernel
theorem dX10_learns_28 : decode cX10_learns 28 = .ok (.aload_n 0, 1) := by decide +kernel
theorem dX10_learns_29 : decode cX10_learns 29 = .ok (.iconst 1, 1) := by decide +kernel
theorem dX10_learns_30 : decode cX10_learns 30 = .ok (.invokevirtual 63, 3) := by decide +kernel
theorem dX10_learns_33 : decode cX10_learns 33 = .ok (.ireturn, 1) := by decide +kernel
theorem dX10_learns_34 : decode cX10_learns 34 = .ok (.aload_n 0, 1) := by decide +kernel
theorem dX10_learns_35 : decode cX10_learns 35 = .ok (.getfield 10, 3) := by decide +kernel
theorem dX10_learns_38 : decode cX10_learns 38 = .ok (.iload_n 2, 1) := by decide +kernel
theorem dX10_learns_39 : decode cX10_learns 39 = .ok (.invokevirtual 138, 3) := by decide +kernel
theorem dX10_learns_42 : decode cX10_learns 42 = .ok (.astore_n 3, 1) := by decide +kernel
theorem dX10_learns_43 : decode cX10_learns 43 = .ok (.iconst 0, 1) := by decide +kernel
theorem dX10_learns_44 : decode cX10_learns 44 = .ok (.istore 4, 2) := by decide +kernel
theorem dX10_learns_46 : decode cX10_learns 46 = .ok (.iload 4, 2) := by decide +kernel
theorem dX10_learns_48 : decode cX10_learns 48 = .ok (.bipush 99, 2) := by decide +kernel
theorem dX10_learns_50 : decode cX10_learns 50 = .ok (.if_icmp .gt 59, 3) := by decide +kernel
theorem dX10_learns_53 : decode cX10_learns 53 = .ok (.aload_n 3, 1) := by decide +kernel
theorem dX10_learns_54 : decode cX10_learns 54 = .ok (.getfield 166, 3) := by decide +kernel
theorem dX10_learns_57 : decode cX10_learns 57 = .ok (.iload_n 1, 1) := by decide +kernel
theorem dX10_learns_58 : decode cX10_learns 58 = .ok (.invokestatic 120, 3) := by decide +kernel
theorem dX10_learns_61 : decode cX10_learns 61 = .ok (.iconst 1, 1) := by decide +kernel
theorem dX10_learns_62 : decode cX10_learns 62 = .ok (.if_icmp .ne 6, 3) := by decide +kernel
theorem dX10_learns_65 : decode cX10_learns 65 = .ok (.iload 4, 2) := by decide +kernel
theorem dX10_learns_67 : decode cX10_learns 67 = .ok (.ireturn, 1) := by decide +kernel
theorem dX10_learns_68 : decode cX10_learns 68 = .ok (.aload_n 0, 1) := by decide +kernel
theorem dX10_learns_69 : decode cX10_learns 69 = .ok (.getfield 10, 3) := by decide +kernel
theorem dX10_learns_72 : decode cX10_learns 72 = .ok (.aload_n 3, 1) := by decide +kernel
theorem dX10_learns_73 : decode cX10_learns 73 = .ok (.aload_n 0, 1) := by decide +kernel
theorem dX10_learns_74 : decode cX10_learns 74 = .ok (.getfield 10, 3) := by decide +kernel
theorem dX10_learns_77 : decode cX10_learns 77 = .ok (.getfield 128, 3) := by decide +kernel
theorem dX10_learns_80 : decode cX10_learns 80 = .ok (.aload_n 0, 1) := by decide +kernel
theorem dX10_learns_81 : decode cX10_learns 81 = .ok (.getfield 10, 3) := by decide +kernel
theorem dX10_learns_84 : decode cX10_learns 84 = .ok (.getfield 67, 3) := by decide +kernel
theorem dX10_learns_87 : decode cX10_learns 87 = .ok (.getfield 117, 3) := by decide +kernel
theorem dX10_learns_90 : decode cX10_learns 90 = .ok (.aload_n 0, 1) := by decide +kernel
theorem dX10_learns_91 : decode cX10_learns 91 = .ok (.getfield 10, 3) := by decide +kernel
theorem dX10_learns_94 : decode cX10_learns 94 = .ok (.getfield 243, 3) := by decide +kernel
theorem dX10_learns_97 : decode cX10_learns 97 = .ok (.iload 4, 2) := by decide +kernel
theorem dX10_learns_99 : decode cX10_learns 99 = .ok (.iadd, 1) := by decide +kernel
theorem dX10_learns_100 : decode cX10_learns 100 = .ok (.invokevirtual 270, 3) := by decide +kernel
theorem dX10_learns_103 : decode cX10_learns 103 = .ok (.iinc 4 1, 3) := by decide +kernel
theorem dX10_learns_106 : decode cX10_learns 106 = .ok (.goto (-60), 3) := by decide +kernel
theorem dX10_learns_109 : decode cX10_learns 109 = .ok (.aload_n 0, 1) := by decide +kernel
theorem dX10_learns_110 : decode cX10_learns 110 = .ok (.iconst 2, 1) := by decide +kernel
theorem dX10_learns_111 : decode cX10_learns 111 = .ok (.invokevirtual 63, 3) := by decide +kernel
theorem dX10_learns_114 : decode cX10_learns 114 = .ok (.ireturn, 1) := by decide +kernel
theorem dX10_calls_0 : decode cX10_calls 0 = .ok (.aload_n 0, 1) := by decide +kernel
theorem dX10_calls_1 : decode cX10_calls 1 = .ok (.getfield 10, 3) := by decide +kernel
theorem dX10_calls_4 : decode cX10_calls 4 = .ok (.getfield 77, 3) := by decide +kernel
theorem dX10_calls_7 : decode cX10_calls 7 = .ok (.iload_n 1, 1) := by decide +kernel
theorem dX10_calls_8 : decode cX10_calls 8 = .ok (.invokevirtual 137, 3) := by decide +kernel
theorem dX10_calls_11 : decode cX10_calls 11 = .ok (.ifCond .eq 13, 3) := by decide +kernel
theorem dX10_calls_14 : decode cX10_calls 14 = .ok (.iload_n 2, 1) := by decide +kernel
theorem dX10_calls_15 : decode cX10_calls 15 = .ok (.iconst 0, 1) := by decide +kernel
theorem dX10_calls_16 : decode cX10_calls 16 = .ok (.bipush 99, 2) := by decide +kernel
theorem dX10_calls_18 : decode cX10_calls 18 = .ok (.invokestatic 59, 3) := by decide +kernel
theorem dX10_calls_21 : decode cX10_calls 21 = .ok (.ifCond .ne 9, 3) := by decide +kernel
theorem dX10_calls_24 : decode cX10_calls 24 = .ok (.aload_n 0, 1) := by decide +kernel
theorem dX10_calls_25 : decode cX10_calls 25 = .ok (.iconst 1, 1) := by decide +kernel
theorem dX10_calls_26 : decode cX10_calls 26 = .ok (.invokevirtual 63, 3) := by decide +kernel
theorem dX10_calls_29 : decode cX10_calls 29 = .ok (.ireturn, 1) := by decide +kernel
theorem dX10_calls_30 : decode cX10_calls 30 = .ok (.aload_n 0, 1) := by decide +kernel
theorem dX10_calls_31 : decode cX10_calls 31 = .ok (.getfield 10, 3) := by decide +kernel
theorem dX10_calls_34 : decode cX10_calls 34 = .ok (.getfield 84, 3) := by decide +kernel
theorem dX10_calls_37 : decode cX10_calls 37 = .ok (.invokevirtual 88, 3) := by decide +kernel
theorem dX10_calls_40 : decode cX10_calls 40 = .ok (.iload_n 3, 1) := by decide +kernel
theorem dX10_calls_41 : decode cX10_calls 41 = .ok (.invokestatic 274, 3) := by decide +kernel
theorem dX10_calls_44 : decode cX10_calls 44 = .ok (.ifCond .eq 28, 3) := by decide +kernel
theorem dX10_calls_47 : decode cX10_calls 47 = .ok (.aload_n 0, 1) := by decide +kernel
theorem dX10_calls_48 : decode cX10_calls 48 = .ok (.getfield 10, 3) := by decide +kernel
theorem dX10_calls_51 : decode cX10_calls 51 = .ok (.getfield 84, 3) := by decide +kernel
theorem dX10_calls_54 : decode cX10_calls 54 = .ok (.invokevirtual 88, 3) := by decide +kernel
theorem dX10_calls_57 : decode cX10_calls 57 = .ok (.iload 4, 2) := by decide +kernel
theorem dX10_calls_59 : decode cX10_calls 59 = .ok (.invokestatic 274, 3) := by decide +kernel
theorem dX10_calls_62 : decode cX10_calls 62 = .ok (.ifCond .eq 10, 3) := by decide +kernel
theorem dX10_calls_65 : decode cX10_calls 65 = .ok (.iload_n 3, 1) := by decide +kernel
theorem dX10_calls_66 : decode cX10_calls 66 = .ok (.iload 4, 2) := by decide +kernel
theorem dX10_calls_68 : decode cX10_calls 68 = .ok (.iand, 1) := by decide +kernel
theorem dX10_calls_69 : decode cX10_calls 69 = .ok (.ifCond .eq 9, 3) := by decide +kernel
theorem dX10_calls_72 : decode cX10_calls 72 = .ok (.aload_n 0, 1) := by decide +kernel
theorem dX10_calls_73 : decode cX10_calls 73 = .ok (.iconst 1, 1) := by decide +kernel
theorem dX10_calls_74 : decode cX10_calls 74 = .ok (.invokevirtual 63, 3) := by decide +kernel
theorem dX10_calls_77 : decode cX10_calls 77 = .ok (.ireturn, 1) := by decide +kernel
theorem dX10_calls_78 : decode cX10_calls 78 = .ok (.iconst 0, 1) := by decide +kernel
theorem dX10_calls_79 : decode cX10_calls 79 = .ok (.istore 5, 2) := by decide +kernel
theorem dX10_calls_81 : decode cX10_calls 81 = .ok (.iconst 0, 1) := by decide +kernel
theorem dX10_calls_82 : decode cX10_calls 82 = .ok (.istore 6, 2) := by decide +kernel
theorem dX10_calls_84 : decode cX10_calls 84 = .ok (.iload 6, 2) := by decide +kernel
theorem dX10_calls_86 : decode cX10_calls 86 = .ok (.aload_n 0, 1) := by decide +kernel
theorem dX10_calls_87 : decode cX10_calls 87 = .ok (.getfield 10, 3) := by decide +kernel
theorem dX10_calls_90 : decode cX10_calls 90 = .ok (.getfield 91, 3) := by decide +kernel
theorem dX10_calls_93 : decode cX10_calls 93 = .ok (.if_icmp .ge 95, 3) := by decide +kernel
theorem dX10_calls_96 : decode cX10_calls 96 = .ok (.aload_n 0, 1) := by decide +kernel
theorem dX10_calls_97 : decode cX10_calls 97 = .ok (.getfield 10, 3) := by decide +kernel
theorem dX10_calls_100 : decode cX10_calls 100 = .ok (.iload_n 1, 1) := by decide +kernel
theorem dX10_calls_101 : decode cX10_calls 101 = .ok (.invokevirtual 138, 3) := by decide +kernel
theorem dX10_calls_104 : decode cX10_calls 104 = .ok (.astore 7, 2) := by decide +kernel
theorem dX10_calls_106 : decode cX10_calls 106 = .ok (.aload 7, 2) := by decide +kernel
theorem dX10_calls_108 : decode cX10_calls 108 = .ok (.iload 6, 2) := by decide +kernel
theorem dX10_calls_110 : decode cX10_calls 110 = .ok (.putfield 150, 3) := by decide +kernel
theorem dX10_calls_113 : decode cX10_calls 113 = .ok (.aload 7, 2) := by decide +kernel
theorem dX10_calls_115 : decode cX10_calls 115 = .ok (.iconst 0, 1) := by decide +kernel
theorem dX10_calls_116 : decode cX10_calls 116 = .ok (.putfield 156, 3) := by decide +kernel
theorem dX10_calls_119 : decode cX10_calls 119 = .ok (.aload_n 0, 1) := by decide +kernel
theorem dX10_calls_120 : decode cX10_calls 120 = .ok (.getfield 10, 3) := by decide +kernel
theorem dX10_calls_123 : decode cX10_calls 123 = .ok (.aload 7, 2) := by decide +kernel
theorem dX10_calls_125 : decode cX10_calls 125 = .ok (.aload_n 0, 1) := by decide +kernel
theorem dX10_calls_126 : decode cX10_calls 126 = .ok (.getfield 10, 3) := by decide +kernel
theorem dX10_calls_129 : decode cX10_calls 129 = .ok (.getfield 128, 3) := by decide +kernel
theorem dX10_calls_132 : decode cX10_calls 132 = .ok (.aload_n 0, 1) := by decide +kernel
theorem dX10_calls_133 : decode cX10_calls 133 = .ok (.getfield 10, 3) := by decide +kernel
theorem dX10_calls_136 : decode cX10_calls 136 = .ok (.getfield 67, 3) := by decide +kernel
theorem dX10_calls_139 : decode cX10_calls 139 = .ok (.getfield 117, 3) := by decide +kernel
theorem dX10_calls_142 : decode cX10_calls 142 = .ok (.iload_n 2, 1) := by decide +kernel
theorem dX10_calls_143 : decode cX10_calls 143 = .ok (.invokevirtual 277, 3) := by decide +kernel
theorem dX10_calls_146 : decode cX10_calls 146 = .ok (.iload 5, 2) := by decide +kernel
theorem dX10_calls_148 : decode cX10_calls 148 = .ok (.iload 6, 2) := by decide +kernel
theorem dX10_calls_150 : decode cX10_calls 150 = .ok (.aload 7, 2) := by decide +kernel
theorem dX10_calls_152 : decode cX10_calls 152 = .ok (.getfield 166, 3) := by decide +kernel
theorem dX10_calls_155 : decode cX10_calls 155 = .ok (.iload_n 3, 1) := by decide +kernel
theorem dX10_calls_156 : decode cX10_calls 156 = .ok (.iand, 1) := by decide +kernel
theorem dX10_calls_157 : decode cX10_calls 157 = .ok (.iload_n 3, 1) := by decide +kernel
theorem dX10_calls_158 : decode cX10_calls 158 = .ok (.if_icmp .ne 18, 3) := by decide +kernel
theorem dX10_calls_161 : decode cX10_calls 161 = .ok (.aload 7, 2) := by decide +kernel
theorem dX10_calls_163 : decode cX10_calls 163 = .ok (.getfield 166, 3) := by decide +kernel
theorem dX10_calls_166 : decode cX10_calls 166 = .ok (.iload 4, 2) := by decide +kernel
theorem dX10_calls_168 : decode cX10_calls 168 = .ok (.iand, 1) := by decide +kernel
theorem dX10_calls_169 : decode cX10_calls 169 = .ok (.ifCond .ne 7, 3) := by decide +kernel
theorem dX10_calls_172 : decode cX10_calls 172 = .ok (.iconst 1, 1) := by decide +kernel
theorem dX10_calls_173 : decode cX10_calls 173 = .ok (.goto 4, 3) := by decide +kernel
theorem dX10_calls_176 : decode cX10_calls 176 = .ok (.iconst 0, 1) := by decide +kernel
theorem dX10_calls_177 : decode cX10_calls 177 = .ok (.invokestatic 124, 3) := by decide +kernel
theorem dX10_calls_180 : decode cX10_calls 180 = .ok (.istore 5, 2) := by decide +kernel
theorem dX10_calls_182 : decode cX10_calls 182 = .ok (.iinc 6 1, 3) := by decide +kernel
theorem dX10_calls_185 : decode cX10_calls 185 = .ok (.goto (-101), 3) := by decide +kernel
theorem dX10_calls_188 : decode cX10_calls 188 = .ok (.iload 5, 2) := by decide +kernel
theorem dX10_calls_190 : decode cX10_calls 190 = .ok (.ireturn, 1) := by decide +kernel
theorem dX10_stops_0 : decode cX10_stops 0 = .ok (.aload_n 0, 1) := by decide +kernel
theorem dX10_stops_1 : decode cX10_stops 1 = .ok (.getfield 10, 3) := by decide +kernel
theorem dX10_stops_4 : decode cX10_stops 4 = .ok (.getfield 84, 3) := by decide +kernel
theorem dX10_stops_7 : decode cX10_stops 7 = .ok (.iload_n 1, 1) := by decide +kernel
theorem dX10_stops_8 : decode cX10_stops 8 = .ok (.invokevirtual 194, 3) := by decide +kernel
theorem dX10_stops_11 : decode cX10_stops 11 = .ok (.ifCond .eq 27, 3) := by decide +kernel
theorem dX10_stops_14 : decode cX10_stops 14 = .ok (.aload_n 0, 1) := by decide +kernel
theorem dX10_stops_15 : decode cX10_stops 15 = .ok (.getfield 10, 3) := by decide +kernel
theorem dX10_stops_18 : decode cX10_stops 18 = .ok (.getfield 77, 3) := by decide +kernel
theorem dX10_stops_21 : decode cX10_stops 21 = .ok (.iload_n 2, 1) := by decide +kernel
theorem dX10_stops_22 : decode cX10_stops 22 = .ok (.invokevirtual 137, 3) := by decide +kernel
theorem dX10_stops_25 : decode cX10_stops 25 = .ok (.ifCond .eq 13, 3) := by decide +kernel
theorem dX10_stops_28 : decode cX10_stops 28 = .ok (.iload_n 3, 1) := by decide +kernel
theorem dX10_stops_29 : decode cX10_stops 29 = .ok (.iconst 0, 1) := by decide +kernel
theorem dX10_stops_30 : decode cX10_stops 30 = .ok (.bipush 10, 2) := by decide +kernel
theorem dX10_stops_32 : decode cX10_stops 32 = .ok (.invokestatic 59, 3) := by decide +kernel
theorem dX10_stops_35 : decode cX10_stops 35 = .ok (.ifCond .ne 9, 3) := by decide +kernel
theorem dX10_stops_38 : decode cX10_stops 38 = .ok (.aload_n 0, 1) := by decide +kernel
theorem dX10_stops_39 : decode cX10_stops 39 = .ok (.iconst 1, 1) := by decide +kernel
theorem dX10_stops_40 : decode cX10_stops 40 = .ok (.invokevirtual 63, 3) := by decide +kernel
theorem dX10_stops_43 : decode cX10_stops 43 = .ok (.ireturn, 1) := by decide +kernel
theorem dX10_stops_44 : decode cX10_stops 44 = .ok (.iconst 1, 1) := by decide +kernel
theorem dX10_stops_45 : decode cX10_stops 45 = .ok (.aload_n 0, 1) := by decide +kernel
theorem dX10_stops_46 : decode cX10_stops 46 = .ok (.getfield 10, 3) := by decide +kernel
theorem dX10_stops_49 : decode cX10_stops 49 = .ok (.getfield 67, 3) := by decide +kernel
theorem dX10_stops_52 : decode cX10_stops 52 = .ok (.invokevirtual 71, 3) := by decide +kernel
theorem dX10_stops_55 : decode cX10_stops 55 = .ok (.ishl, 1) := by decide +kernel
theorem dX10_stops_56 : decode cX10_stops 56 = .ok (.istore 4, 2) := by decide +kernel
theorem dX10_stops_58 : decode cX10_stops 58 = .ok (.iconst 0, 1) := by decide +kernel
theorem dX10_stops_59 : decode cX10_stops 59 = .ok (.istore 5, 2) := by decide +kernel
theorem dX10_stops_61 : decode cX10_stops 61 = .ok (.iload 5, 2) := by decide +kernel
theorem dX10_stops_63 : decode cX10_stops 63 = .ok (.aload_n 0, 1) := by decide +kernel
theorem dX10_stops_64 : decode cX10_stops 64 = .ok (.getfield 10, 3) := by decide +kernel
theorem dX10_stops_67 : decode cX10_stops 67 = .ok (.getfield 67, 3) := by decide +kernel
theorem dX10_stops_70 : decode cX10_stops 70 = .ok (.invokevirtual 71, 3) := by decide +kernel
theorem dX10_stops_73 : decode cX10_stops 73 = .ok (.if_icmp .gt 50, 3) := by decide +kernel
theorem dX10_stops_76 : decode cX10_stops 76 = .ok (.iconst 0, 1) := by decide +kernel
theorem dX10_stops_77 : decode cX10_stops 77 = .ok (.istore 6, 2) := by decide +kernel
theorem dX10_stops_79 : decode cX10_stops 79 = .ok (.iload 6, 2) := by decide +kernel
theorem dX10_stops_81 : decode cX10_stops 81 = .ok (.iload 4, 2) := by decide +kernel
theorem dX10_stops_83 : decode cX10_stops 83 = .ok (.if_icmp .ge 34, 3) := by decide +kernel
theorem dX10_stops_86 : decode cX10_stops 86 = .ok (.iload 6, 2) := by decide +kernel
theorem dX10_stops_88 : decode cX10_stops 88 = .ok (.invokestatic 252, 3) := by decide +kernel
theorem dX10_stops_91 : decode cX10_stops 91 = .ok (.iload 5, 2) := by decide +kernel
theorem dX10_stops_93 : decode cX10_stops 93 = .ok (.if_icmp .ne 18, 3) := by decide +kernel
theorem dX10_stops_96 : decode cX10_stops 96 = .ok (.aload_n 0, 1) := by decide +kernel
theorem dX10_stops_97 : decode cX10_stops 97 = .ok (.iload 6, 2) := by decide +kernel
theorem dX10_stops_99 : decode cX10_stops 99 = .ok (.iload_n 1, 1) := by decide +kernel
theorem dX10_stops_100 : decode cX10_stops 100 = .ok (.iload_n 2, 1) := by decide +kernel
theorem dX10_stops_101 : decode cX10_stops 101 = .ok (.iload_n 3, 1) := by decide +kernel
theorem dX10_stops_102 : decode cX10_stops 102 = .ok (.invokevirtual 280, 3) := by decide +kernel
theorem dX10_stops_105 : decode cX10_stops 105 = .ok (.ifCond .eq 6, 3) := by decide +kernel
theorem dX10_stops_108 : decode cX10_stops 108 = .ok (.iload 6, 2) := by decide +kernel
theorem dX10_stops_110 : decode cX10_stops 110 = .ok (.ireturn, 1) := by decide +kernel
theorem dX10_stops_111 : decode cX10_stops 111 = .ok (.iinc 6 1, 3) := by decide +kernel
theorem dX10_stops_114 : decode cX10_stops 114 = .ok (.goto (-35), 3) := by decide +kernel
theorem dX10_stops_117 : decode cX10_stops 117 = .ok (.iinc 5 1, 3) := by decide +kernel
theorem dX10_stops_120 : decode cX10_stops 120 = .ok (.goto (-59), 3) := by decide +kernel
theorem dX10_stops_123 : decode cX10_stops 123 = .ok (.aload_n 0, 1) := by decide +kernel
theorem dX10_stops_124 : decode cX10_stops 124 = .ok (.iconst 2, 1) := by decide +kernel
theorem dX10_stops_125 : decode cX10_stops 125 = .ok (.invokevirtual 63, 3) := by decide +kernel
theorem dX10_stops_128 : decode cX10_stops 128 = .ok (.ireturn, 1) := by decide +kernel
theorem dX10_who_0 : decode cX10_who 0 = .ok (.aload_n 0, 1) := by decide +kernel
theorem dX10_who_1 : decode cX10_who 1 = .ok (.iload_n 1, 1) := by decide +kernel
theorem dX10_who_2 : decode cX10_who 2 = .ok (.invokevirtual 284, 3) := by decide +kernel
theorem dX10_who_5 : decode cX10_who 5 = .ok (.astore_n 3, 1) := by decide +kernel
theorem dX10_who_6 : decode cX10_who 6 = .ok (.aload_n 3, 1) := by decide +kernel
theorem dX10_who_7 : decode cX10_who 7 = .ok (.ifnull 13, 3) := by decide +kernel
theorem dX10_who_10 : decode cX10_who 10 = .ok (.iload_n 2, 1) := by decide +kernel
theorem dX10_who_11 : decode cX10_who 11 = .ok (.iconst 0, 1) := by decide +kernel
theorem dX10_who_12 : decode cX10_who 12 = .ok (.bipush 99, 2) := by decide +kernel
theorem dX10_who_14 : decode cX10_who 14 = .ok (.invokestatic 59, 3) := by decide +kernel
theorem dX10_who_17 : decode cX10_who 17 = .ok (.ifCond .ne 9, 3) := by decide +kernel
theorem dX10_who_20 : decode cX10_who 20 = .ok (.aload_n 0, 1) := by decide +kernel
theorem dX10_who_21 : decode cX10_who 21 = .ok (.iconst 1, 1) := by decide +kernel
theorem dX10_who_22 : decode cX10_who 22 = .ok (.invokevirtual 63, 3) := by decide +kernel
theorem dX10_who_25 : decode cX10_who 25 = .ok (.ireturn, 1) := by decide +kernel
theorem dX10_who_26 : decode cX10_who 26 = .ok (.aload_n 3, 1) := by decide +kernel
theorem dX10_who_27 : decode cX10_who 27 = .ok (.aload_n 0, 1) := by decide +kernel
theorem dX10_who_28 : decode cX10_who 28 = .ok (.getfield 10, 3) := by decide +kernel
theorem dX10_who_31 : decode cX10_who 31 = .ok (.getfield 84, 3) := by decide +kernel
theorem dX10_who_34 : decode cX10_who 34 = .ok (.invokevirtual 88, 3) := by decide +kernel
theorem dX10_who_37 : decode cX10_who 37 = .ok (.invokevirtual 288, 3) := by decide +kernel
theorem dX10_who_40 : decode cX10_who 40 = .ok (.ifCond .ne 9, 3) := by decide +kernel
theorem dX10_who_43 : decode cX10_who 43 = .ok (.aload_n 0, 1) := by decide +kernel
theorem dX10_who_44 : decode cX10_who 44 = .ok (.iconst 2, 1) := by decide +kernel
theorem dX10_who_45 : decode cX10_who 45 = .ok (.invokevirtual 63, 3) := by decide +kernel
theorem dX10_who_48 : decode cX10_who 48 = .ok (.ireturn, 1) := by decide +kernel
theorem dX10_who_49 : decode cX10_who 49 = .ok (.aload_n 0, 1) := by decide +kernel
theorem dX10_who_50 : decode cX10_who 50 = .ok (.getfield 10, 3) := by decide +kernel
theorem dX10_who_53 : decode cX10_who 53 = .ok (.iload_n 2, 1) := by decide +kernel
theorem dX10_who_54 : decode cX10_who 54 = .ok (.invokevirtual 260, 3) := by decide +kernel
theorem dX10_who_57 : decode cX10_who 57 = .ok (.iconst 0, 1) := by decide +kernel
theorem dX10_who_58 : decode cX10_who 58 = .ok (.istore 4, 2) := by decide +kernel
theorem dX10_who_60 : decode cX10_who 60 = .ok (.iconst 0, 1) := by decide +kernel
theorem dX10_who_61 : decode cX10_who 61 = .ok (.istore 5, 2) := by decide +kernel
theorem dX10_who_63 : decode cX10_who 63 = .ok (.iload 5, 2) := by decide +kernel
theorem dX10_who_65 : decode cX10_who 65 = .ok (.aload_n 0, 1) := by decide +kernel
theorem dX10_who_66 : decode cX10_who 66 = .ok (.getfield 10, 3) := by decide +kernel
theorem dX10_who_69 : decode cX10_who 69 = .ok (.getfield 263, 3) := by decide +kernel
theorem dX10_who_72 : decode cX10_who 72 = .ok (.invokevirtual 211, 3) := by decide +kernel
theorem dX10_who_75 : decode cX10_who 75 = .ok (.if_icmp .ge 34, 3) := by decide +kernel
theorem dX10_who_78 : decode cX10_who 78 = .ok (.iload 4, 2) := by decide +kernel
theorem dX10_who_80 : decode cX10_who 80 = .ok (.iload 5, 2) := by decide +kernel
theorem dX10_who_82 : decode cX10_who 82 = .ok (.aload_n 3, 1) := by decide +kernel
theorem dX10_who_83 : decode cX10_who 83 = .ok (.aload_n 0, 1) := by decide +kernel
theorem dX10_who_84 : decode cX10_who 84 = .ok (.getfield 10, 3) := by decide +kernel
theorem dX10_who_87 : decode cX10_who 87 = .ok (.getfield 263, 3) := by decide +kernel
theorem dX10_who_90 : decode cX10_who 90 = .ok (.iload 5, 2) := by decide +kernel
theorem dX10_who_92 : decode cX10_who 92 = .ok (.invokevirtual 108, 3) := by decide +kernel
theorem dX10_who_95 : decode cX10_who 95 = .ok (.invokevirtual 291, 3) := by decide +kernel
theorem dX10_who_98 : decode cX10_who 98 = .ok (.invokestatic 124, 3) := by decide +kernel
theorem dX10_who_101 : decode cX10_who 101 = .ok (.istore 4, 2) := by decide +kernel
theorem dX10_who_103 : decode cX10_who 103 = .ok (.iinc 5 1, 3) := by decide +kernel
theorem dX10_who_106 : decode cX10_who 106 = .ok (.goto (-43), 3) := by decide +kernel
theorem dX10_who_109 : decode cX10_who 109 = .ok (.iload 4, 2) := by decide +kernel
theorem dX10_who_111 : decode cX10_who 111 = .ok (.ireturn, 1) := by decide +kernel
theorem dX10_loud_0 : decode cX10_loud 0 = .ok (.aload_n 0, 1) := by decide +kernel
theorem dX10_loud_1 : decode cX10_loud 1 = .ok (.iload_n 1, 1) := by decide +kernel
theorem dX10_loud_2 : decode cX10_loud 2 = .ok (.invokevirtual 284, 3) := by decide +kernel
theorem dX10_loud_5 : decode cX10_loud 5 = .ok (.astore 5, 2) := by decide +kernel
theorem dX10_loud_7 : decode cX10_loud 7 = .ok (.aload 5, 2) := by decide +kernel
theorem dX10_loud_9 : decode cX10_loud 9 = .ok (.ifnull 37, 3) := by decide +kernel
theorem dX10_loud_12 : decode cX10_loud 12 = .ok (.aload_n 0, 1) := by decide +kernel
theorem dX10_loud_13 : decode cX10_loud 13 = .ok (.getfield 10, 3) := by decide +kernel
theorem dX10_loud_16 : decode cX10_loud 16 = .ok (.getfield 77, 3) := by decide +kernel
theorem dX10_loud_19 : decode cX10_loud 19 = .ok (.iload_n 2, 1) := by decide +kernel
theorem dX10_loud_20 : decode cX10_loud 20 = .ok (.invokevirtual 137, 3) := by decide +kernel
theorem dX10_loud_23 : decode cX10_loud 23 = .ok (.ifCond .eq 23, 3) := by decide +kernel
theorem dX10_loud_26 : decode cX10_loud 26 = .ok (.iload_n 3, 1) := by decide +kernel
theorem dX10_loud_27 : decode cX10_loud 27 = .ok (.iconst 0, 1) := by decide +kernel
theorem dX10_loud_28 : decode cX10_loud 28 = .ok (.bipush 20, 2) := by decide +kernel
theorem dX10_loud_30 : decode cX10_loud 30 = .ok (.invokestatic 59, 3) := by decide +kernel
theorem dX10_loud_33 : decode cX10_loud 33 = .ok (.ifCond .eq 13, 3) := by decide +kernel
theorem dX10_loud_36 : decode cX10_loud 36 = .ok (.iload 4, 2) := by decide +kernel
theorem dX10_loud_38 : decode cX10_loud 38 = .ok (.iconst 0, 1) := by decide +kernel
theorem dX10_loud_39 : decode cX10_loud 39 = .ok (.iconst 1, 1) := by decide +kernel
theorem dX10_loud_40 : decode cX10_loud 40 = .ok (.invokestatic 59, 3) := by decide +kernel
theorem dX10_loud_43 : decode cX10_loud 43 = .ok (.ifCond .ne 9, 3) := by decide +kernel
theorem dX10_loud_46 : decode cX10_loud 46 = .ok (.aload_n 0, 1) := by decide +kernel
theorem dX10_loud_47 : decode cX10_loud 47 = .ok (.iconst 1, 1) := by decide +kernel
theorem dX10_loud_48 : decode cX10_loud 48 = .ok (.invokevirtual 63, 3) := by decide +kernel
theorem dX10_loud_51 : decode cX10_loud 51 = .ok (.ireturn, 1) := by decide +kernel
theorem dX10_loud_52 : decode cX10_loud 52 = .ok (.aload 5, 2) := by decide +kernel
theorem dX10_loud_54 : decode cX10_loud 54 = .ok (.aload_n 0, 1) := by decide +kernel
theorem dX10_loud_55 : decode cX10_loud 55 = .ok (.getfield 10, 3) := by decide +kernel
theorem dX10_loud_58 : decode cX10_loud 58 = .ok (.getfield 84, 3) := by decide +kernel
theorem dX10_loud_61 : decode cX10_loud 61 = .ok (.invokevirtual 88, 3) := by decide +kernel
theorem dX10_loud_64 : decode cX10_loud 64 = .ok (.invokevirtual 288, 3) := by decide +kernel
theorem dX10_loud_67 : decode cX10_loud 67 = .ok (.ifCond .ne 9, 3) := by decide +kernel
theorem dX10_loud_70 : decode cX10_loud 70 = .ok (.aload_n 0, 1) := by decide +kernel
theorem dX10_loud_71 : decode cX10_loud 71 = .ok (.iconst 2, 1) := by decide +kernel
theorem dX10_loud_72 : decode cX10_loud 72 = .ok (.invokevirtual 63, 3) := by decide +kernel
theorem dX10_loud_75 : decode cX10_loud 75 = .ok (.ireturn, 1) := by decide +kernel
theorem dX10_loud_76 : decode cX10_loud 76 = .ok (.iconst 0, 1) := by decide +kernel
theorem dX10_loud_77 : decode cX10_loud 77 = .ok (.istore 6, 2) := by decide +kernel
theorem dX10_loud_79 : decode cX10_loud 79 = .ok (.iconst (-1), 1) := by decide +kernel
theorem dX10_loud_80 : decode cX10_loud 80 = .ok (.istore 7, 2) := by decide +kernel
theorem dX10_loud_82 : decode cX10_loud 82 = .ok (.bipush 99, 2) := by decide +kernel
theorem dX10_loud_84 : decode cX10_loud 84 = .ok (.istore 8, 2) := by decide +kernel
theorem dX10_loud_86 : decode cX10_loud 86 = .ok (.iload 8, 2) := by decide +kernel
theorem dX10_loud_88 : decode cX10_loud 88 = .ok (.ifCond .lt 73, 3) := by decide +kernel
theorem dX10_loud_91 : decode cX10_loud 91 = .ok (.aload_n 0, 1) := by decide +kernel
theorem dX10_loud_92 : decode cX10_loud 92 = .ok (.getfield 10, 3) := by decide +kernel
theorem dX10_loud_95 : decode cX10_loud 95 = .ok (.iload_n 2, 1) := by decide +kernel
theorem dX10_loud_96 : decode cX10_loud 96 = .ok (.invokevirtual 138, 3) := by decide +kernel
theorem dX10_loud_99 : decode cX10_loud 99 = .ok (.astore 9, 2) := by decide +kernel
theorem dX10_loud_101 : decode cX10_loud 101 = .ok (.aload 9, 2) := by decide +kernel
theorem dX10_loud_103 : decode cX10_loud 103 = .ok (.iload 8, 2) := by decide +kernel
theorem dX10_loud_105 : decode cX10_loud 105 = .ok (.putfield 153, 3) := by decide +kernel
theorem dX10_loud_108 : decode cX10_loud 108 = .ok (.aload_n 0, 1) := by decide +kernel
theorem dX10_loud_109 : decode cX10_loud 109 = .ok (.getfield 10, 3) := by decide +kernel
theorem dX10_loud_112 : decode cX10_loud 112 = .ok (.aload 9, 2) := by decide +kernel
theorem dX10_loud_114 : decode cX10_loud 114 = .ok (.aload_n 0, 1) := by decide +kernel
theorem dX10_loud_115 : decode cX10_loud 115 = .ok (.getfield 10, 3) := by decide +kernel
theorem dX10_loud_118 : decode cX10_loud 118 = .ok (.getfield 128, 3) := by decide +kernel
theorem dX10_loud_121 : decode cX10_loud 121 = .ok (.aload_n 0, 1) := by decide +kernel
theorem dX10_loud_122 : decode cX10_loud 122 = .ok (.getfield 10, 3) := by decide +kernel
theorem dX10_loud_125 : decode cX10_loud 125 = .ok (.getfield 67, 3) := by decide +kernel
theorem dX10_loud_128 : decode cX10_loud 128 = .ok (.getfield 117, 3) := by decide +kernel
theorem dX10_loud_131 : decode cX10_loud 131 = .ok (.iload_n 3, 1) := by decide +kernel
theorem dX10_loud_132 : decode cX10_loud 132 = .ok (.invokevirtual 277, 3) := by decide +kernel
theorem dX10_loud_135 : decode cX10_loud 135 = .ok (.aload 5, 2) := by decide +kernel
theorem dX10_loud_137 : decode cX10_loud 137 = .ok (.aload 9, 2) := by decide +kernel
theorem dX10_loud_139 : decode cX10_loud 139 = .ok (.getfield 166, 3) := by decide +kernel
theorem dX10_loud_142 : decode cX10_loud 142 = .ok (.invokevirtual 291, 3) := by decide +kernel
theorem dX10_loud_145 : decode cX10_loud 145 = .ok (.ifCond .eq 10, 3) := by decide +kernel
theorem dX10_loud_148 : decode cX10_loud 148 = .ok (.iinc 6 1, 3) := by decide +kernel
theorem dX10_loud_151 : decode cX10_loud 151 = .ok (.iload 8, 2) := by decide +kernel
theorem dX10_loud_153 : decode cX10_loud 153 = .ok (.istore 7, 2) := by decide +kernel
theorem dX10_loud_155 : decode cX10_loud 155 = .ok (.iinc 8 (-1), 3) := by decide +kernel
theorem dX10_loud_158 : decode cX10_loud 158 = .ok (.goto (-72), 3) := by decide +kernel
theorem dX10_loud_161 : decode cX10_loud 161 = .ok (.iload 4, 2) := by decide +kernel
theorem dX10_loud_163 : decode cX10_loud 163 = .ok (.ifCond .ne 6, 3) := by decide +kernel
theorem dX10_loud_166 : decode cX10_loud 166 = .ok (.iload 6, 2) := by decide +kernel
theorem dX10_loud_168 : decode cX10_loud 168 = .ok (.ireturn, 1) := by decide +kernel
theorem dX10_loud_169 : decode cX10_loud 169 = .ok (.iload 7, 2) := by decide +kernel
theorem dX10_loud_171 : decode cX10_loud 171 = .ok (.ifCond .ge 11, 3) := by decide +kernel
theorem dX10_loud_174 : decode cX10_loud 174 = .ok (.aload_n 0, 1) := by decide +kernel
theorem dX10_loud_175 : decode cX10_loud 175 = .ok (.iconst 2, 1) := by decide +kernel
theorem dX10_loud_176 : decode cX10_loud 176 = .ok (.invokevirtual 63, 3) := by decide +kernel
theorem dX10_loud_179 : decode cX10_loud 179 = .ok (.goto 5, 3) := by decide +kernel
theorem dX10_loud_182 : decode cX10_loud 182 = .ok (.iload 7, 2) := by decide +kernel
theorem dX10_loud_184 : decode cX10_loud 184 = .ok (.ireturn, 1) := by decide +kernel
theorem dX10_alike_0 : decode cX10_alike 0 = .ok (.iload_n 1, 1) := by decide +kernel
theorem dX10_alike_1 : decode cX10_alike 1 = .ok (.iconst 0, 1) := by decide +kernel
theorem dX10_alike_2 : decode cX10_alike 2 = .ok (.bipush 99, 2) := by decide +kernel
theorem dX10_alike_4 : decode cX10_alike 4 = .ok (.invokestatic 59, 3) := by decide +kernel
theorem dX10_alike_7 : decode cX10_alike 7 = .ok (.ifCond .ne 9, 3) := by decide +kernel
theorem dX10_alike_10 : decode cX10_alike 10 = .ok (.aload_n 0, 1) := by decide +kernel
theorem dX10_alike_11 : decode cX10_alike 11 = .ok (.iconst 1, 1) := by decide +kernel
theorem dX10_alike_12 : decode cX10_alike 12 = .ok (.invokevirtual 63, 3) := by decide +kernel
theorem dX10_alike_15 : decode cX10_alike 15 = .ok (.ireturn, 1) := by decide +kernel
theorem dX10_alike_16 : decode cX10_alike 16 = .ok (.aload_n 0, 1) := by decide +kernel
theorem dX10_alike_17 : decode cX10_alike 17 = .ok (.getfield 10, 3) := by decide +kernel
theorem dX10_alike_20 : decode cX10_alike 20 = .ok (.iload_n 1, 1) := by decide +kernel
theorem dX10_alike_21 : decode cX10_alike 21 = .ok (.invokevirtual 260, 3) := by decide +kernel
theorem dX10_alike_24 : decode cX10_alike 24 = .ok (.iconst 0, 1) := by decide +kernel
theorem dX10_alike_25 : decode cX10_alike 25 = .ok (.istore_n 2, 1) := by decide +kernel
theorem dX10_alike_26 : decode cX10_alike 26 = .ok (.iconst 0, 1) := by decide +kernel
theorem dX10_alike_27 : decode cX10_alike 27 = .ok (.istore_n 3, 1) := by decide +kernel
theorem dX10_alike_28 : decode cX10_alike 28 = .ok (.iload_n 3, 1) := by decide +kernel
theorem dX10_alike_29 : decode cX10_alike 29 = .ok (.aload_n 0, 1) := by decide +kernel
theorem dX10_alike_30 : decode cX10_alike 30 = .ok (.getfield 10, 3) := by decide +kernel
theorem dX10_alike_33 : decode cX10_alike 33 = .ok (.getfield 84, 3) := by decide +kernel
theorem dX10_alike_36 : decode cX10_alike 36 = .ok (.invokevirtual 88, 3) := by decide +kernel
theorem dX10_alike_39 : decode cX10_alike 39 = .ok (.if_icmp .ge 78, 3) := by decide +kernel
theorem dX10_alike_42 : decode cX10_alike 42 = .ok (.iload_n 3, 1) := by decide +kernel
theorem dX10_alike_43 : decode cX10_alike 43 = .ok (.iconst 1, 1) := by decide +kernel
theorem dX10_alike_44 : decode cX10_alike 44 = .ok (.iadd, 1) := by decide +kernel
theorem dX10_alike_45 : decode cX10_alike 45 = .ok (.istore 4, 2) := by decide +kernel
theorem dX10_alike_47 : decode cX10_alike 47 = .ok (.iload 4, 2) := by decide +kernel
theorem dX10_alike_49 : decode cX10_alike 49 = .ok (.aload_n 0, 1) := by decide +kernel
theorem dX10_alike_50 : decode cX10_alike 50 = .ok (.getfield 10, 3) := by decide +kernel
theorem dX10_alike_53 : decode cX10_alike 53 = .ok (.getfield 84, 3) := by decide +kernel
theorem dX10_alike_56 : decode cX10_alike 56 = .ok (.invokevirtual 88, 3) := by decide +kernel
theorem dX10_alike_59 : decode cX10_alike 59 = .ok (.if_icmp .ge 52, 3) := by decide +kernel
theorem dX10_alike_62 : decode cX10_alike 62 = .ok (.aload_n 0, 1) := by decide +kernel
theorem dX10_alike_63 : decode cX10_alike 63 = .ok (.getfield 10, 3) := by decide +kernel
theorem dX10_alike_66 : decode cX10_alike 66 = .ok (.getfield 77, 3) := by decide +kernel
theorem dX10_alike_69 : decode cX10_alike 69 = .ok (.iload_n 3, 1) := by decide +kernel
theorem dX10_alike_70 : decode cX10_alike 70 = .ok (.aload_n 0, 1) := by decide +kernel
theorem dX10_alike_71 : decode cX10_alike 71 = .ok (.getfield 10, 3) := by decide +kernel
theorem dX10_alike_74 : decode cX10_alike 74 = .ok (.getfield 263, 3) := by decide +kernel
theorem dX10_alike_77 : decode cX10_alike 77 = .ok (.invokevirtual 266, 3) := by decide +kernel
theorem dX10_alike_80 : decode cX10_alike 80 = .ok (.aload_n 0, 1) := by decide +kernel
theorem dX10_alike_81 : decode cX10_alike 81 = .ok (.getfield 10, 3) := by decide +kernel
theorem dX10_alike_84 : decode cX10_alike 84 = .ok (.getfield 77, 3) := by decide +kernel
theorem dX10_alike_87 : decode cX10_alike 87 = .ok (.iload 4, 2) := by decide +kernel
theorem dX10_alike_89 : decode cX10_alike 89 = .ok (.aload_n 0, 1) := by decide +kernel
theorem dX10_alike_90 : decode cX10_alike 90 = .ok (.getfield 10, 3) := by decide +kernel
theorem dX10_alike_93 : decode cX10_alike 93 = .ok (.getfield 263, 3) := by decide +kernel
theorem dX10_alike_96 : decode cX10_alike 96 = .ok (.invokevirtual 266, 3) := by decide +kernel
theorem dX10_alike_99 : decode cX10_alike 99 = .ok (.if_icmp .ne 6, 3) := by decide +kernel
theorem dX10_alike_102 : decode cX10_alike 102 = .ok (.iinc 2 1, 3) := by decide +kernel
theorem dX10_alike_105 : decode cX10_alike 105 = .ok (.iinc 4 1, 3) := by decide +kernel
theorem dX10_alike_108 : decode cX10_alike 108 = .ok (.goto (-61), 3) := by decide +kernel
theorem dX10_alike_111 : decode cX10_alike 111 = .ok (.iinc 3 1, 3) := by decide +kernel
theorem dX10_alike_114 : decode cX10_alike 114 = .ok (.goto (-86), 3) := by decide +kernel
theorem dX10_alike_117 : decode cX10_alike 117 = .ok (.iload_n 2, 1) := by decide +kernel
theorem dX10_alike_118 : decode cX10_alike 118 = .ok (.ireturn, 1) := by decide +kernel
theorem dX10_furthest_0 : decode cX10_furthest 0 = .ok (.iload_n 1, 1) := by decide +kernel
theorem dX10_furthest_1 : decode cX10_furthest 1 = .ok (.iconst 0, 1) := by decide +kernel
theorem dX10_furthest_2 : decode cX10_furthest 2 = .ok (.bipush 99, 2) := by decide +kernel
theorem dX10_furthest_4 : decode cX10_furthest 4 = .ok (.invokestatic 59, 3) := by decide +kernel
theorem dX10_furthest_7 : decode cX10_furthest 7 = .ok (.ifCond .eq 12, 3) := by decide +kernel
theorem dX10_furthest_10 : decode cX10_furthest 10 = .ok (.iload_n 2, 1) := by decide +kernel
theorem dX10_furthest_11 : decode cX10_furthest 11 = .ok (.iconst 0, 1) := by decide +kernel
theorem dX10_furthest_12 : decode cX10_furthest 12 = .ok (.iconst 1, 1) := by decide +kernel
theorem dX10_furthest_13 : decode cX10_furthest 13 = .ok (.invokestatic 59, 3) := by decide +kernel
theorem dX10_furthest_16 : decode cX10_furthest 16 = .ok (.ifCond .ne 9, 3) := by decide +kernel
theorem dX10_furthest_19 : decode cX10_furthest 19 = .ok (.aload_n 0, 1) := by decide +kernel
theorem dX10_furthest_20 : decode cX10_furthest 20 = .ok (.iconst 1, 1) := by decide +kernel
theorem dX10_furthest_21 : decode cX10_furthest 21 = .ok (.invokevirtual 63, 3) := by decide +kernel
theorem dX10_furthest_24 : decode cX10_furthest 24 = .ok (.ireturn, 1) := by decide +kernel
theorem dX10_furthest_25 : decode cX10_furthest 25 = .ok (.aload_n 0, 1) := by decide +kernel
theorem dX10_furthest_26 : decode cX10_furthest 26 = .ok (.getfield 10, 3) := by decide +kernel
theorem dX10_furthest_29 : decode cX10_furthest 29 = .ok (.getfield 77, 3) := by decide +kernel
theorem dX10_furthest_32 : decode cX10_furthest 32 = .ok (.invokevirtual 81, 3) := by decide +kernel
theorem dX10_furthest_35 : decode cX10_furthest 35 = .ok (.ifCond .ne 9, 3) := by decide +kernel
theorem dX10_furthest_38 : decode cX10_furthest 38 = .ok (.aload_n 0, 1) := by decide +kernel
theorem dX10_furthest_39 : decode cX10_furthest 39 = .ok (.iconst 2, 1) := by decide +kernel
theorem dX10_furthest_40 : decode cX10_furthest 40 = .ok (.invokevirtual 63, 3) := by decide +kernel
theorem dX10_furthest_43 : decode cX10_furthest 43 = .ok (.ireturn, 1) := by decide +kernel
theorem dX10_furthest_44 : decode cX10_furthest 44 = .ok (.aload_n 0, 1) := by decide +kernel
theorem dX10_furthest_45 : decode cX10_furthest 45 = .ok (.getfield 10, 3) := by decide +kernel
theorem dX10_furthest_48 : decode cX10_furthest 48 = .ok (.iload_n 1, 1) := by decide +kernel
theorem dX10_furthest_49 : decode cX10_furthest 49 = .ok (.invokevirtual 260, 3) := by decide +kernel
theorem dX10_furthest_52 : decode cX10_furthest 52 = .ok (.iconst 0, 1) := by decide +kernel
theorem dX10_furthest_53 : decode cX10_furthest 53 = .ok (.istore_n 3, 1) := by decide +kernel
theorem dX10_furthest_54 : decode cX10_furthest 54 = .ok (.iconst (-1), 1) := by decide +kernel
theorem dX10_furthest_55 : decode cX10_furthest 55 = .ok (.istore 4, 2) := by decide +kernel
theorem dX10_furthest_57 : decode cX10_furthest 57 = .ok (.iconst 0, 1) := by decide +kernel
theorem dX10_furthest_58 : decode cX10_furthest 58 = .ok (.istore 5, 2) := by decide +kernel
theorem dX10_furthest_60 : decode cX10_furthest 60 = .ok (.iload 5, 2) := by decide +kernel
theorem dX10_furthest_62 : decode cX10_furthest 62 = .ok (.aload_n 0, 1) := by decide +kernel
theorem dX10_furthest_63 : decode cX10_furthest 63 = .ok (.getfield 10, 3) := by decide +kernel
theorem dX10_furthest_66 : decode cX10_furthest 66 = .ok (.getfield 263, 3) := by decide +kernel
theorem dX10_furthest_69 : decode cX10_furthest 69 = .ok (.invokevirtual 211, 3) := by decide +kernel
theorem dX10_furthest_72 : decode cX10_furthest 72 = .ok (.if_icmp .ge 40, 3) := by decide +kernel
theorem dX10_furthest_75 : decode cX10_furthest 75 = .ok (.aload_n 0, 1) := by decide +kernel
theorem dX10_furthest_76 : decode cX10_furthest 76 = .ok (.getfield 10, 3) := by decide +kernel
theorem dX10_furthest_79 : decode cX10_furthest 79 = .ok (.getfield 263, 3) := by decide +kernel
theorem dX10_furthest_82 : decode cX10_furthest 82 = .ok (.iload 5, 2) := by decide +kernel
theorem dX10_furthest_84 : decode cX10_furthest 84 = .ok (.invokevirtual 108, 3) := by decide +kernel
theorem dX10_furthest_87 : decode cX10_furthest 87 = .ok (.invokestatic 252, 3) := by decide +kernel
theorem dX10_furthest_90 : decode cX10_furthest 90 = .ok (.istore 6, 2) := by decide +kernel
theorem dX10_furthest_92 : decode cX10_furthest 92 = .ok (.iload 6, 2) := by decide +kernel
theorem dX10_furthest_94 : decode cX10_furthest 94 = .ok (.iload 4, 2) := by decide +kernel
theorem dX10_furthest_96 : decode cX10_furthest 96 = .ok (.if_icmp .le 10, 3) := by decide +kernel
theorem dX10_furthest_99 : decode cX10_furthest 99 = .ok (.iload 5, 2) := by decide +kernel
theorem dX10_furthest_101 : decode cX10_furthest 101 = .ok (.istore_n 3, 1) := by decide +kernel
theorem dX10_furthest_102 : decode cX10_furthest 102 = .ok (.iload 6, 2) := by decide +kernel
theorem dX10_furthest_104 : decode cX10_furthest 104 = .ok (.istore 4, 2) := by decide +kernel
theorem dX10_furthest_106 : decode cX10_furthest 106 = .ok (.iinc 5 1, 3) := by decide +kernel
theorem dX10_furthest_109 : decode cX10_furthest 109 = .ok (.goto (-49), 3) := by decide +kernel
theorem dX10_furthest_112 : decode cX10_furthest 112 = .ok (.iload_n 2, 1) := by decide +kernel
theorem dX10_furthest_113 : decode cX10_furthest 113 = .ok (.ifCond .ne 7, 3) := by decide +kernel
theorem dX10_furthest_116 : decode cX10_furthest 116 = .ok (.iload_n 3, 1) := by decide +kernel
theorem dX10_furthest_117 : decode cX10_furthest 117 = .ok (.goto 5, 3) := by decide +kernel
theorem dX10_furthest_120 : decode cX10_furthest 120 = .ok (.iload 4, 2) := by decide +kernel
theorem dX10_furthest_122 : decode cX10_furthest 122 = .ok (.ireturn, 1) := by decide +kernel
theorem dX10_odds_0 : decode cX10_odds 0 = .ok (.aload_n 0, 1) := by decide +kernel
theorem dX10_odds_1 : decode cX10_odds 1 = .ok (.getfield 10, 3) := by decide +kernel
theorem dX10_odds_4 : decode cX10_odds 4 = .ok (.getfield 84, 3) := by decide +kernel
theorem dX10_odds_7 : decode cX10_odds 7 = .ok (.iload_n 1, 1) := by decide +kernel
theorem dX10_odds_8 : decode cX10_odds 8 = .ok (.invokevirtual 194, 3) := by decide +kernel
theorem dX10_odds_11 : decode cX10_odds 11 = .ok (.ifCond .eq 17, 3) := by decide +kernel
theorem dX10_odds_14 : decode cX10_odds 14 = .ok (.aload_n 0, 1) := by decide +kernel
theorem dX10_odds_15 : decode cX10_odds 15 = .ok (.getfield 10, 3) := by decide +kernel
theorem dX10_odds_18 : decode cX10_odds 18 = .ok (.getfield 77, 3) := by decide +kernel
theorem dX10_odds_21 : decode cX10_odds 21 = .ok (.iload_n 2, 1) := by decide +kernel
theorem dX10_odds_22 : decode cX10_odds 22 = .ok (.invokevirtual 137, 3) := by decide +kernel
theorem dX10_odds_25 : decode cX10_odds 25 = .ok (.ifCond .ne 9, 3) := by decide +kernel
theorem dX10_odds_28 : decode cX10_odds 28 = .ok (.aload_n 0, 1) := by decide +kernel
theorem dX10_odds_29 : decode cX10_odds 29 = .ok (.iconst 1, 1) := by decide +kernel
theorem dX10_odds_30 : decode cX10_odds 30 = .ok (.invokevirtual 63, 3) := by decide +kernel
theorem dX10_odds_33 : decode cX10_odds 33 = .ok (.ireturn, 1) := by decide +kernel
theorem dX10_odds_34 : decode cX10_odds 34 = .ok (.iload_n 3, 1) := by decide +kernel
theorem dX10_odds_35 : decode cX10_odds 35 = .ok (.iconst 0, 1) := by decide +kernel
theorem dX10_odds_36 : decode cX10_odds 36 = .ok (.bipush 99, 2) := by decide +kernel
theorem dX10_odds_38 : decode cX10_odds 38 = .ok (.invokestatic 59, 3) := by decide +kernel
theorem dX10_odds_41 : decode cX10_odds 41 = .ok (.ifCond .eq 13, 3) := by decide +kernel
theorem dX10_odds_44 : decode cX10_odds 44 = .ok (.iload 4, 2) := by decide +kernel
theorem dX10_odds_46 : decode cX10_odds 46 = .ok (.iconst 0, 1) := by decide +kernel
theorem dX10_odds_47 : decode cX10_odds 47 = .ok (.iconst 1, 1) := by decide +kernel
theorem dX10_odds_48 : decode cX10_odds 48 = .ok (.invokestatic 59, 3) := by decide +kernel
theorem dX10_odds_51 : decode cX10_odds 51 = .ok (.ifCond .ne 9, 3) := by decide +kernel
theorem dX10_odds_54 : decode cX10_odds 54 = .ok (.aload_n 0, 1) := by decide +kernel
theorem dX10_odds_55 : decode cX10_odds 55 = .ok (.iconst 1, 1) := by decide +kernel
theorem dX10_odds_56 : decode cX10_odds 56 = .ok (.invokevirtual 63, 3) := by decide +kernel
theorem dX10_odds_59 : decode cX10_odds 59 = .ok (.ireturn, 1) := by decide +kernel
theorem dX10_odds_60 : decode cX10_odds 60 = .ok (.iconst 0, 1) := by decide +kernel
theorem dX10_odds_61 : decode cX10_odds 61 = .ok (.istore 5, 2) := by decide +kernel
theorem dX10_odds_63 : decode cX10_odds 63 = .ok (.iconst 0, 1) := by decide +kernel
theorem dX10_odds_64 : decode cX10_odds 64 = .ok (.istore 6, 2) := by decide +kernel
theorem dX10_odds_66 : decode cX10_odds 66 = .ok (.iload 6, 2) := by decide +kernel
theorem dX10_odds_68 : decode cX10_odds 68 = .ok (.bipush 9, 2) := by decide +kernel
theorem dX10_odds_70 : decode cX10_odds 70 = .ok (.if_icmp .gt 55, 3) := by decide +kernel
theorem dX10_odds_73 : decode cX10_odds 73 = .ok (.aload_n 0, 1) := by decide +kernel
theorem dX10_odds_74 : decode cX10_odds 74 = .ok (.getfield 10, 3) := by decide +kernel
theorem dX10_odds_77 : decode cX10_odds 77 = .ok (.iload_n 2, 1) := by decide +kernel
theorem dX10_odds_78 : decode cX10_odds 78 = .ok (.invokevirtual 138, 3) := by decide +kernel
theorem dX10_odds_81 : decode cX10_odds 81 = .ok (.astore 7, 2) := by decide +kernel
theorem dX10_odds_83 : decode cX10_odds 83 = .ok (.aload_n 0, 1) := by decide +kernel
theorem dX10_odds_84 : decode cX10_odds 84 = .ok (.getfield 10, 3) := by decide +kernel
theorem dX10_odds_87 : decode cX10_odds 87 = .ok (.aload 7, 2) := by decide +kernel
theorem dX10_odds_89 : decode cX10_odds 89 = .ok (.iload 6, 2) := by decide +kernel
theorem dX10_odds_91 : decode cX10_odds 91 = .ok (.aload_n 0, 1) := by decide +kernel
theorem dX10_odds_92 : decode cX10_odds 92 = .ok (.getfield 10, 3) := by decide +kernel
theorem dX10_odds_95 : decode cX10_odds 95 = .ok (.getfield 67, 3) := by decide +kernel
theorem dX10_odds_98 : decode cX10_odds 98 = .ok (.getfield 117, 3) := by decide +kernel
theorem dX10_odds_101 : decode cX10_odds 101 = .ok (.iload_n 3, 1) := by decide +kernel
theorem dX10_odds_102 : decode cX10_odds 102 = .ok (.invokevirtual 277, 3) := by decide +kernel
theorem dX10_odds_105 : decode cX10_odds 105 = .ok (.iload 5, 2) := by decide +kernel
theorem dX10_odds_107 : decode cX10_odds 107 = .ok (.aload 7, 2) := by decide +kernel
theorem dX10_odds_109 : decode cX10_odds 109 = .ok (.getfield 166, 3) := by decide +kernel
theorem dX10_odds_112 : decode cX10_odds 112 = .ok (.iload_n 1, 1) := by decide +kernel
theorem dX10_odds_113 : decode cX10_odds 113 = .ok (.invokestatic 120, 3) := by decide +kernel
theorem dX10_odds_116 : decode cX10_odds 116 = .ok (.iadd, 1) := by decide +kernel
theorem dX10_odds_117 : decode cX10_odds 117 = .ok (.istore 5, 2) := by decide +kernel
theorem dX10_odds_119 : decode cX10_odds 119 = .ok (.iinc 6 1, 3) := by decide +kernel
theorem dX10_odds_122 : decode cX10_odds 122 = .ok (.goto (-56), 3) := by decide +kernel
theorem dX10_odds_125 : decode cX10_odds 125 = .ok (.iload 5, 2) := by decide +kernel
theorem dX10_odds_127 : decode cX10_odds 127 = .ok (.bipush 10, 2) := by decide +kernel
theorem dX10_odds_129 : decode cX10_odds 129 = .ok (.invokestatic 294, 3) := by decide +kernel
theorem dX10_odds_132 : decode cX10_odds 132 = .ok (.istore 6, 2) := by decide +kernel
theorem dX10_odds_134 : decode cX10_odds 134 = .ok (.iload 6, 2) := by decide +kernel
theorem dX10_odds_136 : decode cX10_odds 136 = .ok (.ifCond .gt 5, 3) := by decide +kernel
theorem dX10_odds_139 : decode cX10_odds 139 = .ok (.iconst 0, 1) := by decide +kernel
theorem dX10_odds_140 : decode cX10_odds 140 = .ok (.ireturn, 1) := by decide +kernel
theorem dX10_odds_141 : decode cX10_odds 141 = .ok (.iload 4, 2) := by decide +kernel
theorem dX10_odds_143 : decode cX10_odds 143 = .ok (.ifCond .ne 8, 3) := by decide +kernel
theorem dX10_odds_146 : decode cX10_odds 146 = .ok (.iload 5, 2) := by decide +kernel
theorem dX10_odds_148 : decode cX10_odds 148 = .ok (.goto 5, 3) := by decide +kernel
theorem dX10_odds_151 : decode cX10_odds 151 = .ok (.bipush 10, 2) := by decide +kernel
theorem dX10_odds_153 : decode cX10_odds 153 = .ok (.iload 6, 2) := by decide +kernel
theorem dX10_odds_155 : decode cX10_odds 155 = .ok (.idiv, 1) := by decide +kernel
theorem dX10_odds_156 : decode cX10_odds 156 = .ok (.ireturn, 1) := by decide +kernel
theorem dX10_seed_0 : decode cX10_seed 0 = .ok (.aload_n 0, 1) := by decide +kernel
theorem dX10_seed_1 : decode cX10_seed 1 = .ok (.getfield 10, 3) := by decide +kernel
theorem dX10_seed_4 : decode cX10_seed 4 = .ok (.getfield 297, 3) := by decide +kernel
theorem dX10_seed_7 : decode cX10_seed 7 = .ok (.istore_n 2, 1) := by decide +kernel
theorem dX10_seed_8 : decode cX10_seed 8 = .ok (.aload_n 0, 1) := by decide +kernel
theorem dX10_seed_9 : decode cX10_seed 9 = .ok (.getfield 10, 3) := by decide +kernel
theorem dX10_seed_12 : decode cX10_seed 12 = .ok (.iload_n 1, 1) := by decide +kernel
theorem dX10_seed_13 : decode cX10_seed 13 = .ok (.putfield 297, 3) := by decide +kernel
theorem dX10_seed_16 : decode cX10_seed 16 = .ok (.iload_n 2, 1) := by decide +kernel
theorem dX10_seed_17 : decode cX10_seed 17 = .ok (.ireturn, 1) := by decide +kernel
theorem dX10_voice_0 : decode cX10_voice 0 = .ok (.aload_n 0, 1) := by decide +kernel
theorem dX10_voice_1 : decode cX10_voice 1 = .ok (.getfield 10, 3) := by decide +kernel
theorem dX10_voice_4 : decode cX10_voice 4 = .ok (.getfield 77, 3) := by decide +kernel
theorem dX10_voice_7 : decode cX10_voice 7 = .ok (.iload_n 1, 1) := by decide +kernel
theorem dX10_voice_8 : decode cX10_voice 8 = .ok (.invokevirtual 137, 3) := by decide +kernel
theorem dX10_voice_11 : decode cX10_voice 11 = .ok (.ifCond .eq 12, 3) := by decide +kernel
theorem dX10_voice_14 : decode cX10_voice 14 = .ok (.iload_n 2, 1) := by decide +kernel
theorem dX10_voice_15 : decode cX10_voice 15 = .ok (.iconst 0, 1) := by decide +kernel
theorem dX10_voice_16 : decode cX10_voice 16 = .ok (.iconst 3, 1) := by decide +kernel
theorem dX10_voice_17 : decode cX10_voice 17 = .ok (.invokestatic 59, 3) := by decide +kernel
theorem dX10_voice_20 : decode cX10_voice 20 = .ok (.ifCond .ne 9, 3) := by decide +kernel
theorem dX10_voice_23 : decode cX10_voice 23 = .ok (.aload_n 0, 1) := by decide +kernel
theorem dX10_voice_24 : decode cX10_voice 24 = .ok (.iconst 1, 1) := by decide +kernel
theorem dX10_voice_25 : decode cX10_voice 25 = .ok (.invokevirtual 63, 3) := by decide +kernel
theorem dX10_voice_28 : decode cX10_voice 28 = .ok (.ireturn, 1) := by decide +kernel
theorem dX10_voice_29 : decode cX10_voice 29 = .ok (.aload_n 0, 1) := by decide +kernel
theorem dX10_voice_30 : decode cX10_voice 30 = .ok (.getfield 29, 3) := by decide +kernel
theorem dX10_voice_33 : decode cX10_voice 33 = .ok (.iload_n 1, 1) := by decide +kernel
theorem dX10_voice_34 : decode cX10_voice 34 = .ok (.aload_n 0, 1) := by decide +kernel
theorem dX10_voice_35 : decode cX10_voice 35 = .ok (.getfield 10, 3) := by decide +kernel
theorem dX10_voice_38 : decode cX10_voice 38 = .ok (.iload_n 1, 1) := by decide +kernel
theorem dX10_voice_39 : decode cX10_voice 39 = .ok (.invokevirtual 138, 3) := by decide +kernel
theorem dX10_voice_42 : decode cX10_voice 42 = .ok (.iload_n 2, 1) := by decide +kernel
theorem dX10_voice_43 : decode cX10_voice 43 = .ok (.iload_n 3, 1) := by decide +kernel
theorem dX10_voice_44 : decode cX10_voice 44 = .ok (.invokevirtual 300, 3) := by decide +kernel
theorem dX10_voice_47 : decode cX10_voice 47 = .ok (.ireturn, 1) := by decide +kernel
theorem dX10_trace_0 : decode cX10_trace 0 = .ok (.aload_n 0, 1) := by decide +kernel
theorem dX10_trace_1 : decode cX10_trace 1 = .ok (.getfield 29, 3) := by decide +kernel
theorem dX10_trace_4 : decode cX10_trace 4 = .ok (.getfield 304, 3) := by decide +kernel
theorem dX10_trace_7 : decode cX10_trace 7 = .ok (.iload_n 1, 1) := by decide +kernel
theorem dX10_trace_8 : decode cX10_trace 8 = .ok (.invokevirtual 307, 3) := by decide +kernel
theorem dX10_trace_11 : decode cX10_trace 11 = .ok (.ifCond .ne 9, 3) := by decide +kernel
theorem dX10_trace_14 : decode cX10_trace 14 = .ok (.aload_n 0, 1) := by decide +kernel
theorem dX10_trace_15 : decode cX10_trace 15 = .ok (.iconst 2, 1) := by decide +kernel
theorem dX10_trace_16 : decode cX10_trace 16 = .ok (.invokevirtual 63, 3) := by decide +kernel
theorem dX10_trace_19 : decode cX10_trace 19 = .ok (.ireturn, 1) := by decide +kernel
theorem dX10_trace_20 : decode cX10_trace 20 = .ok (.aload_n 0, 1) := by decide +kernel
theorem dX10_trace_21 : decode cX10_trace 21 = .ok (.getfield 29, 3) := by decide +kernel
theorem dX10_trace_24 : decode cX10_trace 24 = .ok (.getfield 304, 3) := by decide +kernel
theorem dX10_trace_27 : decode cX10_trace 27 = .ok (.iload_n 1, 1) := by decide +kernel
theorem dX10_trace_28 : decode cX10_trace 28 = .ok (.invokevirtual 108, 3) := by decide +kernel
theorem dX10_trace_31 : decode cX10_trace 31 = .ok (.ireturn, 1) := by decide +kernel
theorem dX10_sheet_0 : decode cX10_sheet 0 = .ok (.aload_n 0, 1) := by decide +kernel
theorem dX10_sheet_1 : decode cX10_sheet 1 = .ok (.iload_n 1, 1) := by decide +kernel
theorem dX10_sheet_2 : decode cX10_sheet 2 = .ok (.invokevirtual 284, 3) := by decide +kernel
theorem dX10_sheet_5 : decode cX10_sheet 5 = .ok (.astore 4, 2) := by decide +kernel
theorem dX10_sheet_7 : decode cX10_sheet 7 = .ok (.aload 4, 2) := by decide +kernel
theorem dX10_sheet_9 : decode cX10_sheet 9 = .ok (.ifnull 25, 3) := by decide +kernel
theorem dX10_sheet_12 : decode cX10_sheet 12 = .ok (.iload_n 2, 1) := by decide +kernel
theorem dX10_sheet_13 : decode cX10_sheet 13 = .ok (.ifCond .eq 27, 3) := by decide +kernel
theorem dX10_sheet_16 : decode cX10_sheet 16 = .ok (.iload_n 2, 1) := by decide +kernel
theorem dX10_sheet_17 : decode cX10_sheet 17 = .ok (.bipush 8, 2) := by decide +kernel
theorem dX10_sheet_19 : decode cX10_sheet 19 = .ok (.if_icmp .eq 21, 3) := by decide +kernel
theorem dX10_sheet_22 : decode cX10_sheet 22 = .ok (.iload_n 2, 1) := by decide +kernel
theorem dX10_sheet_23 : decode cX10_sheet 23 = .ok (.bipush 16, 2) := by decide +kernel
theorem dX10_sheet_25 : decode cX10_sheet 25 = .ok (.if_icmp .eq 15, 3) := by decide +kernel
theorem dX10_sheet_28 : decode cX10_sheet 28 = .ok (.iload_n 2, 1) := by decide +kernel
theorem dX10_sheet_29 : decode cX10_sheet 29 = .ok (.bipush 32, 2) := by decide +kernel
theorem dX10_sheet_31 : decode cX10_sheet 31 = .ok (.if_icmp .eq 9, 3) := by decide +kernel
theorem dX10_sheet_34 : decode cX10_sheet 34 = .ok (.aload_n 0, 1) := by decide +kernel
theorem dX10_sheet_35 : decode cX10_sheet 35 = .ok (.iconst 1, 1) := by decide +kernel
theorem dX10_sheet_36 : decode cX10_sheet 36 = .ok (.invokevirtual 63, 3) := by decide +kernel
theorem dX10_sheet_39 : decode cX10_sheet 39 = .ok (.ireturn, 1) := by decide +kernel
theorem dX10_sheet_40 : decode cX10_sheet 40 = .ok (.iload_n 2, 1) := by decide +kernel
theorem dX10_sheet_41 : decode cX10_sheet 41 = .ok (.ifCond .eq 13, 3) := by decide +kernel
theorem dX10_sheet_44 : decode cX10_sheet 44 = .ok (.iload_n 3, 1) := by decide +kernel
theorem dX10_sheet_45 : decode cX10_sheet 45 = .ok (.ifCond .ge 9, 3) := by decide +kernel
theorem dX10_sheet_48 : decode cX10_sheet 48 = .ok (.aload_n 0, 1) := by decide +kernel
theorem dX10_sheet_49 : decode cX10_sheet 49 = .ok (.iconst 3, 1) := by decide +kernel
theorem dX10_sheet_50 : decode cX10_sheet 50 = .ok (.invokevirtual 63, 3) := by decide +kernel
theorem dX10_sheet_53 : decode cX10_sheet 53 = .ok (.ireturn, 1) := by decide +kernel
theorem dX10_sheet_54 : decode cX10_sheet 54 = .ok (.iload_n 2, 1) := by decide +kernel
theorem dX10_sheet_55 : decode cX10_sheet 55 = .ok (.ifCond .eq 15, 3) := by decide +kernel
theorem dX10_sheet_58 : decode cX10_sheet 58 = .ok (.iload_n 3, 1) := by decide +kernel
theorem dX10_sheet_59 : decode cX10_sheet 59 = .ok (.bipush 40, 2) := by decide +kernel
theorem dX10_sheet_61 : decode cX10_sheet 61 = .ok (.if_icmp .le 9, 3) := by decide +kernel
theorem dX10_sheet_64 : decode cX10_sheet 64 = .ok (.aload_n 0, 1) := by decide +kernel
theorem dX10_sheet_65 : decode cX10_sheet 65 = .ok (.iconst 1, 1) := by decide +kernel
theorem dX10_sheet_66 : decode cX10_sheet 66 = .ok (.invokevirtual 63, 3) := by decide +kernel
theorem dX10_sheet_69 : decode cX10_sheet 69 = .ok (.ireturn, 1) := by decide +kernel
theorem dX10_sheet_70 : decode cX10_sheet 70 = .ok (.aload 4, 2) := by decide +kernel
theorem dX10_sheet_72 : decode cX10_sheet 72 = .ok (.iload_n 2, 1) := by decide +kernel
theorem dX10_sheet_73 : decode cX10_sheet 73 = .ok (.putfield 308, 3) := by decide +kernel
theorem dX10_sheet_76 : decode cX10_sheet 76 = .ok (.aload 4, 2) := by decide +kernel
theorem dX10_sheet_78 : decode cX10_sheet 78 = .ok (.getfield 311, 3) := by decide +kernel
theorem dX10_sheet_81 : decode cX10_sheet 81 = .ok (.iload_n 2, 1) := by decide +kernel
theorem dX10_sheet_82 : decode cX10_sheet 82 = .ok (.ifCond .ne 7, 3) := by decide +kernel
theorem dX10_sheet_85 : decode cX10_sheet 85 = .ok (.iconst 0, 1) := by decide +kernel
theorem dX10_sheet_86 : decode cX10_sheet 86 = .ok (.goto 4, 3) := by decide +kernel
theorem dX10_sheet_89 : decode cX10_sheet 89 = .ok (.iload_n 3, 1) := by decide +kernel
theorem dX10_sheet_90 : decode cX10_sheet 90 = .ok (.invokevirtual 56, 3) := by decide +kernel
theorem dX10_sheet_93 : decode cX10_sheet 93 = .ok (.iconst 1, 1) := by decide +kernel
theorem dX10_sheet_94 : decode cX10_sheet 94 = .ok (.ireturn, 1) := by decide +kernel
theorem dX10_put_0 : decode cX10_put 0 = .ok (.aload_n 0, 1) := by decide +kernel
theorem dX10_put_1 : decode cX10_put 1 = .ok (.iload_n 1, 1) := by decide +kernel
theorem dX10_put_2 : decode cX10_put 2 = .ok (.invokevirtual 284, 3) := by decide +kernel
theorem dX10_put_5 : decode cX10_put 5 = .ok (.astore 4, 2) := by decide +kernel
theorem dX10_put_7 : decode cX10_put 7 = .ok (.aload 4, 2) := by decide +kernel
theorem dX10_put_9 : decode cX10_put 9 = .ok (.ifnonnull 9, 3) := by decide +kernel
theorem dX10_put_12 : decode cX10_put 12 = .ok (.aload_n 0, 1) := by decide +kernel
theorem dX10_put_13 : decode cX10_put 13 = .ok (.iconst 1, 1) := by decide +kernel
theorem dX10_put_14 : decode cX10_put 14 = .ok (.invokevirtual 63, 3) := by decide +kernel
theorem dX10_put_17 : decode cX10_put 17 = .ok (.ireturn, 1) := by decide +kernel
theorem dX10_put_18 : decode cX10_put 18 = .ok (.aload 4, 2) := by decide +kernel
theorem dX10_put_20 : decode cX10_put 20 = .ok (.invokevirtual 314, 3) := by decide +kernel
theorem dX10_put_23 : decode cX10_put 23 = .ok (.ifCond .eq 9, 3) := by decide +kernel
theorem dX10_put_26 : decode cX10_put 26 = .ok (.aload_n 0, 1) := by decide +kernel
theorem dX10_put_27 : decode cX10_put 27 = .ok (.iconst 2, 1) := by decide +kernel
theorem dX10_put_28 : decode cX10_put 28 = .ok (.invokevirtual 63, 3) := by decide +kernel
theorem dX10_put_31 : decode cX10_put 31 = .ok (.ireturn, 1) := by decide +kernel
theorem dX10_put_32 : decode cX10_put 32 = .ok (.aload 4, 2) := by decide +kernel
theorem dX10_put_34 : decode cX10_put 34 = .ok (.getfield 311, 3) := by decide +kernel
theorem dX10_put_37 : decode cX10_put 37 = .ok (.iload_n 2, 1) := by decide +kernel
theorem dX10_put_38 : decode cX10_put 38 = .ok (.invokevirtual 307, 3) := by decide +kernel
theorem dX10_put_41 : decode cX10_put 41 = .ok (.ifCond .ne 9, 3) := by decide +kernel
theorem dX10_put_44 : decode cX10_put 44 = .ok (.aload_n 0, 1) := by decide +kernel
theorem dX10_put_45 : decode cX10_put 45 = .ok (.iconst 1, 1) := by decide +kernel
theorem dX10_put_46 : decode cX10_put 46 = .ok (.invokevirtual 63, 3) := by decide +kernel
theorem dX10_put_49 : decode cX10_put 49 = .ok (.ireturn, 1) := by decide +kernel
theorem dX10_put_50 : decode cX10_put 50 = .ok (.aload 4, 2) := by decide +kernel
theorem dX10_put_52 : decode cX10_put 52 = .ok (.getfield 311, 3) := by decide +kernel
theorem dX10_put_55 : decode cX10_put 55 = .ok (.iload_n 2, 1) := by decide +kernel
theorem dX10_put_56 : decode cX10_put 56 = .ok (.aload 4, 2) := by decide +kernel
theorem dX10_put_58 : decode cX10_put 58 = .ok (.iload_n 3, 1) := by decide +kernel
theorem dX10_put_59 : decode cX10_put 59 = .ok (.invokevirtual 318, 3) := by decide +kernel
theorem dX10_put_62 : decode cX10_put 62 = .ok (.invokevirtual 175, 3) := by decide +kernel
theorem dX10_put_65 : decode cX10_put 65 = .ok (.iconst 1, 1) := by decide +kernel
theorem dX10_put_66 : decode cX10_put 66 = .ok (.ireturn, 1) := by decide +kernel
theorem dX10_move_0 : decode cX10_move 0 = .ok (.aload_n 0, 1) := by decide +kernel
theorem dX10_move_1 : decode cX10_move 1 = .ok (.iload_n 1, 1) := by decide +kernel
theorem dX10_move_2 : decode cX10_move 2 = .ok (.invokevirtual 284, 3) := by decide +kernel
theorem dX10_move_5 : decode cX10_move 5 = .ok (.astore 6, 2) := by decide +kernel
theorem dX10_move_7 : decode cX10_move 7 = .ok (.aload_n 0, 1) := by decide +kernel
theorem dX10_move_8 : decode cX10_move 8 = .ok (.iload_n 3, 1) := by decide +kernel
theorem dX10_move_9 : decode cX10_move 9 = .ok (.invokevirtual 284, 3) := by decide +kernel
theorem dX10_move_12 : decode cX10_move 12 = .ok (.astore 7, 2) := by decide +kernel
theorem dX10_move_14 : decode cX10_move 14 = .ok (.aload 6, 2) := by decide +kernel
theorem dX10_move_16 : decode cX10_move 16 = .ok (.ifnull 8, 3) := by decide +kernel
theorem dX10_move_19 : decode cX10_move 19 = .ok (.aload 7, 2) := by decide +kernel
theorem dX10_move_21 : decode cX10_move 21 = .ok (.ifnonnull 9, 3) := by decide +kernel
theorem dX10_move_24 : decode cX10_move 24 = .ok (.aload_n 0, 1) := by decide +kernel
theorem dX10_move_25 : decode cX10_move 25 = .ok (.iconst 1, 1) := by decide +kernel
theorem dX10_move_26 : decode cX10_move 26 = .ok (.invokevirtual 63, 3) := by decide +kernel
theorem dX10_move_29 : decode cX10_move 29 = .ok (.ireturn, 1) := by decide +kernel
theorem dX10_move_30 : decode cX10_move 30 = .ok (.aload 6, 2) := by decide +kernel
theorem dX10_move_32 : decode cX10_move 32 = .ok (.invokevirtual 314, 3) := by decide +kernel
theorem dX10_move_35 : decode cX10_move 35 = .ok (.ifCond .ne 11, 3) := by decide +kernel
theorem dX10_move_38 : decode cX10_move 38 = .ok (.aload 7, 2) := by decide +kernel
theorem dX10_move_40 : decode cX10_move 40 = .ok (.invokevirtual 314, 3) := by decide +kernel
theorem dX10_move_43 : decode cX10_move 43 = .ok (.ifCond .eq 9, 3) := by decide +kernel
theorem dX10_move_46 : decode cX10_move 46 = .ok (.aload_n 0, 1) := by decide +kernel
theorem dX10_move_47 : decode cX10_move 47 = .ok (.iconst 2, 1) := by decide +kernel
theorem dX10_move_48 : decode cX10_move 48 = .ok (.invokevirtual 63, 3) := by decide +kernel
theorem dX10_move_51 : decode cX10_move 51 = .ok (.ireturn, 1) := by decide +kernel
theorem dX10_move_52 : decode cX10_move 52 = .ok (.aload 6, 2) := by decide +kernel
theorem dX10_move_54 : decode cX10_move 54 = .ok (.getfield 308, 3) := by decide +kernel
theorem dX10_move_57 : decode cX10_move 57 = .ok (.aload 7, 2) := by decide +kernel
theorem dX10_move_59 : decode cX10_move 59 = .ok (.getfield 308, 3) := by decide +kernel
theorem dX10_move_62 : decode cX10_move 62 = .ok (.if_icmp .eq 9, 3) := by decide +kernel
theorem dX10_move_65 : decode cX10_move 65 = .ok (.aload_n 0, 1) := by decide +kernel
theorem dX10_move_66 : decode cX10_move 66 = .ok (.iconst 5, 1) := by decide +kernel
theorem dX10_move_67 : decode cX10_move 67 = .ok (.invokevirtual 63, 3) := by decide +kernel
theorem dX10_move_70 : decode cX10_move 70 = .ok (.ireturn, 1) := by decide +kernel
theorem dX10_move_71 : decode cX10_move 71 = .ok (.aload 6, 2) := by decide +kernel
theorem dX10_move_73 : decode cX10_move 73 = .ok (.getfield 311, 3) := by decide +kernel
theorem dX10_move_76 : decode cX10_move 76 = .ok (.iload_n 2, 1) := by decide +kernel
theorem dX10_move_77 : decode cX10_move 77 = .ok (.iload 5, 2) := by decide +kernel
theorem dX10_move_79 : decode cX10_move 79 = .ok (.invokevirtual 321, 3) := by decide +kernel
theorem dX10_move_82 : decode cX10_move 82 = .ok (.ifCond .eq 18, 3) := by decide +kernel
theorem dX10_move_85 : decode cX10_move 85 = .ok (.aload 7, 2) := by decide +kernel
theorem dX10_move_87 : decode cX10_move 87 = .ok (.getfield 311, 3) := by decide +kernel
theorem dX10_move_90 : decode cX10_move 90 = .ok (.iload 4, 2) := by decide +kernel
theorem dX10_move_92 : decode cX10_move 92 = .ok (.iload 5, 2) := by decide +kernel
theorem dX10_move_94 : decode cX10_move 94 = .ok (.invokevirtual 321, 3) := by decide +kernel
theorem dX10_move_97 : decode cX10_move 97 = .ok (.ifCond .ne 9, 3) := by decide +kernel
theorem dX10_move_100 : decode cX10_move 100 = .ok (.aload_n 0, 1) := by decide +kernel
theorem dX10_move_101 : decode cX10_move 101 = .ok (.iconst 1, 1) := by decide +kernel
theorem dX10_move_102 : decode cX10_move 102 = .ok (.invokevirtual 63, 3) := by decide +kernel
theorem dX10_move_105 : decode cX10_move 105 = .ok (.ireturn, 1) := by decide +kernel
theorem dX10_move_106 : decode cX10_move 106 = .ok (.aload_n 0, 1) := by decide +kernel
theorem dX10_move_107 : decode cX10_move 107 = .ok (.getfield 44, 3) := by decide +kernel
theorem dX10_move_110 : decode cX10_move 110 = .ok (.aload 6, 2) := by decide +kernel
theorem dX10_move_112 : decode cX10_move 112 = .ok (.getfield 311, 3) := by decide +kernel
theorem dX10_move_115 : decode cX10_move 115 = .ok (.invokevirtual 235, 3) := by decide +kernel
theorem dX10_move_118 : decode cX10_move 118 = .ok (.iconst 0, 1) := by decide +kernel
theorem dX10_move_119 : decode cX10_move 119 = .ok (.istore 8, 2) := by decide +kernel
theorem dX10_move_121 : decode cX10_move 121 = .ok (.iload 8, 2) := by decide +kernel
theorem dX10_move_123 : decode cX10_move 123 = .ok (.iload 5, 2) := by decide +kernel
theorem dX10_move_125 : decode cX10_move 125 = .ok (.if_icmp .ge 33, 3) := by decide +kernel
theorem dX10_move_128 : decode cX10_move 128 = .ok (.aload 7, 2) := by decide +kernel
theorem dX10_move_130 : decode cX10_move 130 = .ok (.getfield 311, 3) := by decide +kernel
theorem dX10_move_133 : decode cX10_move 133 = .ok (.iload 4, 2) := by decide +kernel
theorem dX10_move_135 : decode cX10_move 135 = .ok (.iload 8, 2) := by decide +kernel
theorem dX10_move_137 : decode cX10_move 137 = .ok (.iadd, 1) := by decide +kernel
theorem dX10_move_138 : decode cX10_move 138 = .ok (.aload_n 0, 1) := by decide +kernel
theorem dX10_move_139 : decode cX10_move 139 = .ok (.getfield 44, 3) := by decide +kernel
theorem dX10_move_142 : decode cX10_move 142 = .ok (.iload_n 2, 1) := by decide +kernel
theorem dX10_move_143 : decode cX10_move 143 = .ok (.iload 8, 2) := by decide +kernel
theorem dX10_move_145 : decode cX10_move 145 = .ok (.iadd, 1) := by decide +kernel
theorem dX10_move_146 : decode cX10_move 146 = .ok (.invokevirtual 108, 3) := by decide +kernel
theorem dX10_move_149 : decode cX10_move 149 = .ok (.invokevirtual 175, 3) := by decide +kernel
theorem dX10_move_152 : decode cX10_move 152 = .ok (.iinc 8 1, 3) := by decide +kernel
theorem dX10_move_155 : decode cX10_move 155 = .ok (.goto (-34), 3) := by decide +kernel
theorem dX10_move_158 : decode cX10_move 158 = .ok (.iload 5, 2) := by decide +kernel
theorem dX10_move_160 : decode cX10_move 160 = .ok (.ireturn, 1) := by decide +kernel
theorem dX10_palates_0 : decode cX10_palates 0 = .ok (.aload_n 0, 1) := by decide +kernel
theorem dX10_palates_1 : decode cX10_palates 1 = .ok (.iload_n 1, 1) := by decide +kernel
theorem dX10_palates_2 : decode cX10_palates 2 = .ok (.invokevirtual 284, 3) := by decide +kernel
theorem dX10_palates_5 : decode cX10_palates 5 = .ok (.astore_n 2, 1) := by decide +kernel
theorem dX10_palates_6 : decode cX10_palates 6 = .ok (.aload_n 2, 1) := by decide +kernel
theorem dX10_palates_7 : decode cX10_palates 7 = .ok (.ifnonnull 9, 3) := by decide +kernel
theorem dX10_palates_10 : decode cX10_palates 10 = .ok (.aload_n 0, 1) := by decide +kernel
theorem dX10_palates_11 : decode cX10_palates 11 = .ok (.iconst 1, 1) := by decide +kernel
theorem dX10_palates_12 : decode cX10_palates 12 = .ok (.invokevirtual 63, 3) := by decide +kernel
theorem dX10_palates_15 : decode cX10_palates 15 = .ok (.ireturn, 1) := by decide +kernel
theorem dX10_palates_16 : decode cX10_palates 16 = .ok (.aload_n 2, 1) := by decide +kernel
theorem dX10_palates_17 : decode cX10_palates 17 = .ok (.invokevirtual 314, 3) := by decide +kernel
theorem dX10_palates_20 : decode cX10_palates 20 = .ok (.ifCond .eq 9, 3) := by decide +kernel
theorem dX10_palates_23 : decode cX10_palates 23 = .ok (.aload_n 0, 1) := by decide +kernel
theorem dX10_palates_24 : decode cX10_palates 24 = .ok (.iconst 2, 1) := by decide +kernel
theorem dX10_palates_25 : decode cX10_palates 25 = .ok (.invokevirtual 63, 3) := by decide +kernel
theorem dX10_palates_28 : decode cX10_palates 28 = .ok (.ireturn, 1) := by decide +kernel
theorem dX10_palates_29 : decode cX10_palates 29 = .ok (.aload_n 2, 1) := by decide +kernel
theorem dX10_palates_30 : decode cX10_palates 30 = .ok (.getfield 311, 3) := by decide +kernel
theorem dX10_palates_33 : decode cX10_palates 33 = .ok (.invokevirtual 211, 3) := by decide +kernel
theorem dX10_palates_36 : decode cX10_palates 36 = .ok (.aload_n 0, 1) := by decide +kernel
theorem dX10_palates_37 : decode cX10_palates 37 = .ok (.getfield 10, 3) := by decide +kernel
theorem dX10_palates_40 : decode cX10_palates 40 = .ok (.getfield 84, 3) := by decide +kernel
theorem dX10_palates_43 : decode cX10_palates 43 = .ok (.invokevirtual 88, 3) := by decide +kernel
theorem dX10_palates_46 : decode cX10_palates 46 = .ok (.invokestatic 324, 3) := by decide +kernel
theorem dX10_palates_49 : decode cX10_palates 49 = .ok (.istore_n 3, 1) := by decide +kernel
theorem dX10_palates_50 : decode cX10_palates 50 = .ok (.iconst 0, 1) := by decide +kernel
theorem dX10_palates_51 : decode cX10_palates 51 = .ok (.istore 4, 2) := by decide +kernel
theorem dX10_palates_53 : decode cX10_palates 53 = .ok (.iload 4, 2) := by decide +kernel
theorem dX10_palates_55 : decode cX10_palates 55 = .ok (.iload_n 3, 1) := by decide +kernel
theorem dX10_palates_56 : decode cX10_palates 56 = .ok (.if_icmp .ge 51, 3) := by decide +kernel
theorem dX10_palates_59 : decode cX10_palates 59 = .ok (.aload_n 2, 1) := by decide +kernel
theorem dX10_palates_60 : decode cX10_palates 60 = .ok (.getfield 311, 3) := by decide +kernel
theorem dX10_palates_63 : decode cX10_palates 63 = .ok (.iload 4, 2) := by decide +kernel
theorem dX10_palates_65 : decode cX10_palates 65 = .ok (.invokevirtual 108, 3) := by decide +kernel
theorem dX10_palates_68 : decode cX10_palates 68 = .ok (.istore 5, 2) := by decide +kernel
theorem dX10_palates_70 : decode cX10_palates 70 = .ok (.iload 5, 2) := by decide +kernel
theorem dX10_palates_72 : decode cX10_palates 72 = .ok (.iconst 0, 1) := by decide +kernel
theorem dX10_palates_73 : decode cX10_palates 73 = .ok (.bipush 99, 2) := by decide +kernel
theorem dX10_palates_75 : decode cX10_palates 75 = .ok (.invokestatic 59, 3) := by decide +kernel
theorem dX10_palates_78 : decode cX10_palates 78 = .ok (.ifCond .ne 6, 3) := by decide +kernel
theorem dX10_palates_81 : decode cX10_palates 81 = .ok (.iload 4, 2) := by decide +kernel
theorem dX10_palates_83 : decode cX10_palates 83 = .ok (.ireturn, 1) := by decide +kernel
theorem dX10_palates_84 : decode cX10_palates 84 = .ok (.aload_n 0, 1) := by decide +kernel
theorem dX10_palates_85 : decode cX10_palates 85 = .ok (.getfield 10, 3) := by decide +kernel
theorem dX10_palates_88 : decode cX10_palates 88 = .ok (.getfield 84, 3) := by decide +kernel
theorem dX10_palates_91 : decode cX10_palates 91 = .ok (.getfield 202, 3) := by decide +kernel
theorem dX10_palates_94 : decode cX10_palates 94 = .ok (.iload 4, 2) := by decide +kernel
theorem dX10_palates_96 : decode cX10_palates 96 = .ok (.iload 5, 2) := by decide +kernel
theorem dX10_palates_98 : decode cX10_palates 98 = .ok (.invokevirtual 175, 3) := by decide +kernel
theorem dX10_palates_101 : decode cX10_palates 101 = .ok (.iinc 4 1, 3) := by decide +kernel
theorem dX10_palates_104 : decode cX10_palates 104 = .ok (.goto (-51), 3) := by decide +kernel
theorem dX10_palates_107 : decode cX10_palates 107 = .ok (.iload_n 3, 1) := by decide +kernel
theorem dX10_palates_108 : decode cX10_palates 108 = .ok (.ireturn, 1) := by decide +kernel
theorem dX10_judge_0 : decode cX10_judge 0 = .ok (.aload_n 0, 1) := by decide +kernel
theorem dX10_judge_1 : decode cX10_judge 1 = .ok (.iload_n 1, 1) := by decide +kernel
theorem dX10_judge_2 : decode cX10_judge 2 = .ok (.invokevirtual 284, 3) := by decide +kernel
theorem dX10_judge_5 : decode cX10_judge 5 = .ok (.astore_n 2, 1) := by decide +kernel
theorem dX10_judge_6 : decode cX10_judge 6 = .ok (.aload_n 2, 1) := by decide +kernel
theorem dX10_judge_7 : decode cX10_judge 7 = .ok (.ifnonnull 9, 3) := by decide +kernel
theorem dX10_judge_10 : decode cX10_judge 10 = .ok (.aload_n 0, 1) := by decide +kernel
theorem dX10_judge_11 : decode cX10_judge 11 = .ok (.iconst 1, 1) := by decide +kernel
theorem dX10_judge_12 : decode cX10_judge 12 = .ok (.invokevirtual 63, 3) := by decide +kernel
theorem dX10_judge_15 : decode cX10_judge 15 = .ok (.ireturn, 1) := by decide +kernel
theorem dX10_judge_16 : decode cX10_judge 16 = .ok (.aload_n 2, 1) := by decide +kernel
theorem dX10_judge_17 : decode cX10_judge 17 = .ok (.invokevirtual 314, 3) := by decide +kernel
theorem dX10_judge_20 : decode cX10_judge 20 = .ok (.ifCond .eq 9, 3) := by decide +kernel
theorem dX10_judge_23 : decode cX10_judge 23 = .ok (.aload_n 0, 1) := by decide +kernel
theorem dX10_judge_24 : decode cX10_judge 24 = .ok (.iconst 2, 1) := by decide +kernel
theorem dX10_judge_25 : decode cX10_judge 25 = .ok (.invokevirtual 63, 3) := by decide +kernel
theorem dX10_judge_28 : decode cX10_judge 28 = .ok (.ireturn, 1) := by decide +kernel
theorem dX10_judge_29 : decode cX10_judge 29 = .ok (.aload_n 2, 1) := by decide +kernel
theorem dX10_judge_30 : decode cX10_judge 30 = .ok (.getfield 311, 3) := by decide +kernel
theorem dX10_judge_33 : decode cX10_judge 33 = .ok (.invokevirtual 211, 3) := by decide +kernel
theorem dX10_judge_36 : decode cX10_judge 36 = .ok (.aload_n 0, 1) := by decide +kernel
theorem dX10_judge_37 : decode cX10_judge 37 = .ok (.getfield 10, 3) := by decide +kernel
theorem dX10_judge_40 : decode cX10_judge 40 = .ok (.getfield 77, 3) := by decide +kernel
theorem dX10_judge_43 : decode cX10_judge 43 = .ok (.invokevirtual 81, 3) := by decide +kernel
theorem dX10_judge_46 : decode cX10_judge 46 = .ok (.invokestatic 324, 3) := by decide +kernel
theorem dX10_judge_49 : decode cX10_judge 49 = .ok (.istore_n 3, 1) := by decide +kernel
theorem dX10_judge_50 : decode cX10_judge 50 = .ok (.iconst 0, 1) := by decide +kernel
theorem dX10_judge_51 : decode cX10_judge 51 = .ok (.istore 4, 2) := by decide +kernel
theorem dX10_judge_53 : decode cX10_judge 53 = .ok (.iload 4, 2) := by decide +kernel
theorem dX10_judge_55 : decode cX10_judge 55 = .ok (.iload_n 3, 1) := by decide +kernel
theorem dX10_judge_56 : decode cX10_judge 56 = .ok (.if_icmp .ge 39, 3) := by decide +kernel
theorem dX10_judge_59 : decode cX10_judge 59 = .ok (.aload_n 2, 1) := by decide +kernel
theorem dX10_judge_60 : decode cX10_judge 60 = .ok (.getfield 311, 3) := by decide +kernel
theorem dX10_judge_63 : decode cX10_judge 63 = .ok (.iload 4, 2) := by decide +kernel
theorem dX10_judge_65 : decode cX10_judge 65 = .ok (.invokevirtual 108, 3) := by decide +kernel
theorem dX10_judge_68 : decode cX10_judge 68 = .ok (.aload_n 0, 1) := by decide +kernel
theorem dX10_judge_69 : decode cX10_judge 69 = .ok (.getfield 10, 3) := by decide +kernel
theorem dX10_judge_72 : decode cX10_judge 72 = .ok (.getfield 77, 3) := by decide +kernel
theorem dX10_judge_75 : decode cX10_judge 75 = .ok (.getfield 172, 3) := by decide +kernel
theorem dX10_judge_78 : decode cX10_judge 78 = .ok (.iload 4, 2) := by decide +kernel
theorem dX10_judge_80 : decode cX10_judge 80 = .ok (.invokevirtual 108, 3) := by decide +kernel
theorem dX10_judge_83 : decode cX10_judge 83 = .ok (.if_icmp .eq 6, 3) := by decide +kernel
theorem dX10_judge_86 : decode cX10_judge 86 = .ok (.iload 4, 2) := by decide +kernel
theorem dX10_judge_88 : decode cX10_judge 88 = .ok (.ireturn, 1) := by decide +kernel
theorem dX10_judge_89 : decode cX10_judge 89 = .ok (.iinc 4 1, 3) := by decide +kernel
theorem dX10_judge_92 : decode cX10_judge 92 = .ok (.goto (-39), 3) := by decide +kernel
theorem dX10_judge_95 : decode cX10_judge 95 = .ok (.aload_n 2, 1) := by decide +kernel
theorem dX10_judge_96 : decode cX10_judge 96 = .ok (.getfield 311, 3) := by decide +kernel
theorem dX10_judge_99 : decode cX10_judge 99 = .ok (.invokevirtual 211, 3) := by decide +kernel
theorem dX10_judge_102 : decode cX10_judge 102 = .ok (.aload_n 0, 1) := by decide +kernel
theorem dX10_judge_103 : decode cX10_judge 103 = .ok (.getfield 10, 3) := by decide +kernel
theorem dX10_judge_106 : decode cX10_judge 106 = .ok (.getfield 77, 3) := by decide +kernel
theorem dX10_judge_109 : decode cX10_judge 109 = .ok (.invokevirtual 81, 3) := by decide +kernel
theorem dX10_judge_112 : decode cX10_judge 112 = .ok (.if_icmp .ne 7, 3) := by decide +kernel
theorem dX10_judge_115 : decode cX10_judge 115 = .ok (.iconst (-1), 1) := by decide +kernel
theorem dX10_judge_116 : decode cX10_judge 116 = .ok (.goto 4, 3) := by decide +kernel
theorem dX10_judge_119 : decode cX10_judge 119 = .ok (.iload_n 3, 1) := by decide +kernel
theorem dX10_judge_120 : decode cX10_judge 120 = .ok (.ireturn, 1) := by decide +kernel
theorem dX10_image_0 : decode cX10_image 0 = .ok (.aload_n 0, 1) := by decide +kernel
theorem dX10_image_1 : decode cX10_image 1 = .ok (.getfield 16, 3) := by decide +kernel
theorem dX10_image_4 : decode cX10_image 4 = .ok (.aload_n 0, 1) := by decide +kernel
theorem dX10_image_5 : decode cX10_image 5 = .ok (.getfield 10, 3) := by decide +kernel
theorem dX10_image_8 : decode cX10_image 8 = .ok (.invokevirtual 329, 3) := by decide +kernel
theorem dX10_image_11 : decode cX10_image 11 = .ok (.aload_n 0, 1) := by decide +kernel
theorem dX10_image_12 : decode cX10_image 12 = .ok (.dup, 1) := by decide +kernel
theorem dX10_image_13 : decode cX10_image 13 = .ok (.getfield 51, 3) := by decide +kernel
theorem dX10_image_16 : decode cX10_image 16 = .ok (.iconst 1, 1) := by decide +kernel
theorem dX10_image_17 : decode cX10_image 17 = .ok (.iadd, 1) := by decide +kernel
theorem dX10_image_18 : decode cX10_image 18 = .ok (.putfield 51, 3) := by decide +kernel
theorem dX10_image_21 : decode cX10_image 21 = .ok (.aload_n 0, 1) := by decide +kernel
theorem dX10_image_22 : decode cX10_image 22 = .ok (.getfield 51, 3) := by decide +kernel
theorem dX10_image_25 : decode cX10_image 25 = .ok (.ireturn, 1) := by decide +kernel
theorem dX10_restore_0 : decode cX10_restore 0 = .ok (.aload_n 0, 1) := by decide +kernel
theorem dX10_restore_1 : decode cX10_restore 1 = .ok (.getfield 51, 3) := by decide +kernel
theorem dX10_restore_4 : decode cX10_restore 4 = .ok (.ifCond .ne 9, 3) := by decide +kernel
theorem dX10_restore_7 : decode cX10_restore 7 = .ok (.aload_n 0, 1) := by decide +kernel
theorem dX10_restore_8 : decode cX10_restore 8 = .ok (.iconst 2, 1) := by decide +kernel
theorem dX10_restore_9 : decode cX10_restore 9 = .ok (.invokevirtual 63, 3) := by decide +kernel
theorem dX10_restore_12 : decode cX10_restore 12 = .ok (.ireturn, 1) := by decide +kernel
theorem dX10_restore_13 : decode cX10_restore 13 = .ok (.aload_n 0, 1) := by decide +kernel
theorem dX10_restore_14 : decode cX10_restore 14 = .ok (.getfield 10, 3) := by decide +kernel
theorem dX10_restore_17 : decode cX10_restore 17 = .ok (.aload_n 0, 1) := by decide +kernel
theorem dX10_restore_18 : decode cX10_restore 18 = .ok (.getfield 16, 3) := by decide +kernel
theorem dX10_restore_21 : decode cX10_restore 21 = .ok (.invokevirtual 329, 3) := by decide +kernel
theorem dX10_restore_24 : decode cX10_restore 24 = .ok (.aload_n 0, 1) := by decide +kernel
theorem dX10_restore_25 : decode cX10_restore 25 = .ok (.getfield 10, 3) := by decide +kernel
theorem dX10_restore_28 : decode cX10_restore 28 = .ok (.getfield 243, 3) := by decide +kernel
theorem dX10_restore_31 : decode cX10_restore 31 = .ok (.ireturn, 1) := by decide +kernel
theorem dX10_tell_0 : decode cX10_tell 0 = .ok (.aload_n 0, 1) := by decide +kernel
theorem dX10_tell_1 : decode cX10_tell 1 = .ok (.getfield 10, 3) := by decide +kernel
theorem dX10_tell_4 : decode cX10_tell 4 = .ok (.getfield 332, 3) := by decide +kernel
theorem dX10_tell_7 : decode cX10_tell 7 = .ok (.invokevirtual 211, 3) := by decide +kernel
theorem dX10_tell_10 : decode cX10_tell 10 = .ok (.bipush 20, 2) := by decide +kernel
theorem dX10_tell_12 : decode cX10_tell 12 = .ok (.if_icmp .lt 9, 3) := by decide +kernel
theorem dX10_tell_15 : decode cX10_tell 15 = .ok (.aload_n 0, 1) := by decide +kernel
theorem dX10_tell_16 : decode cX10_tell 16 = .ok (.iconst 4, 1) := by decide +kernel
theorem dX10_tell_17 : decode cX10_tell 17 = .ok (.invokevirtual 63, 3) := by decide +kernel
theorem dX10_tell_20 : decode cX10_tell 20 = .ok (.ireturn, 1) := by decide +kernel
theorem dX10_tell_21 : decode cX10_tell 21 = .ok (.aload_n 0, 1) := by decide +kernel
theorem dX10_tell_22 : decode cX10_tell 22 = .ok (.getfield 10, 3) := by decide +kernel
theorem dX10_tell_25 : decode cX10_tell 25 = .ok (.getfield 332, 3) := by decide +kernel
theorem dX10_tell_28 : decode cX10_tell 28 = .ok (.iload_n 1, 1) := by decide +kernel
theorem dX10_tell_29 : decode cX10_tell 29 = .ok (.invokevirtual 212, 3) := by decide +kernel
theorem dX10_tell_32 : decode cX10_tell 32 = .ok (.aload_n 0, 1) := by decide +kernel
end
section
theorem dX10_tell_33 : decode cX10_tell 33 = .ok (.getfield 10, 3) := by decide +kernel
theorem dX10_tell_36 : decode cX10_tell 36 = .ok (.getfield 332, 3) := by decide +kernel
theorem dX10_tell_39 : decode cX10_tell 39 = .ok (.invokevirtual 211, 3) := by decide +kernel
theorem dX10_tell_42 : decode cX10_tell 42 = .ok (.ireturn, 1) := by decide +kernel
theorem dX10_check_0 : decode cX10_check 0 = .ok (.iconst 0, 1) := by decide +kernel
theorem dX10_check_1 : decode cX10_check 1 = .ok (.istore_n 1, 1) := by decide +kernel
theorem dX10_check_2 : decode cX10_check 2 = .ok (.iconst 0, 1) := by decide +kernel
theorem dX10_check_3 : decode cX10_check 3 = .ok (.istore_n 2, 1) := by decide +kernel
theorem dX10_check_4 : decode cX10_check 4 = .ok (.iload_n 2, 1) := by decide +kernel
theorem dX10_check_5 : decode cX10_check 5 = .ok (.aload_n 0, 1) := by decide +kernel
theorem dX10_check_6 : decode cX10_check 6 = .ok (.getfield 10, 3) := by decide +kernel
theorem dX10_check_9 : decode cX10_check 9 = .ok (.getfield 332, 3) := by decide +kernel
theorem dX10_check_12 : decode cX10_check 12 = .ok (.invokevirtual 211, 3) := by decide +kernel
theorem dX10_check_15 : decode cX10_check 15 = .ok (.if_icmp .ge 48, 3) := by decide +kernel
theorem dX10_check_18 : decode cX10_check 18 = .ok (.iload_n 1, 1) := by decide +kernel
theorem dX10_check_19 : decode cX10_check 19 = .ok (.ifCond .ne 44, 3) := by decide +kernel
theorem dX10_check_22 : decode cX10_check 22 = .ok (.aload_n 0, 1) := by decide +kernel
theorem dX10_check_23 : decode cX10_check 23 = .ok (.getfield 10, 3) := by decide +kernel
theorem dX10_check_26 : decode cX10_check 26 = .ok (.iload_n 2, 1) := by decide +kernel
theorem dX10_check_27 : decode cX10_check 27 = .ok (.iconst 1, 1) := by decide +kernel
theorem dX10_check_28 : decode cX10_check 28 = .ok (.iadd, 1) := by decide +kernel
theorem dX10_check_29 : decode cX10_check 29 = .ok (.invokevirtual 260, 3) := by decide +kernel
theorem dX10_check_32 : decode cX10_check 32 = .ok (.aload_n 0, 1) := by decide +kernel
theorem dX10_check_33 : decode cX10_check 33 = .ok (.getfield 10, 3) := by decide +kernel
theorem dX10_check_36 : decode cX10_check 36 = .ok (.getfield 332, 3) := by decide +kernel
theorem dX10_check_39 : decode cX10_check 39 = .ok (.iload_n 2, 1) := by decide +kernel
theorem dX10_check_40 : decode cX10_check 40 = .ok (.invokevirtual 108, 3) := by decide +kernel
theorem dX10_check_43 : decode cX10_check 43 = .ok (.aload_n 0, 1) := by decide +kernel
theorem dX10_check_44 : decode cX10_check 44 = .ok (.getfield 10, 3) := by decide +kernel
theorem dX10_check_47 : decode cX10_check 47 = .ok (.getfield 335, 3) := by decide +kernel
theorem dX10_check_50 : decode cX10_check 50 = .ok (.if_icmp .eq 7, 3) := by decide +kernel
theorem dX10_check_53 : decode cX10_check 53 = .ok (.iconst 1, 1) := by decide +kernel
theorem dX10_check_54 : decode cX10_check 54 = .ok (.iload_n 2, 1) := by decide +kernel
theorem dX10_check_55 : decode cX10_check 55 = .ok (.iadd, 1) := by decide +kernel
theorem dX10_check_56 : decode cX10_check 56 = .ok (.istore_n 1, 1) := by decide +kernel
theorem dX10_check_57 : decode cX10_check 57 = .ok (.iinc 2 1, 3) := by decide +kernel
theorem dX10_check_60 : decode cX10_check 60 = .ok (.goto (-56), 3) := by decide +kernel
theorem dX10_check_63 : decode cX10_check 63 = .ok (.aload_n 0, 1) := by decide +kernel
theorem dX10_check_64 : decode cX10_check 64 = .ok (.getfield 10, 3) := by decide +kernel
theorem dX10_check_67 : decode cX10_check 67 = .ok (.getfield 332, 3) := by decide +kernel
theorem dX10_check_70 : decode cX10_check 70 = .ok (.invokevirtual 222, 3) := by decide +kernel
theorem dX10_check_73 : decode cX10_check 73 = .ok (.iload_n 1, 1) := by decide +kernel
theorem dX10_check_74 : decode cX10_check 74 = .ok (.ireturn, 1) := by decide +kernel
theorem dX10_count_0 : decode cX10_count 0 = .ok (.iload_n 1, 1) := by decide +kernel
theorem dX10_count_1 : decode cX10_count 1 = .ok (.tableswitch 201 0 12 #[67, 75, 86, 97, 108, 116, 124, 135, 146, 160, 171, 182, 193], 67) := by decide +kernel
theorem dX10_count_68 : decode cX10_count 68 = .ok (.aload_n 0, 1) := by decide +kernel
theorem dX10_count_69 : decode cX10_count 69 = .ok (.getfield 10, 3) := by decide +kernel
theorem dX10_count_72 : decode cX10_count 72 = .ok (.getfield 91, 3) := by decide +kernel
theorem dX10_count_75 : decode cX10_count 75 = .ok (.ireturn, 1) := by decide +kernel
theorem dX10_count_76 : decode cX10_count 76 = .ok (.aload_n 0, 1) := by decide +kernel
theorem dX10_count_77 : decode cX10_count 77 = .ok (.getfield 10, 3) := by decide +kernel
theorem dX10_count_80 : decode cX10_count 80 = .ok (.getfield 67, 3) := by decide +kernel
theorem dX10_count_83 : decode cX10_count 83 = .ok (.invokevirtual 71, 3) := by decide +kernel
theorem dX10_count_86 : decode cX10_count 86 = .ok (.ireturn, 1) := by decide +kernel
theorem dX10_count_87 : decode cX10_count 87 = .ok (.aload_n 0, 1) := by decide +kernel
theorem dX10_count_88 : decode cX10_count 88 = .ok (.getfield 10, 3) := by decide +kernel
theorem dX10_count_91 : decode cX10_count 91 = .ok (.getfield 77, 3) := by decide +kernel
theorem dX10_count_94 : decode cX10_count 94 = .ok (.invokevirtual 81, 3) := by decide +kernel
theorem dX10_count_97 : decode cX10_count 97 = .ok (.ireturn, 1) := by decide +kernel
theorem dX10_count_98 : decode cX10_count 98 = .ok (.aload_n 0, 1) := by decide +kernel
theorem dX10_count_99 : decode cX10_count 99 = .ok (.getfield 10, 3) := by decide +kernel
theorem dX10_count_102 : decode cX10_count 102 = .ok (.getfield 84, 3) := by decide +kernel
theorem dX10_count_105 : decode cX10_count 105 = .ok (.invokevirtual 88, 3) := by decide +kernel
theorem dX10_count_108 : decode cX10_count 108 = .ok (.ireturn, 1) := by decide +kernel
theorem dX10_count_109 : decode cX10_count 109 = .ok (.aload_n 0, 1) := by decide +kernel
theorem dX10_count_110 : decode cX10_count 110 = .ok (.getfield 10, 3) := by decide +kernel
theorem dX10_count_113 : decode cX10_count 113 = .ok (.getfield 243, 3) := by decide +kernel
theorem dX10_count_116 : decode cX10_count 116 = .ok (.ireturn, 1) := by decide +kernel
theorem dX10_count_117 : decode cX10_count 117 = .ok (.aload_n 0, 1) := by decide +kernel
theorem dX10_count_118 : decode cX10_count 118 = .ok (.getfield 10, 3) := by decide +kernel
theorem dX10_count_121 : decode cX10_count 121 = .ok (.getfield 128, 3) := by decide +kernel
theorem dX10_count_124 : decode cX10_count 124 = .ok (.ireturn, 1) := by decide +kernel
theorem dX10_count_125 : decode cX10_count 125 = .ok (.aload_n 0, 1) := by decide +kernel
theorem dX10_count_126 : decode cX10_count 126 = .ok (.getfield 10, 3) := by decide +kernel
theorem dX10_count_129 : decode cX10_count 129 = .ok (.getfield 67, 3) := by decide +kernel
theorem dX10_count_132 : decode cX10_count 132 = .ok (.getfield 117, 3) := by decide +kernel
theorem dX10_count_135 : decode cX10_count 135 = .ok (.ireturn, 1) := by decide +kernel
theorem dX10_count_136 : decode cX10_count 136 = .ok (.aload_n 0, 1) := by decide +kernel
theorem dX10_count_137 : decode cX10_count 137 = .ok (.getfield 10, 3) := by decide +kernel
theorem dX10_count_140 : decode cX10_count 140 = .ok (.getfield 77, 3) := by decide +kernel
theorem dX10_count_143 : decode cX10_count 143 = .ok (.invokevirtual 338, 3) := by decide +kernel
theorem dX10_count_146 : decode cX10_count 146 = .ok (.ireturn, 1) := by decide +kernel
theorem dX10_count_147 : decode cX10_count 147 = .ok (.aload_n 0, 1) := by decide +kernel
theorem dX10_count_148 : decode cX10_count 148 = .ok (.getfield 10, 3) := by decide +kernel
theorem dX10_count_151 : decode cX10_count 151 = .ok (.getfield 77, 3) := by decide +kernel
theorem dX10_count_154 : decode cX10_count 154 = .ok (.invokevirtual 249, 3) := by decide +kernel
theorem dX10_count_157 : decode cX10_count 157 = .ok (.invokestatic 252, 3) := by decide +kernel
theorem dX10_count_160 : decode cX10_count 160 = .ok (.ireturn, 1) := by decide +kernel
theorem dX10_count_161 : decode cX10_count 161 = .ok (.aload_n 0, 1) := by decide +kernel
theorem dX10_count_162 : decode cX10_count 162 = .ok (.getfield 10, 3) := by decide +kernel
theorem dX10_count_165 : decode cX10_count 165 = .ok (.getfield 208, 3) := by decide +kernel
theorem dX10_count_168 : decode cX10_count 168 = .ok (.invokevirtual 211, 3) := by decide +kernel
theorem dX10_count_171 : decode cX10_count 171 = .ok (.ireturn, 1) := by decide +kernel
theorem dX10_count_172 : decode cX10_count 172 = .ok (.aload_n 0, 1) := by decide +kernel
theorem dX10_count_173 : decode cX10_count 173 = .ok (.getfield 10, 3) := by decide +kernel
theorem dX10_count_176 : decode cX10_count 176 = .ok (.getfield 332, 3) := by decide +kernel
theorem dX10_count_179 : decode cX10_count 179 = .ok (.invokevirtual 211, 3) := by decide +kernel
theorem dX10_count_182 : decode cX10_count 182 = .ok (.ireturn, 1) := by decide +kernel
theorem dX10_count_183 : decode cX10_count 183 = .ok (.aload_n 0, 1) := by decide +kernel
theorem dX10_count_184 : decode cX10_count 184 = .ok (.getfield 29, 3) := by decide +kernel
theorem dX10_count_187 : decode cX10_count 187 = .ok (.getfield 304, 3) := by decide +kernel
theorem dX10_count_190 : decode cX10_count 190 = .ok (.invokevirtual 211, 3) := by decide +kernel
theorem dX10_count_193 : decode cX10_count 193 = .ok (.ireturn, 1) := by decide +kernel
theorem dX10_count_194 : decode cX10_count 194 = .ok (.aload_n 0, 1) := by decide +kernel
theorem dX10_count_195 : decode cX10_count 195 = .ok (.getfield 10, 3) := by decide +kernel
theorem dX10_count_198 : decode cX10_count 198 = .ok (.getfield 297, 3) := by decide +kernel
theorem dX10_count_201 : decode cX10_count 201 = .ok (.ireturn, 1) := by decide +kernel
theorem dX10_count_202 : decode cX10_count 202 = .ok (.aload_n 0, 1) := by decide +kernel
theorem dX10_count_203 : decode cX10_count 203 = .ok (.iconst 1, 1) := by decide +kernel
theorem dX10_count_204 : decode cX10_count 204 = .ok (.invokevirtual 63, 3) := by decide +kernel
theorem dX10_count_207 : decode cX10_count 207 = .ok (.ireturn, 1) := by decide +kernel
theorem dX10_told_0 : decode cX10_told 0 = .ok (.iload_n 1, 1) := by decide +kernel
theorem dX10_told_1 : decode cX10_told 1 = .ok (.iconst 1, 1) := by decide +kernel
theorem dX10_told_2 : decode cX10_told 2 = .ok (.iconst 5, 1) := by decide +kernel
theorem dX10_told_3 : decode cX10_told 3 = .ok (.invokestatic 59, 3) := by decide +kernel
theorem dX10_told_6 : decode cX10_told 6 = .ok (.ifCond .ne 9, 3) := by decide +kernel
theorem dX10_told_9 : decode cX10_told 9 = .ok (.aload_n 0, 1) := by decide +kernel
theorem dX10_told_10 : decode cX10_told 10 = .ok (.iconst 1, 1) := by decide +kernel
theorem dX10_told_11 : decode cX10_told 11 = .ok (.invokevirtual 63, 3) := by decide +kernel
theorem dX10_told_14 : decode cX10_told 14 = .ok (.ireturn, 1) := by decide +kernel
theorem dX10_told_15 : decode cX10_told 15 = .ok (.aload_n 0, 1) := by decide +kernel
theorem dX10_told_16 : decode cX10_told 16 = .ok (.getfield 48, 3) := by decide +kernel
theorem dX10_told_19 : decode cX10_told 19 = .ok (.iload_n 1, 1) := by decide +kernel
theorem dX10_told_20 : decode cX10_told 20 = .ok (.invokevirtual 108, 3) := by decide +kernel
theorem dX10_told_23 : decode cX10_told 23 = .ok (.ireturn, 1) := by decide +kernel
theorem dX10_error_0 : decode cX10_error 0 = .ok (.aload_n 0, 1) := by decide +kernel
theorem dX10_error_1 : decode cX10_error 1 = .ok (.getfield 48, 3) := by decide +kernel
theorem dX10_error_4 : decode cX10_error 4 = .ok (.iload_n 1, 1) := by decide +kernel
theorem dX10_error_5 : decode cX10_error 5 = .ok (.aload_n 0, 1) := by decide +kernel
theorem dX10_error_6 : decode cX10_error 6 = .ok (.getfield 48, 3) := by decide +kernel
theorem dX10_error_9 : decode cX10_error 9 = .ok (.iload_n 1, 1) := by decide +kernel
theorem dX10_error_10 : decode cX10_error 10 = .ok (.invokevirtual 108, 3) := by decide +kernel
theorem dX10_error_13 : decode cX10_error 13 = .ok (.iconst 1, 1) := by decide +kernel
theorem dX10_error_14 : decode cX10_error 14 = .ok (.iadd, 1) := by decide +kernel
theorem dX10_error_15 : decode cX10_error 15 = .ok (.invokevirtual 175, 3) := by decide +kernel
theorem dX10_error_18 : decode cX10_error 18 = .ok (.ldc_w 341, 3) := by decide +kernel
theorem dX10_error_21 : decode cX10_error 21 = .ok (.iload_n 1, 1) := by decide +kernel
theorem dX10_error_22 : decode cX10_error 22 = .ok (.isub, 1) := by decide +kernel
theorem dX10_error_23 : decode cX10_error 23 = .ok (.ireturn, 1) := by decide +kernel
theorem dX10_sheetAt_0 : decode cX10_sheetAt 0 = .ok (.iload_n 1, 1) := by decide +kernel
theorem dX10_sheetAt_1 : decode cX10_sheetAt 1 = .ok (.ifCond .lt 21, 3) := by decide +kernel
theorem dX10_sheetAt_4 : decode cX10_sheetAt 4 = .ok (.iload_n 1, 1) := by decide +kernel
theorem dX10_sheetAt_5 : decode cX10_sheetAt 5 = .ok (.aload_n 0, 1) := by decide +kernel
theorem dX10_sheetAt_6 : decode cX10_sheetAt 6 = .ok (.getfield 35, 3) := by decide +kernel
theorem dX10_sheetAt_9 : decode cX10_sheetAt 9 = .ok (.arraylength, 1) := by decide +kernel
theorem dX10_sheetAt_10 : decode cX10_sheetAt 10 = .ok (.if_icmp .ge 12, 3) := by decide +kernel
theorem dX10_sheetAt_13 : decode cX10_sheetAt 13 = .ok (.aload_n 0, 1) := by decide +kernel
theorem dX10_sheetAt_14 : decode cX10_sheetAt 14 = .ok (.getfield 35, 3) := by decide +kernel
theorem dX10_sheetAt_17 : decode cX10_sheetAt 17 = .ok (.iload_n 1, 1) := by decide +kernel
theorem dX10_sheetAt_18 : decode cX10_sheetAt 18 = .ok (.aaload, 1) := by decide +kernel
theorem dX10_sheetAt_19 : decode cX10_sheetAt 19 = .ok (.goto 4, 3) := by decide +kernel
theorem dX10_sheetAt_22 : decode cX10_sheetAt 22 = .ok (.aconst_null, 1) := by decide +kernel
theorem dX10_sheetAt_23 : decode cX10_sheetAt 23 = .ok (.areturn, 1) := by decide +kernel
theorem dX10_mayBeOfOne_0 : decode cX10_mayBeOfOne 0 = .ok (.iload_n 1, 1) := by decide +kernel
theorem dX10_mayBeOfOne_1 : decode cX10_mayBeOfOne 1 = .ok (.ifCond .ne 12, 3) := by decide +kernel
theorem dX10_mayBeOfOne_4 : decode cX10_mayBeOfOne 4 = .ok (.aload_n 0, 1) := by decide +kernel
theorem dX10_mayBeOfOne_5 : decode cX10_mayBeOfOne 5 = .ok (.getfield 10, 3) := by decide +kernel
theorem dX10_mayBeOfOne_8 : decode cX10_mayBeOfOne 8 = .ok (.iload_n 2, 1) := by decide +kernel
theorem dX10_mayBeOfOne_9 : decode cX10_mayBeOfOne 9 = .ok (.invokevirtual 94, 3) := by decide +kernel
theorem dX10_mayBeOfOne_12 : decode cX10_mayBeOfOne 12 = .ok (.ireturn, 1) := by decide +kernel
theorem dX10_mayBeOfOne_13 : decode cX10_mayBeOfOne 13 = .ok (.iload_n 1, 1) := by decide +kernel
theorem dX10_mayBeOfOne_14 : decode cX10_mayBeOfOne 14 = .ok (.iconst 1, 1) := by decide +kernel
theorem dX10_mayBeOfOne_15 : decode cX10_mayBeOfOne 15 = .ok (.if_icmp .ne 13, 3) := by decide +kernel
theorem dX10_mayBeOfOne_18 : decode cX10_mayBeOfOne 18 = .ok (.iload_n 2, 1) := by decide +kernel
theorem dX10_mayBeOfOne_19 : decode cX10_mayBeOfOne 19 = .ok (.iconst 0, 1) := by decide +kernel
theorem dX10_mayBeOfOne_20 : decode cX10_mayBeOfOne 20 = .ok (.bipush 99, 2) := by decide +kernel
theorem dX10_mayBeOfOne_22 : decode cX10_mayBeOfOne 22 = .ok (.invokestatic 59, 3) := by decide +kernel
theorem dX10_mayBeOfOne_25 : decode cX10_mayBeOfOne 25 = .ok (.goto 17, 3) := by decide +kernel
theorem dX10_mayBeOfOne_28 : decode cX10_mayBeOfOne 28 = .ok (.aload_n 0, 1) := by decide +kernel
theorem dX10_mayBeOfOne_29 : decode cX10_mayBeOfOne 29 = .ok (.getfield 10, 3) := by decide +kernel
theorem dX10_mayBeOfOne_32 : decode cX10_mayBeOfOne 32 = .ok (.getfield 77, 3) := by decide +kernel
theorem dX10_mayBeOfOne_35 : decode cX10_mayBeOfOne 35 = .ok (.invokevirtual 81, 3) := by decide +kernel
theorem dX10_mayBeOfOne_38 : decode cX10_mayBeOfOne 38 = .ok (.iload_n 2, 1) := by decide +kernel
theorem dX10_mayBeOfOne_39 : decode cX10_mayBeOfOne 39 = .ok (.invokestatic 274, 3) := by decide +kernel
theorem dX10_mayBeOfOne_42 : decode cX10_mayBeOfOne 42 = .ok (.ireturn, 1) := by decide +kernel
theorem dX10_hinders_0 : decode cX10_hinders 0 = .ok (.iload_n 1, 1) := by decide +kernel
theorem dX10_hinders_1 : decode cX10_hinders 1 = .ok (.aload_n 0, 1) := by decide +kernel
theorem dX10_hinders_2 : decode cX10_hinders 2 = .ok (.getfield 10, 3) := by decide +kernel
theorem dX10_hinders_5 : decode cX10_hinders 5 = .ok (.getfield 67, 3) := by decide +kernel
theorem dX10_hinders_8 : decode cX10_hinders 8 = .ok (.getfield 117, 3) := by decide +kernel
theorem dX10_hinders_11 : decode cX10_hinders 11 = .ok (.iand, 1) := by decide +kernel
theorem dX10_hinders_12 : decode cX10_hinders 12 = .ok (.ifCond .eq 5, 3) := by decide +kernel
theorem dX10_hinders_15 : decode cX10_hinders 15 = .ok (.iconst 0, 1) := by decide +kernel
theorem dX10_hinders_16 : decode cX10_hinders 16 = .ok (.ireturn, 1) := by decide +kernel
theorem dX10_hinders_17 : decode cX10_hinders 17 = .ok (.aload_n 0, 1) := by decide +kernel
theorem dX10_hinders_18 : decode cX10_hinders 18 = .ok (.getfield 10, 3) := by decide +kernel
theorem dX10_hinders_21 : decode cX10_hinders 21 = .ok (.iload_n 3, 1) := by decide +kernel
theorem dX10_hinders_22 : decode cX10_hinders 22 = .ok (.invokevirtual 138, 3) := by decide +kernel
theorem dX10_hinders_25 : decode cX10_hinders 25 = .ok (.astore 5, 2) := by decide +kernel
theorem dX10_hinders_27 : decode cX10_hinders 27 = .ok (.aload_n 0, 1) := by decide +kernel
theorem dX10_hinders_28 : decode cX10_hinders 28 = .ok (.getfield 10, 3) := by decide +kernel
theorem dX10_hinders_31 : decode cX10_hinders 31 = .ok (.aload 5, 2) := by decide +kernel
theorem dX10_hinders_33 : decode cX10_hinders 33 = .ok (.aload_n 0, 1) := by decide +kernel
theorem dX10_hinders_34 : decode cX10_hinders 34 = .ok (.getfield 10, 3) := by decide +kernel
theorem dX10_hinders_37 : decode cX10_hinders 37 = .ok (.getfield 128, 3) := by decide +kernel
theorem dX10_hinders_40 : decode cX10_hinders 40 = .ok (.aload_n 0, 1) := by decide +kernel
theorem dX10_hinders_41 : decode cX10_hinders 41 = .ok (.getfield 10, 3) := by decide +kernel
theorem dX10_hinders_44 : decode cX10_hinders 44 = .ok (.getfield 67, 3) := by decide +kernel
theorem dX10_hinders_47 : decode cX10_hinders 47 = .ok (.getfield 117, 3) := by decide +kernel
theorem dX10_hinders_50 : decode cX10_hinders 50 = .ok (.iload_n 1, 1) := by decide +kernel
theorem dX10_hinders_51 : decode cX10_hinders 51 = .ok (.ior, 1) := by decide +kernel
theorem dX10_hinders_52 : decode cX10_hinders 52 = .ok (.iload 4, 2) := by decide +kernel
theorem dX10_hinders_54 : decode cX10_hinders 54 = .ok (.invokevirtual 277, 3) := by decide +kernel
theorem dX10_hinders_57 : decode cX10_hinders 57 = .ok (.aload 5, 2) := by decide +kernel
theorem dX10_hinders_59 : decode cX10_hinders 59 = .ok (.getfield 166, 3) := by decide +kernel
theorem dX10_hinders_62 : decode cX10_hinders 62 = .ok (.iload_n 2, 1) := by decide +kernel
theorem dX10_hinders_63 : decode cX10_hinders 63 = .ok (.invokestatic 120, 3) := by decide +kernel
theorem dX10_hinders_66 : decode cX10_hinders 66 = .ok (.ifCond .ne 7, 3) := by decide +kernel
theorem dX10_hinders_69 : decode cX10_hinders 69 = .ok (.iconst 1, 1) := by decide +kernel
theorem dX10_hinders_70 : decode cX10_hinders 70 = .ok (.goto 4, 3) := by decide +kernel
theorem dX10_hinders_73 : decode cX10_hinders 73 = .ok (.iconst 0, 1) := by decide +kernel
theorem dX10_hinders_74 : decode cX10_hinders 74 = .ok (.ireturn, 1) := by decide +kernel
theorem dX10_within_0 : decode cX10_within 0 = .ok (.iload_n 0, 1) := by decide +kernel
theorem dX10_within_1 : decode cX10_within 1 = .ok (.iload_n 1, 1) := by decide +kernel
theorem dX10_within_2 : decode cX10_within 2 = .ok (.if_icmp .lt 12, 3) := by decide +kernel
theorem dX10_within_5 : decode cX10_within 5 = .ok (.iload_n 0, 1) := by decide +kernel
theorem dX10_within_6 : decode cX10_within 6 = .ok (.iload_n 2, 1) := by decide +kernel
theorem dX10_within_7 : decode cX10_within 7 = .ok (.if_icmp .gt 7, 3) := by decide +kernel
theorem dX10_within_10 : decode cX10_within 10 = .ok (.iconst 1, 1) := by decide +kernel
theorem dX10_within_11 : decode cX10_within 11 = .ok (.goto 4, 3) := by decide +kernel
theorem dX10_within_14 : decode cX10_within 14 = .ok (.iconst 0, 1) := by decide +kernel
theorem dX10_within_15 : decode cX10_within 15 = .ok (.ireturn, 1) := by decide +kernel
theorem dX10_isKindAndDigit_0 : decode cX10_isKindAndDigit 0 = .ok (.iload_n 0, 1) := by decide +kernel
theorem dX10_isKindAndDigit_1 : decode cX10_isKindAndDigit 1 = .ok (.iconst 0, 1) := by decide +kernel
theorem dX10_isKindAndDigit_2 : decode cX10_isKindAndDigit 2 = .ok (.bipush 69, 2) := by decide +kernel
theorem dX10_isKindAndDigit_4 : decode cX10_isKindAndDigit 4 = .ok (.invokestatic 59, 3) := by decide +kernel
theorem dX10_isKindAndDigit_7 : decode cX10_isKindAndDigit 7 = .ok (.ireturn, 1) := by decide +kernel
theorem dX10_isSetOf_0 : decode cX10_isSetOf 0 = .ok (.iload_n 1, 1) := by decide +kernel
theorem dX10_isSetOf_1 : decode cX10_isSetOf 1 = .ok (.ifCond .lt 14, 3) := by decide +kernel
theorem dX10_isSetOf_4 : decode cX10_isSetOf 4 = .ok (.iload_n 1, 1) := by decide +kernel
theorem dX10_isSetOf_5 : decode cX10_isSetOf 5 = .ok (.iconst 1, 1) := by decide +kernel
theorem dX10_isSetOf_6 : decode cX10_isSetOf 6 = .ok (.iload_n 0, 1) := by decide +kernel
theorem dX10_isSetOf_7 : decode cX10_isSetOf 7 = .ok (.ishl, 1) := by decide +kernel
theorem dX10_isSetOf_8 : decode cX10_isSetOf 8 = .ok (.if_icmp .ge 7, 3) := by decide +kernel
theorem dX10_isSetOf_11 : decode cX10_isSetOf 11 = .ok (.iconst 1, 1) := by decide +kernel
theorem dX10_isSetOf_12 : decode cX10_isSetOf 12 = .ok (.goto 4, 3) := by decide +kernel
theorem dX10_isSetOf_15 : decode cX10_isSetOf 15 = .ok (.iconst 0, 1) := by decide +kernel
theorem dX10_isSetOf_16 : decode cX10_isSetOf 16 = .ok (.ireturn, 1) := by decide +kernel
theorem dX10_inSet_0 : decode cX10_inSet 0 = .ok (.iload_n 0, 1) := by decide +kernel
theorem dX10_inSet_1 : decode cX10_inSet 1 = .ok (.iload_n 1, 1) := by decide +kernel
theorem dX10_inSet_2 : decode cX10_inSet 2 = .ok (.ishr, 1) := by decide +kernel
theorem dX10_inSet_3 : decode cX10_inSet 3 = .ok (.iconst 1, 1) := by decide +kernel
theorem dX10_inSet_4 : decode cX10_inSet 4 = .ok (.iand, 1) := by decide +kernel
theorem dX10_inSet_5 : decode cX10_inSet 5 = .ok (.ireturn, 1) := by decide +kernel
theorem dX10_withMember_0 : decode cX10_withMember 0 = .ok (.iload_n 2, 1) := by decide +kernel
theorem dX10_withMember_1 : decode cX10_withMember 1 = .ok (.ifCond .eq 11, 3) := by decide +kernel
theorem dX10_withMember_4 : decode cX10_withMember 4 = .ok (.iload_n 0, 1) := by decide +kernel
theorem dX10_withMember_5 : decode cX10_withMember 5 = .ok (.iconst 1, 1) := by decide +kernel
theorem dX10_withMember_6 : decode cX10_withMember 6 = .ok (.iload_n 1, 1) := by decide +kernel
theorem dX10_withMember_7 : decode cX10_withMember 7 = .ok (.ishl, 1) := by decide +kernel
theorem dX10_withMember_8 : decode cX10_withMember 8 = .ok (.ior, 1) := by decide +kernel
theorem dX10_withMember_9 : decode cX10_withMember 9 = .ok (.goto 10, 3) := by decide +kernel
theorem dX10_withMember_12 : decode cX10_withMember 12 = .ok (.iload_n 0, 1) := by decide +kernel
theorem dX10_withMember_13 : decode cX10_withMember 13 = .ok (.iconst 1, 1) := by decide +kernel
theorem dX10_withMember_14 : decode cX10_withMember 14 = .ok (.iload_n 1, 1) := by decide +kernel
theorem dX10_withMember_15 : decode cX10_withMember 15 = .ok (.ishl, 1) := by decide +kernel
theorem dX10_withMember_16 : decode cX10_withMember 16 = .ok (.iconst (-1), 1) := by decide +kernel
theorem dX10_withMember_17 : decode cX10_withMember 17 = .ok (.ixor, 1) := by decide +kernel
theorem dX10_withMember_18 : decode cX10_withMember 18 = .ok (.iand, 1) := by decide +kernel
theorem dX10_withMember_19 : decode cX10_withMember 19 = .ok (.ireturn, 1) := by decide +kernel
theorem dX10_commonDivisor_0 : decode cX10_commonDivisor 0 = .ok (.iload_n 0, 1) := by decide +kernel
theorem dX10_commonDivisor_1 : decode cX10_commonDivisor 1 = .ok (.iload_n 1, 1) := by decide +kernel
theorem dX10_commonDivisor_2 : decode cX10_commonDivisor 2 = .ok (.invokestatic 342, 3) := by decide +kernel
theorem dX10_commonDivisor_5 : decode cX10_commonDivisor 5 = .ok (.istore_n 2, 1) := by decide +kernel
theorem dX10_commonDivisor_6 : decode cX10_commonDivisor 6 = .ok (.iload_n 2, 1) := by decide +kernel
theorem dX10_commonDivisor_7 : decode cX10_commonDivisor 7 = .ok (.iconst 1, 1) := by decide +kernel
theorem dX10_commonDivisor_8 : decode cX10_commonDivisor 8 = .ok (.if_icmp .le 23, 3) := by decide +kernel
theorem dX10_commonDivisor_11 : decode cX10_commonDivisor 11 = .ok (.iload_n 0, 1) := by decide +kernel
theorem dX10_commonDivisor_12 : decode cX10_commonDivisor 12 = .ok (.iload_n 2, 1) := by decide +kernel
theorem dX10_commonDivisor_13 : decode cX10_commonDivisor 13 = .ok (.irem, 1) := by decide +kernel
theorem dX10_commonDivisor_14 : decode cX10_commonDivisor 14 = .ok (.ifCond .ne 11, 3) := by decide +kernel
theorem dX10_commonDivisor_17 : decode cX10_commonDivisor 17 = .ok (.iload_n 1, 1) := by decide +kernel
theorem dX10_commonDivisor_18 : decode cX10_commonDivisor 18 = .ok (.iload_n 2, 1) := by decide +kernel
theorem dX10_commonDivisor_19 : decode cX10_commonDivisor 19 = .ok (.irem, 1) := by decide +kernel
theorem dX10_commonDivisor_20 : decode cX10_commonDivisor 20 = .ok (.ifCond .ne 5, 3) := by decide +kernel
theorem dX10_commonDivisor_23 : decode cX10_commonDivisor 23 = .ok (.iload_n 2, 1) := by decide +kernel
theorem dX10_commonDivisor_24 : decode cX10_commonDivisor 24 = .ok (.ireturn, 1) := by decide +kernel
theorem dX10_commonDivisor_25 : decode cX10_commonDivisor 25 = .ok (.iinc 2 (-1), 3) := by decide +kernel
theorem dX10_commonDivisor_28 : decode cX10_commonDivisor 28 = .ok (.goto (-22), 3) := by decide +kernel
theorem dX10_commonDivisor_31 : decode cX10_commonDivisor 31 = .ok (.iconst 1, 1) := by decide +kernel
theorem dX10_commonDivisor_32 : decode cX10_commonDivisor 32 = .ok (.ireturn, 1) := by decide +kernel
theorem dX11_init_0 : decode cX11_init 0 = .ok (.aload_n 0, 1) := by decide +kernel
theorem dX11_init_1 : decode cX11_init 1 = .ok (.invokespecial 3, 3) := by decide +kernel
theorem dX11_init_4 : decode cX11_init 4 = .ok (.aload_n 0, 1) := by decide +kernel
theorem dX11_init_5 : decode cX11_init 5 = .ok (.sipush 273, 3) := by decide +kernel
theorem dX11_init_8 : decode cX11_init 8 = .ok (.newarray .int, 2) := by decide +kernel
theorem dX11_init_10 : decode cX11_init 10 = .ok (.putfield 9, 3) := by decide +kernel
theorem dX11_init_13 : decode cX11_init 13 = .ok (.aload_n 0, 1) := by decide +kernel
theorem dX11_init_14 : decode cX11_init 14 = .ok (.sipush 273, 3) := by decide +kernel
theorem dX11_init_17 : decode cX11_init 17 = .ok (.newarray .int, 2) := by decide +kernel
theorem dX11_init_19 : decode cX11_init 19 = .ok (.putfield 13, 3) := by decide +kernel
theorem dX11_init_22 : decode cX11_init 22 = .ok (.aload_n 0, 1) := by decide +kernel
theorem dX11_init_23 : decode cX11_init 23 = .ok (.sipush 273, 3) := by decide +kernel
theorem dX11_init_26 : decode cX11_init 26 = .ok (.newarray .int, 2) := by decide +kernel
theorem dX11_init_28 : decode cX11_init 28 = .ok (.putfield 16, 3) := by decide +kernel
theorem dX11_init_31 : decode cX11_init 31 = .ok (.aload_n 0, 1) := by decide +kernel
theorem dX11_init_32 : decode cX11_init 32 = .ok (.bipush 6, 2) := by decide +kernel
theorem dX11_init_34 : decode cX11_init 34 = .ok (.newarray .int, 2) := by decide +kernel
theorem dX11_init_36 : decode cX11_init 36 = .ok (.putfield 19, 3) := by decide +kernel
theorem dX11_init_39 : decode cX11_init 39 = .ok (.aload_n 0, 1) := by decide +kernel
theorem dX11_init_40 : decode cX11_init 40 = .ok (.iconst 2, 1) := by decide +kernel
theorem dX11_init_41 : decode cX11_init 41 = .ok (.anewarray 22, 3) := by decide +kernel
theorem dX11_init_44 : decode cX11_init 44 = .ok (.dup, 1) := by decide +kernel
theorem dX11_init_45 : decode cX11_init 45 = .ok (.iconst 0, 1) := by decide +kernel
theorem dX11_init_46 : decode cX11_init 46 = .ok (.ldc 24, 2) := by decide +kernel
theorem dX11_init_48 : decode cX11_init 48 = .ok (.aastore, 1) := by decide +kernel
theorem dX11_init_49 : decode cX11_init 49 = .ok (.dup, 1) := by decide +kernel
theorem dX11_init_50 : decode cX11_init 50 = .ok (.iconst 1, 1) := by decide +kernel
theorem dX11_init_51 : decode cX11_init 51 = .ok (.ldc 26, 2) := by decide +kernel
theorem dX11_init_53 : decode cX11_init 53 = .ok (.aastore, 1) := by decide +kernel
theorem dX11_init_54 : decode cX11_init 54 = .ok (.putfield 28, 3) := by decide +kernel
theorem dX11_init_57 : decode cX11_init 57 = .ok (.aload_n 0, 1) := by decide +kernel
theorem dX11_init_58 : decode cX11_init 58 = .ok (.bipush 60, 2) := by decide +kernel
theorem dX11_init_60 : decode cX11_init 60 = .ok (.newarray .int, 2) := by decide +kernel
theorem dX11_init_62 : decode cX11_init 62 = .ok (.putfield 32, 3) := by decide +kernel
theorem dX11_init_65 : decode cX11_init 65 = .ok (.aload_n 0, 1) := by decide +kernel
theorem dX11_init_66 : decode cX11_init 66 = .ok (.iconst 4, 1) := by decide +kernel
theorem dX11_init_67 : decode cX11_init 67 = .ok (.newarray .int, 2) := by decide +kernel
theorem dX11_init_69 : decode cX11_init 69 = .ok (.putfield 35, 3) := by decide +kernel
theorem dX11_init_72 : decode cX11_init 72 = .ok (.aload_n 0, 1) := by decide +kernel
theorem dX11_init_73 : decode cX11_init 73 = .ok (.bipush 60, 2) := by decide +kernel
theorem dX11_init_75 : decode cX11_init 75 = .ok (.newarray .int, 2) := by decide +kernel
theorem dX11_init_77 : decode cX11_init 77 = .ok (.putfield 38, 3) := by decide +kernel
theorem dX11_init_80 : decode cX11_init 80 = .ok (.aload_n 0, 1) := by decide +kernel
theorem dX11_init_81 : decode cX11_init 81 = .ok (.bipush 40, 2) := by decide +kernel
theorem dX11_init_83 : decode cX11_init 83 = .ok (.newarray .int, 2) := by decide +kernel
theorem dX11_init_85 : decode cX11_init 85 = .ok (.putfield 41, 3) := by decide +kernel
theorem dX11_init_88 : decode cX11_init 88 = .ok (.aload_n 0, 1) := by decide +kernel
theorem dX11_init_89 : decode cX11_init 89 = .ok (.iconst 4, 1) := by decide +kernel
theorem dX11_init_90 : decode cX11_init 90 = .ok (.newarray .int, 2) := by decide +kernel
theorem dX11_init_92 : decode cX11_init 92 = .ok (.putfield 44, 3) := by decide +kernel
theorem dX11_init_95 : decode cX11_init 95 = .ok (.aload_n 0, 1) := by decide +kernel
theorem dX11_init_96 : decode cX11_init 96 = .ok (.iconst 4, 1) := by decide +kernel
theorem dX11_init_97 : decode cX11_init 97 = .ok (.newarray .int, 2) := by decide +kernel
theorem dX11_init_99 : decode cX11_init 99 = .ok (.putfield 47, 3) := by decide +kernel
theorem dX11_init_102 : decode cX11_init 102 = .ok (.aload_n 0, 1) := by decide +kernel
theorem dX11_init_103 : decode cX11_init 103 = .ok (.sipush 160, 3) := by decide +kernel
theorem dX11_init_106 : decode cX11_init 106 = .ok (.newarray .int, 2) := by decide +kernel
theorem dX11_init_108 : decode cX11_init 108 = .ok (.putfield 50, 3) := by decide +kernel
theorem dX11_init_111 : decode cX11_init 111 = .ok (.aload_n 0, 1) := by decide +kernel
theorem dX11_init_112 : decode cX11_init 112 = .ok (.bipush 40, 2) := by decide +kernel
theorem dX11_init_114 : decode cX11_init 114 = .ok (.newarray .int, 2) := by decide +kernel
theorem dX11_init_116 : decode cX11_init 116 = .ok (.putfield 53, 3) := by decide +kernel
theorem dX11_init_119 : decode cX11_init 119 = .ok (.aload_n 0, 1) := by decide +kernel
theorem dX11_init_120 : decode cX11_init 120 = .ok (.getfield 9, 3) := by decide +kernel
theorem dX11_init_123 : decode cX11_init 123 = .ok (.bipush 6, 2) := by decide +kernel
theorem dX11_init_125 : decode cX11_init 125 = .ok (.iconst 1, 1) := by decide +kernel
theorem dX11_init_126 : decode cX11_init 126 = .ok (.iastore, 1) := by decide +kernel
theorem dX11_init_127 : decode cX11_init 127 = .ok (.aload_n 0, 1) := by decide +kernel
theorem dX11_init_128 : decode cX11_init 128 = .ok (.getfield 9, 3) := by decide +kernel
theorem dX11_init_131 : decode cX11_init 131 = .ok (.iconst 1, 1) := by decide +kernel
theorem dX11_init_132 : decode cX11_init 132 = .ok (.iconst 4, 1) := by decide +kernel
theorem dX11_init_133 : decode cX11_init 133 = .ok (.iastore, 1) := by decide +kernel
theorem dX11_init_134 : decode cX11_init 134 = .ok (.return_, 1) := by decide +kernel
theorem dX11_finding_0 : decode cX11_finding 0 = .ok (.aload_n 0, 1) := by decide +kernel
theorem dX11_finding_1 : decode cX11_finding 1 = .ok (.getfield 19, 3) := by decide +kernel
theorem dX11_finding_4 : decode cX11_finding 4 = .ok (.ldc 56, 2) := by decide +kernel
theorem dX11_finding_6 : decode cX11_finding 6 = .ok (.iload_n 1, 1) := by decide +kernel
theorem dX11_finding_7 : decode cX11_finding 7 = .ok (.isub, 1) := by decide +kernel
theorem dX11_finding_8 : decode cX11_finding 8 = .ok (.dup2, 1) := by decide +kernel
theorem dX11_finding_9 : decode cX11_finding 9 = .ok (.iaload, 1) := by decide +kernel
theorem dX11_finding_10 : decode cX11_finding 10 = .ok (.iconst 1, 1) := by decide +kernel
theorem dX11_finding_11 : decode cX11_finding 11 = .ok (.iadd, 1) := by decide +kernel
theorem dX11_finding_12 : decode cX11_finding 12 = .ok (.iastore, 1) := by decide +kernel
theorem dX11_finding_13 : decode cX11_finding 13 = .ok (.iload_n 1, 1) := by decide +kernel
theorem dX11_finding_14 : decode cX11_finding 14 = .ok (.ireturn, 1) := by decide +kernel
theorem dX11_within_0 : decode cX11_within 0 = .ok (.iload_n 0, 1) := by decide +kernel
theorem dX11_within_1 : decode cX11_within 1 = .ok (.iload_n 1, 1) := by decide +kernel
theorem dX11_within_2 : decode cX11_within 2 = .ok (.if_icmp .lt 12, 3) := by decide +kernel
theorem dX11_within_5 : decode cX11_within 5 = .ok (.iload_n 0, 1) := by decide +kernel
theorem dX11_within_6 : decode cX11_within 6 = .ok (.iload_n 2, 1) := by decide +kernel
theorem dX11_within_7 : decode cX11_within 7 = .ok (.if_icmp .gt 7, 3) := by decide +kernel
theorem dX11_within_10 : decode cX11_within 10 = .ok (.iconst 1, 1) := by decide +kernel
theorem dX11_within_11 : decode cX11_within 11 = .ok (.goto 4, 3) := by decide +kernel
theorem dX11_within_14 : decode cX11_within 14 = .ok (.iconst 0, 1) := by decide +kernel
theorem dX11_within_15 : decode cX11_within 15 = .ok (.ireturn, 1) := by decide +kernel
theorem dX11_held_0 : decode cX11_held 0 = .ok (.iload_n 1, 1) := by decide +kernel
theorem dX11_held_1 : decode cX11_held 1 = .ok (.iload_n 2, 1) := by decide +kernel
theorem dX11_held_2 : decode cX11_held 2 = .ok (.iload_n 0, 1) := by decide +kernel
theorem dX11_held_3 : decode cX11_held 3 = .ok (.invokestatic 57, 3) := by decide +kernel
theorem dX11_held_6 : decode cX11_held 6 = .ok (.invokestatic 63, 3) := by decide +kernel
theorem dX11_held_9 : decode cX11_held 9 = .ok (.ireturn, 1) := by decide +kernel
theorem dX11_copy_0 : decode cX11_copy 0 = .ok (.iconst 0, 1) := by decide +kernel
theorem dX11_copy_1 : decode cX11_copy 1 = .ok (.istore_n 2, 1) := by decide +kernel
theorem dX11_copy_2 : decode cX11_copy 2 = .ok (.iload_n 2, 1) := by decide +kernel
theorem dX11_copy_3 : decode cX11_copy 3 = .ok (.sipush 273, 3) := by decide +kernel
theorem dX11_copy_6 : decode cX11_copy 6 = .ok (.if_icmp .ge 15, 3) := by decide +kernel
theorem dX11_copy_9 : decode cX11_copy 9 = .ok (.aload_n 1, 1) := by decide +kernel
theorem dX11_copy_10 : decode cX11_copy 10 = .ok (.iload_n 2, 1) := by decide +kernel
theorem dX11_copy_11 : decode cX11_copy 11 = .ok (.aload_n 0, 1) := by decide +kernel
theorem dX11_copy_12 : decode cX11_copy 12 = .ok (.iload_n 2, 1) := by decide +kernel
theorem dX11_copy_13 : decode cX11_copy 13 = .ok (.iaload, 1) := by decide +kernel
theorem dX11_copy_14 : decode cX11_copy 14 = .ok (.iastore, 1) := by decide +kernel
theorem dX11_copy_15 : decode cX11_copy 15 = .ok (.iinc 2 1, 3) := by decide +kernel
theorem dX11_copy_18 : decode cX11_copy 18 = .ok (.goto (-16), 3) := by decide +kernel
theorem dX11_copy_21 : decode cX11_copy 21 = .ok (.return_, 1) := by decide +kernel
theorem dX11_turn_0 : decode cX11_turn 0 = .ok (.aload_n 0, 1) := by decide +kernel
theorem dX11_turn_1 : decode cX11_turn 1 = .ok (.getfield 9, 3) := by decide +kernel
theorem dX11_turn_4 : decode cX11_turn 4 = .ok (.iload_n 1, 1) := by decide +kernel
theorem dX11_turn_5 : decode cX11_turn 5 = .ok (.iaload, 1) := by decide +kernel
theorem dX11_turn_6 : decode cX11_turn 6 = .ok (.istore_n 3, 1) := by decide +kernel
theorem dX11_turn_7 : decode cX11_turn 7 = .ok (.aload_n 0, 1) := by decide +kernel
theorem dX11_turn_8 : decode cX11_turn 8 = .ok (.getfield 9, 3) := by decide +kernel
theorem dX11_turn_11 : decode cX11_turn 11 = .ok (.iload_n 1, 1) := by decide +kernel
theorem dX11_turn_12 : decode cX11_turn 12 = .ok (.iload_n 2, 1) := by decide +kernel
theorem dX11_turn_13 : decode cX11_turn 13 = .ok (.iastore, 1) := by decide +kernel
theorem dX11_turn_14 : decode cX11_turn 14 = .ok (.iload_n 3, 1) := by decide +kernel
theorem dX11_turn_15 : decode cX11_turn 15 = .ok (.ireturn, 1) := by decide +kernel
theorem dX11_putBack_0 : decode cX11_putBack 0 = .ok (.aload_n 0, 1) := by decide +kernel
theorem dX11_putBack_1 : decode cX11_putBack 1 = .ok (.getfield 16, 3) := by decide +kernel
theorem dX11_putBack_4 : decode cX11_putBack 4 = .ok (.aload_n 0, 1) := by decide +kernel
theorem dX11_putBack_5 : decode cX11_putBack 5 = .ok (.getfield 9, 3) := by decide +kernel
theorem dX11_putBack_8 : decode cX11_putBack 8 = .ok (.invokestatic 66, 3) := by decide +kernel
theorem dX11_putBack_11 : decode cX11_putBack 11 = .ok (.iload_n 1, 1) := by decide +kernel
theorem dX11_putBack_12 : decode cX11_putBack 12 = .ok (.ireturn, 1) := by decide +kernel
theorem dX11_feed_0 : decode cX11_feed 0 = .ok (.iload_n 3, 1) := by decide +kernel
theorem dX11_feed_1 : decode cX11_feed 1 = .ok (.iconst 1, 1) := by decide +kernel
theorem dX11_feed_2 : decode cX11_feed 2 = .ok (.bipush 8, 2) := by decide +kernel
theorem dX11_feed_4 : decode cX11_feed 4 = .ok (.invokestatic 70, 3) := by decide +kernel
theorem dX11_feed_7 : decode cX11_feed 7 = .ok (.ifCond .ne 10, 3) := by decide +kernel
theorem dX11_feed_10 : decode cX11_feed 10 = .ok (.aload_n 0, 1) := by decide +kernel
theorem dX11_feed_11 : decode cX11_feed 11 = .ok (.ldc 74, 2) := by decide +kernel
theorem dX11_feed_13 : decode cX11_feed 13 = .ok (.invokevirtual 75, 3) := by decide +kernel
theorem dX11_feed_16 : decode cX11_feed 16 = .ok (.ireturn, 1) := by decide +kernel
theorem dX11_feed_17 : decode cX11_feed 17 = .ok (.aload_n 0, 1) := by decide +kernel
theorem dX11_feed_18 : decode cX11_feed 18 = .ok (.getfield 9, 3) := by decide +kernel
theorem dX11_feed_21 : decode cX11_feed 21 = .ok (.bipush 7, 2) := by decide +kernel
theorem dX11_feed_23 : decode cX11_feed 23 = .ok (.iaload, 1) := by decide +kernel
theorem dX11_feed_24 : decode cX11_feed 24 = .ok (.iload_n 3, 1) := by decide +kernel
theorem dX11_feed_25 : decode cX11_feed 25 = .ok (.iadd, 1) := by decide +kernel
theorem dX11_feed_26 : decode cX11_feed 26 = .ok (.bipush 50, 2) := by decide +kernel
theorem dX11_feed_28 : decode cX11_feed 28 = .ok (.if_icmp .le 10, 3) := by decide +kernel
theorem dX11_feed_31 : decode cX11_feed 31 = .ok (.aload_n 0, 1) := by decide +kernel
theorem dX11_feed_32 : decode cX11_feed 32 = .ok (.ldc 79, 2) := by decide +kernel
theorem dX11_feed_34 : decode cX11_feed 34 = .ok (.invokevirtual 75, 3) := by decide +kernel
theorem dX11_feed_37 : decode cX11_feed 37 = .ok (.ireturn, 1) := by decide +kernel
theorem dX11_feed_38 : decode cX11_feed 38 = .ok (.iconst 0, 1) := by decide +kernel
theorem dX11_feed_39 : decode cX11_feed 39 = .ok (.istore 4, 2) := by decide +kernel
theorem dX11_feed_41 : decode cX11_feed 41 = .ok (.iload 4, 2) := by decide +kernel
theorem dX11_feed_43 : decode cX11_feed 43 = .ok (.iload_n 3, 1) := by decide +kernel
theorem dX11_feed_44 : decode cX11_feed 44 = .ok (.if_icmp .ge 47, 3) := by decide +kernel
theorem dX11_feed_47 : decode cX11_feed 47 = .ok (.aload_n 0, 1) := by decide +kernel
theorem dX11_feed_48 : decode cX11_feed 48 = .ok (.getfield 9, 3) := by decide +kernel
theorem dX11_feed_51 : decode cX11_feed 51 = .ok (.bipush 99, 2) := by decide +kernel
theorem dX11_feed_53 : decode cX11_feed 53 = .ok (.aload_n 0, 1) := by decide +kernel
theorem dX11_feed_54 : decode cX11_feed 54 = .ok (.getfield 9, 3) := by decide +kernel
theorem dX11_feed_57 : decode cX11_feed 57 = .ok (.bipush 7, 2) := by decide +kernel
theorem dX11_feed_59 : decode cX11_feed 59 = .ok (.iaload, 1) := by decide +kernel
theorem dX11_feed_60 : decode cX11_feed 60 = .ok (.iadd, 1) := by decide +kernel
theorem dX11_feed_61 : decode cX11_feed 61 = .ok (.lload_n 1, 1) := by decide +kernel
theorem dX11_feed_62 : decode cX11_feed 62 = .ok (.bipush 8, 2) := by decide +kernel
theorem dX11_feed_64 : decode cX11_feed 64 = .ok (.iload 4, 2) := by decide +kernel
theorem dX11_feed_66 : decode cX11_feed 66 = .ok (.imul, 1) := by decide +kernel
theorem dX11_feed_67 : decode cX11_feed 67 = .ok (.lshr, 1) := by decide +kernel
theorem dX11_feed_68 : decode cX11_feed 68 = .ok (.ldc2_w 80, 3) := by decide +kernel
theorem dX11_feed_71 : decode cX11_feed 71 = .ok (.land, 1) := by decide +kernel
theorem dX11_feed_72 : decode cX11_feed 72 = .ok (.l2i, 1) := by decide +kernel
theorem dX11_feed_73 : decode cX11_feed 73 = .ok (.iastore, 1) := by decide +kernel
theorem dX11_feed_74 : decode cX11_feed 74 = .ok (.aload_n 0, 1) := by decide +kernel
theorem dX11_feed_75 : decode cX11_feed 75 = .ok (.getfield 9, 3) := by decide +kernel
theorem dX11_feed_78 : decode cX11_feed 78 = .ok (.bipush 7, 2) := by decide +kernel
theorem dX11_feed_80 : decode cX11_feed 80 = .ok (.dup2, 1) := by decide +kernel
theorem dX11_feed_81 : decode cX11_feed 81 = .ok (.iaload, 1) := by decide +kernel
theorem dX11_feed_82 : decode cX11_feed 82 = .ok (.iconst 1, 1) := by decide +kernel
theorem dX11_feed_83 : decode cX11_feed 83 = .ok (.iadd, 1) := by decide +kernel
theorem dX11_feed_84 : decode cX11_feed 84 = .ok (.iastore, 1) := by decide +kernel
theorem dX11_feed_85 : decode cX11_feed 85 = .ok (.iinc 4 1, 3) := by decide +kernel
theorem dX11_feed_88 : decode cX11_feed 88 = .ok (.goto (-47), 3) := by decide +kernel
theorem dX11_feed_91 : decode cX11_feed 91 = .ok (.aload_n 0, 1) := by decide +kernel
theorem dX11_feed_92 : decode cX11_feed 92 = .ok (.getfield 9, 3) := by decide +kernel
theorem dX11_feed_95 : decode cX11_feed 95 = .ok (.bipush 7, 2) := by decide +kernel
theorem dX11_feed_97 : decode cX11_feed 97 = .ok (.iaload, 1) := by decide +kernel
theorem dX11_feed_98 : decode cX11_feed 98 = .ok (.ireturn, 1) := by decide +kernel
theorem dX11_here_0 : decode cX11_here 0 = .ok (.aload_n 0, 1) := by decide +kernel
theorem dX11_here_1 : decode cX11_here 1 = .ok (.getfield 82, 3) := by decide +kernel
theorem dX11_here_4 : decode cX11_here 4 = .ok (.ifCond .ne 32, 3) := by decide +kernel
theorem dX11_here_7 : decode cX11_here 7 = .ok (.aload_n 0, 1) := by decide +kernel
theorem dX11_here_8 : decode cX11_here 8 = .ok (.getfield 86, 3) := by decide +kernel
theorem dX11_here_11 : decode cX11_here 11 = .ok (.aload_n 0, 1) := by decide +kernel
theorem dX11_here_12 : decode cX11_here 12 = .ok (.getfield 9, 3) := by decide +kernel
theorem dX11_here_15 : decode cX11_here 15 = .ok (.bipush 7, 2) := by decide +kernel
theorem dX11_here_17 : decode cX11_here 17 = .ok (.iaload, 1) := by decide +kernel
theorem dX11_here_18 : decode cX11_here 18 = .ok (.if_icmp .ge 18, 3) := by decide +kernel
theorem dX11_here_21 : decode cX11_here 21 = .ok (.aload_n 0, 1) := by decide +kernel
theorem dX11_here_22 : decode cX11_here 22 = .ok (.getfield 9, 3) := by decide +kernel
theorem dX11_here_25 : decode cX11_here 25 = .ok (.bipush 99, 2) := by decide +kernel
theorem dX11_here_27 : decode cX11_here 27 = .ok (.aload_n 0, 1) := by decide +kernel
theorem dX11_here_28 : decode cX11_here 28 = .ok (.getfield 86, 3) := by decide +kernel
theorem dX11_here_31 : decode cX11_here 31 = .ok (.iadd, 1) := by decide +kernel
theorem dX11_here_32 : decode cX11_here 32 = .ok (.iaload, 1) := by decide +kernel
theorem dX11_here_33 : decode cX11_here 33 = .ok (.goto 4, 3) := by decide +kernel
theorem dX11_here_36 : decode cX11_here 36 = .ok (.iconst (-1), 1) := by decide +kernel
theorem dX11_here_37 : decode cX11_here 37 = .ok (.ireturn, 1) := by decide +kernel
theorem dX11_takes_0 : decode cX11_takes 0 = .ok (.aload_n 0, 1) := by decide +kernel
theorem dX11_takes_1 : decode cX11_takes 1 = .ok (.invokevirtual 90, 3) := by decide +kernel
theorem dX11_takes_4 : decode cX11_takes 4 = .ok (.iload_n 1, 1) := by decide +kernel
theorem dX11_takes_5 : decode cX11_takes 5 = .ok (.if_icmp .ne 7, 3) := by decide +kernel
theorem dX11_takes_8 : decode cX11_takes 8 = .ok (.iconst 1, 1) := by decide +kernel
theorem dX11_takes_9 : decode cX11_takes 9 = .ok (.goto 4, 3) := by decide +kernel
theorem dX11_takes_12 : decode cX11_takes 12 = .ok (.iconst 0, 1) := by decide +kernel
theorem dX11_takes_13 : decode cX11_takes 13 = .ok (.istore_n 2, 1) := by decide +kernel
theorem dX11_takes_14 : decode cX11_takes 14 = .ok (.aload_n 0, 1) := by decide +kernel
theorem dX11_takes_15 : decode cX11_takes 15 = .ok (.dup, 1) := by decide +kernel
theorem dX11_takes_16 : decode cX11_takes 16 = .ok (.getfield 86, 3) := by decide +kernel
theorem dX11_takes_19 : decode cX11_takes 19 = .ok (.iload_n 2, 1) := by decide +kernel
theorem dX11_takes_20 : decode cX11_takes 20 = .ok (.ifCond .eq 7, 3) := by decide +kernel
theorem dX11_takes_23 : decode cX11_takes 23 = .ok (.iconst 1, 1) := by decide +kernel
theorem dX11_takes_24 : decode cX11_takes 24 = .ok (.goto 4, 3) := by decide +kernel
theorem dX11_takes_27 : decode cX11_takes 27 = .ok (.iconst 0, 1) := by decide +kernel
theorem dX11_takes_28 : decode cX11_takes 28 = .ok (.iadd, 1) := by decide +kernel
theorem dX11_takes_29 : decode cX11_takes 29 = .ok (.putfield 86, 3) := by decide +kernel
theorem dX11_takes_32 : decode cX11_takes 32 = .ok (.iload_n 2, 1) := by decide +kernel
theorem dX11_takes_33 : decode cX11_takes 33 = .ok (.ireturn, 1) := by decide +kernel
theorem dX11_codes_0 : decode cX11_codes 0 = .ok (.aload_n 0, 1) := by decide +kernel
theorem dX11_codes_1 : decode cX11_codes 1 = .ok (.getfield 82, 3) := by decide +kernel
theorem dX11_codes_4 : decode cX11_codes 4 = .ok (.ifCond .ne 23, 3) := by decide +kernel
theorem dX11_codes_7 : decode cX11_codes 7 = .ok (.aload_n 0, 1) := by decide +kernel
theorem dX11_codes_8 : decode cX11_codes 8 = .ok (.getfield 32, 3) := by decide +kernel
theorem dX11_codes_11 : decode cX11_codes 11 = .ok (.aload_n 0, 1) := by decide +kernel
theorem dX11_codes_12 : decode cX11_codes 12 = .ok (.getfield 94, 3) := by decide +kernel
theorem dX11_codes_15 : decode cX11_codes 15 = .ok (.iload_n 1, 1) := by decide +kernel
theorem dX11_codes_16 : decode cX11_codes 16 = .ok (.iastore, 1) := by decide +kernel
theorem dX11_codes_17 : decode cX11_codes 17 = .ok (.aload_n 0, 1) := by decide +kernel
theorem dX11_codes_18 : decode cX11_codes 18 = .ok (.dup, 1) := by decide +kernel
theorem dX11_codes_19 : decode cX11_codes 19 = .ok (.getfield 94, 3) := by decide +kernel
theorem dX11_codes_22 : decode cX11_codes 22 = .ok (.iconst 1, 1) := by decide +kernel
theorem dX11_codes_23 : decode cX11_codes 23 = .ok (.iadd, 1) := by decide +kernel
theorem dX11_codes_24 : decode cX11_codes 24 = .ok (.putfield 94, 3) := by decide +kernel
theorem dX11_codes_27 : decode cX11_codes 27 = .ok (.return_, 1) := by decide +kernel
theorem dX11_either_0 : decode cX11_either 0 = .ok (.aload_n 0, 1) := by decide +kernel
theorem dX11_either_1 : decode cX11_either 1 = .ok (.invokevirtual 97, 3) := by decide +kernel
theorem dX11_either_4 : decode cX11_either 4 = .ok (.aload_n 0, 1) := by decide +kernel
theorem dX11_either_5 : decode cX11_either 5 = .ok (.bipush 124, 2) := by decide +kernel
theorem dX11_either_7 : decode cX11_either 7 = .ok (.invokevirtual 100, 3) := by decide +kernel
theorem dX11_either_10 : decode cX11_either 10 = .ok (.ifCond .eq 17, 3) := by decide +kernel
theorem dX11_either_13 : decode cX11_either 13 = .ok (.aload_n 0, 1) := by decide +kernel
theorem dX11_either_14 : decode cX11_either 14 = .ok (.invokevirtual 97, 3) := by decide +kernel
theorem dX11_either_17 : decode cX11_either 17 = .ok (.aload_n 0, 1) := by decide +kernel
theorem dX11_either_18 : decode cX11_either 18 = .ok (.sipush 20000, 3) := by decide +kernel
theorem dX11_either_21 : decode cX11_either 21 = .ok (.invokevirtual 104, 3) := by decide +kernel
theorem dX11_either_24 : decode cX11_either 24 = .ok (.goto (-20), 3) := by decide +kernel
theorem dX11_either_27 : decode cX11_either 27 = .ok (.return_, 1) := by decide +kernel
theorem dX11_both_0 : decode cX11_both 0 = .ok (.aload_n 0, 1) := by decide +kernel
theorem dX11_both_1 : decode cX11_both 1 = .ok (.invokevirtual 108, 3) := by decide +kernel
theorem dX11_both_4 : decode cX11_both 4 = .ok (.aload_n 0, 1) := by decide +kernel
theorem dX11_both_5 : decode cX11_both 5 = .ok (.bipush 38, 2) := by decide +kernel
theorem dX11_both_7 : decode cX11_both 7 = .ok (.invokevirtual 100, 3) := by decide +kernel
theorem dX11_both_10 : decode cX11_both 10 = .ok (.ifCond .eq 17, 3) := by decide +kernel
theorem dX11_both_13 : decode cX11_both 13 = .ok (.aload_n 0, 1) := by decide +kernel
theorem dX11_both_14 : decode cX11_both 14 = .ok (.invokevirtual 108, 3) := by decide +kernel
theorem dX11_both_17 : decode cX11_both 17 = .ok (.aload_n 0, 1) := by decide +kernel
theorem dX11_both_18 : decode cX11_both 18 = .ok (.sipush 20001, 3) := by decide +kernel
theorem dX11_both_21 : decode cX11_both 21 = .ok (.invokevirtual 104, 3) := by decide +kernel
theorem dX11_both_24 : decode cX11_both 24 = .ok (.goto (-20), 3) := by decide +kernel
theorem dX11_both_27 : decode cX11_both 27 = .ok (.return_, 1) := by decide +kernel
theorem dX11_compared_0 : decode cX11_compared 0 = .ok (.aload_n 0, 1) := by decide +kernel
theorem dX11_compared_1 : decode cX11_compared 1 = .ok (.invokevirtual 111, 3) := by decide +kernel
theorem dX11_compared_4 : decode cX11_compared 4 = .ok (.aload_n 0, 1) := by decide +kernel
theorem dX11_compared_5 : decode cX11_compared 5 = .ok (.bipush 60, 2) := by decide +kernel
theorem dX11_compared_7 : decode cX11_compared 7 = .ok (.invokevirtual 100, 3) := by decide +kernel
theorem dX11_compared_10 : decode cX11_compared 10 = .ok (.ifCond .eq 9, 3) := by decide +kernel
theorem dX11_compared_13 : decode cX11_compared 13 = .ok (.sipush 20002, 3) := by decide +kernel
theorem dX11_compared_16 : decode cX11_compared 16 = .ok (.goto 34, 3) := by decide +kernel
theorem dX11_compared_19 : decode cX11_compared 19 = .ok (.aload_n 0, 1) := by decide +kernel
theorem dX11_compared_20 : decode cX11_compared 20 = .ok (.bipush 61, 2) := by decide +kernel
theorem dX11_compared_22 : decode cX11_compared 22 = .ok (.invokevirtual 100, 3) := by decide +kernel
theorem dX11_compared_25 : decode cX11_compared 25 = .ok (.ifCond .eq 9, 3) := by decide +kernel
theorem dX11_compared_28 : decode cX11_compared 28 = .ok (.sipush 20003, 3) := by decide +kernel
theorem dX11_compared_31 : decode cX11_compared 31 = .ok (.goto 19, 3) := by decide +kernel
theorem dX11_compared_34 : decode cX11_compared 34 = .ok (.aload_n 0, 1) := by decide +kernel
theorem dX11_compared_35 : decode cX11_compared 35 = .ok (.bipush 62, 2) := by decide +kernel
theorem dX11_compared_37 : decode cX11_compared 37 = .ok (.invokevirtual 100, 3) := by decide +kernel
theorem dX11_compared_40 : decode cX11_compared 40 = .ok (.ifCond .eq 9, 3) := by decide +kernel
theorem dX11_compared_43 : decode cX11_compared 43 = .ok (.sipush 20004, 3) := by decide +kernel
theorem dX11_compared_46 : decode cX11_compared 46 = .ok (.goto 4, 3) := by decide +kernel
theorem dX11_compared_49 : decode cX11_compared 49 = .ok (.iconst 0, 1) := by decide +kernel
theorem dX11_compared_50 : decode cX11_compared 50 = .ok (.istore_n 1, 1) := by decide +kernel
theorem dX11_compared_51 : decode cX11_compared 51 = .ok (.iload_n 1, 1) := by decide +kernel
theorem dX11_compared_52 : decode cX11_compared 52 = .ok (.ifCond .le 12, 3) := by decide +kernel
theorem dX11_compared_55 : decode cX11_compared 55 = .ok (.aload_n 0, 1) := by decide +kernel
theorem dX11_compared_56 : decode cX11_compared 56 = .ok (.invokevirtual 111, 3) := by decide +kernel
theorem dX11_compared_59 : decode cX11_compared 59 = .ok (.aload_n 0, 1) := by decide +kernel
theorem dX11_compared_60 : decode cX11_compared 60 = .ok (.iload_n 1, 1) := by decide +kernel
theorem dX11_compared_61 : decode cX11_compared 61 = .ok (.invokevirtual 104, 3) := by decide +kernel
theorem dX11_compared_64 : decode cX11_compared 64 = .ok (.return_, 1) := by decide +kernel
theorem dX11_sum_0 : decode cX11_sum 0 = .ok (.aload_n 0, 1) := by decide +kernel
theorem dX11_sum_1 : decode cX11_sum 1 = .ok (.invokevirtual 114, 3) := by decide +kernel
theorem dX11_sum_4 : decode cX11_sum 4 = .ok (.aload_n 0, 1) := by decide +kernel
theorem dX11_sum_5 : decode cX11_sum 5 = .ok (.bipush 43, 2) := by decide +kernel
theorem dX11_sum_7 : decode cX11_sum 7 = .ok (.invokevirtual 100, 3) := by decide +kernel
theorem dX11_sum_10 : decode cX11_sum 10 = .ok (.ifCond .eq 9, 3) := by decide +kernel
theorem dX11_sum_13 : decode cX11_sum 13 = .ok (.sipush 20005, 3) := by decide +kernel
theorem dX11_sum_16 : decode cX11_sum 16 = .ok (.goto 19, 3) := by decide +kernel
theorem dX11_sum_19 : decode cX11_sum 19 = .ok (.aload_n 0, 1) := by decide +kernel
theorem dX11_sum_20 : decode cX11_sum 20 = .ok (.bipush 45, 2) := by decide +kernel
theorem dX11_sum_22 : decode cX11_sum 22 = .ok (.invokevirtual 100, 3) := by decide +kernel
theorem dX11_sum_25 : decode cX11_sum 25 = .ok (.ifCond .eq 9, 3) := by decide +kernel
theorem dX11_sum_28 : decode cX11_sum 28 = .ok (.sipush 20006, 3) := by decide +kernel
theorem dX11_sum_31 : decode cX11_sum 31 = .ok (.goto 4, 3) := by decide +kernel
theorem dX11_sum_34 : decode cX11_sum 34 = .ok (.iconst 0, 1) := by decide +kernel
theorem dX11_sum_35 : decode cX11_sum 35 = .ok (.istore_n 1, 1) := by decide +kernel
theorem dX11_sum_36 : decode cX11_sum 36 = .ok (.iload_n 1, 1) := by decide +kernel
theorem dX11_sum_37 : decode cX11_sum 37 = .ok (.ifCond .le 47, 3) := by decide +kernel
theorem dX11_sum_40 : decode cX11_sum 40 = .ok (.aload_n 0, 1) := by decide +kernel
theorem dX11_sum_41 : decode cX11_sum 41 = .ok (.invokevirtual 114, 3) := by decide +kernel
theorem dX11_sum_44 : decode cX11_sum 44 = .ok (.aload_n 0, 1) := by decide +kernel
theorem dX11_sum_45 : decode cX11_sum 45 = .ok (.iload_n 1, 1) := by decide +kernel
theorem dX11_sum_46 : decode cX11_sum 46 = .ok (.invokevirtual 104, 3) := by decide +kernel
theorem dX11_sum_49 : decode cX11_sum 49 = .ok (.aload_n 0, 1) := by decide +kernel
theorem dX11_sum_50 : decode cX11_sum 50 = .ok (.bipush 43, 2) := by decide +kernel
theorem dX11_sum_52 : decode cX11_sum 52 = .ok (.invokevirtual 100, 3) := by decide +kernel
theorem dX11_sum_55 : decode cX11_sum 55 = .ok (.ifCond .eq 9, 3) := by decide +kernel
theorem dX11_sum_58 : decode cX11_sum 58 = .ok (.sipush 20005, 3) := by decide +kernel
theorem dX11_sum_61 : decode cX11_sum 61 = .ok (.goto 19, 3) := by decide +kernel
theorem dX11_sum_64 : decode cX11_sum 64 = .ok (.aload_n 0, 1) := by decide +kernel
theorem dX11_sum_65 : decode cX11_sum 65 = .ok (.bipush 45, 2) := by decide +kernel
theorem dX11_sum_67 : decode cX11_sum 67 = .ok (.invokevirtual 100, 3) := by decide +kernel
theorem dX11_sum_70 : decode cX11_sum 70 = .ok (.ifCond .eq 9, 3) := by decide +kernel
theorem dX11_sum_73 : decode cX11_sum 73 = .ok (.sipush 20006, 3) := by decide +kernel
theorem dX11_sum_76 : decode cX11_sum 76 = .ok (.goto 4, 3) := by decide +kernel
theorem dX11_sum_79 : decode cX11_sum 79 = .ok (.iconst 0, 1) := by decide +kernel
theorem dX11_sum_80 : decode cX11_sum 80 = .ok (.istore_n 1, 1) := by decide +kernel
theorem dX11_sum_81 : decode cX11_sum 81 = .ok (.goto (-45), 3) := by decide +kernel
theorem dX11_sum_84 : decode cX11_sum 84 = .ok (.return_, 1) := by decide +kernel
theorem dX11_product_0 : decode cX11_product 0 = .ok (.aload_n 0, 1) := by decide +kernel
theorem dX11_product_1 : decode cX11_product 1 = .ok (.invokevirtual 117, 3) := by decide +kernel
theorem dX11_product_4 : decode cX11_product 4 = .ok (.aload_n 0, 1) := by decide +kernel
theorem dX11_product_5 : decode cX11_product 5 = .ok (.bipush 42, 2) := by decide +kernel
theorem dX11_product_7 : decode cX11_product 7 = .ok (.invokevirtual 100, 3) := by decide +kernel
theorem dX11_product_10 : decode cX11_product 10 = .ok (.ifCond .eq 9, 3) := by decide +kernel
theorem dX11_product_13 : decode cX11_product 13 = .ok (.sipush 20007, 3) := by decide +kernel
theorem dX11_product_16 : decode cX11_product 16 = .ok (.goto 34, 3) := by decide +kernel
theorem dX11_product_19 : decode cX11_product 19 = .ok (.aload_n 0, 1) := by decide +kernel
theorem dX11_product_20 : decode cX11_product 20 = .ok (.bipush 47, 2) := by decide +kernel
theorem dX11_product_22 : decode cX11_product 22 = .ok (.invokevirtual 100, 3) := by decide +kernel
theorem dX11_product_25 : decode cX11_product 25 = .ok (.ifCond .eq 9, 3) := by decide +kernel
theorem dX11_product_28 : decode cX11_product 28 = .ok (.sipush 20008, 3) := by decide +kernel
theorem dX11_product_31 : decode cX11_product 31 = .ok (.goto 19, 3) := by decide +kernel
theorem dX11_product_34 : decode cX11_product 34 = .ok (.aload_n 0, 1) := by decide +kernel
theorem dX11_product_35 : decode cX11_product 35 = .ok (.bipush 37, 2) := by decide +kernel
theorem dX11_product_37 : decode cX11_product 37 = .ok (.invokevirtual 100, 3) := by decide +kernel
theorem dX11_product_40 : decode cX11_product 40 = .ok (.ifCond .eq 9, 3) := by decide +kernel
theorem dX11_product_43 : decode cX11_product 43 = .ok (.sipush 20009, 3) := by decide +kernel
theorem dX11_product_46 : decode cX11_product 46 = .ok (.goto 4, 3) := by decide +kernel
theorem dX11_product_49 : decode cX11_product 49 = .ok (.iconst 0, 1) := by decide +kernel
theorem dX11_product_50 : decode cX11_product 50 = .ok (.istore_n 1, 1) := by decide +kernel
theorem dX11_product_51 : decode cX11_product 51 = .ok (.iload_n 1, 1) := by decide +kernel
theorem dX11_product_52 : decode cX11_product 52 = .ok (.ifCond .le 62, 3) := by decide +kernel
theorem dX11_product_55 : decode cX11_product 55 = .ok (.aload_n 0, 1) := by decide +kernel
theorem dX11_product_56 : decode cX11_product 56 = .ok (.invokevirtual 117, 3) := by decide +kernel
theorem dX11_product_59 : decode cX11_product 59 = .ok (.aload_n 0, 1) := by decide +kernel
theorem dX11_product_60 : decode cX11_product 60 = .ok (.iload_n 1, 1) := by decide +kernel
theorem dX11_product_61 : decode cX11_product 61 = .ok (.invokevirtual 104, 3) := by decide +kernel
theorem dX11_product_64 : decode cX11_product 64 = .ok (.aload_n 0, 1) := by decide +kernel
theorem dX11_product_65 : decode cX11_product 65 = .ok (.bipush 42, 2) := by decide +kernel
theorem dX11_product_67 : decode cX11_product 67 = .ok (.invokevirtual 100, 3) := by decide +kernel
theorem dX11_product_70 : decode cX11_product 70 = .ok (.ifCond .eq 9, 3) := by decide +kernel
theorem dX11_product_73 : decode cX11_product 73 = .ok (.sipush 20007, 3) := by decide +kernel
theorem dX11_product_76 : decode cX11_product 76 = .ok (.goto 34, 3) := by decide +kernel
theorem dX11_product_79 : decode cX11_product 79 = .ok (.aload_n 0, 1) := by decide +kernel
theorem dX11_product_80 : decode cX11_product 80 = .ok (.bipush 47, 2) := by decide +kernel
theorem dX11_product_82 : decode cX11_product 82 = .ok (.invokevirtual 100, 3) := by decide +kernel
theorem dX11_product_85 : decode cX11_product 85 = .ok (.ifCond .eq 9, 3) := by decide +kernel
theorem dX11_product_88 : decode cX11_product 88 = .ok (.sipush 20008, 3) := by decide +kernel
theorem dX11_product_91 : decode cX11_product 91 = .ok (.goto 19, 3) := by decide +kernel
theorem dX11_product_94 : decode cX11_product 94 = .ok (.aload_n 0, 1) := by decide +kernel
theorem dX11_product_95 : decode cX11_product 95 = .ok (.bipush 37, 2) := by decide +kernel
theorem dX11_product_97 : decode cX11_product 97 = .ok (.invokevirtual 100, 3) := by decide +kernel
theorem dX11_product_100 : decode cX11_product 100 = .ok (.ifCond .eq 9, 3) := by decide +kernel
theorem dX11_product_103 : decode cX11_product 103 = .ok (.sipush 20009, 3) := by decide +kernel
theorem dX11_product_106 : decode cX11_product 106 = .ok (.goto 4, 3) := by decide +kernel
theorem dX11_product_109 : decode cX11_product 109 = .ok (.iconst 0, 1) := by decide +kernel
theorem dX11_product_110 : decode cX11_product 110 = .ok (.istore_n 1, 1) := by decide +kernel
theorem dX11_product_111 : decode cX11_product 111 = .ok (.goto (-60), 3) := by decide +kernel
theorem dX11_product_114 : decode cX11_product 114 = .ok (.return_, 1) := by decide +kernel
theorem dX11_nameOf_0 : decode cX11_nameOf 0 = .ok (.iconst (-1), 1) := by decide +kernel
theorem dX11_nameOf_1 : decode cX11_nameOf 1 = .ok (.istore_n 2, 1) := by decide +kernel
theorem dX11_nameOf_2 : decode cX11_nameOf 2 = .ok (.iconst 0, 1) := by decide +kernel
theorem dX11_nameOf_3 : decode cX11_nameOf 3 = .ok (.istore_n 3, 1) := by decide +kernel
theorem dX11_nameOf_4 : decode cX11_nameOf 4 = .ok (.iload_n 3, 1) := by decide +kernel
theorem dX11_nameOf_5 : decode cX11_nameOf 5 = .ok (.aload_n 0, 1) := by decide +kernel
theorem dX11_nameOf_6 : decode cX11_nameOf 6 = .ok (.getfield 28, 3) := by decide +kernel
theorem dX11_nameOf_9 : decode cX11_nameOf 9 = .ok (.aload_n 0, 1) := by decide +kernel
theorem dX11_nameOf_10 : decode cX11_nameOf 10 = .ok (.getfield 120, 3) := by decide +kernel
theorem dX11_nameOf_13 : decode cX11_nameOf 13 = .ok (.aaload, 1) := by decide +kernel
theorem dX11_nameOf_14 : decode cX11_nameOf 14 = .ok (.invokevirtual 123, 3) := by decide +kernel
theorem dX11_nameOf_17 : decode cX11_nameOf 17 = .ok (.if_icmp .ge 32, 3) := by decide +kernel
theorem dX11_nameOf_20 : decode cX11_nameOf 20 = .ok (.aload_n 0, 1) := by decide +kernel
theorem dX11_nameOf_21 : decode cX11_nameOf 21 = .ok (.getfield 28, 3) := by decide +kernel
theorem dX11_nameOf_24 : decode cX11_nameOf 24 = .ok (.aload_n 0, 1) := by decide +kernel
theorem dX11_nameOf_25 : decode cX11_nameOf 25 = .ok (.getfield 120, 3) := by decide +kernel
theorem dX11_nameOf_28 : decode cX11_nameOf 28 = .ok (.aaload, 1) := by decide +kernel
theorem dX11_nameOf_29 : decode cX11_nameOf 29 = .ok (.iload_n 3, 1) := by decide +kernel
theorem dX11_nameOf_30 : decode cX11_nameOf 30 = .ok (.invokevirtual 126, 3) := by decide +kernel
theorem dX11_nameOf_33 : decode cX11_nameOf 33 = .ok (.iload_n 1, 1) := by decide +kernel
theorem dX11_nameOf_34 : decode cX11_nameOf 34 = .ok (.if_icmp .ne 7, 3) := by decide +kernel
theorem dX11_nameOf_37 : decode cX11_nameOf 37 = .ok (.iload_n 3, 1) := by decide +kernel
theorem dX11_nameOf_38 : decode cX11_nameOf 38 = .ok (.goto 4, 3) := by decide +kernel
theorem dX11_nameOf_41 : decode cX11_nameOf 41 = .ok (.iload_n 2, 1) := by decide +kernel
theorem dX11_nameOf_42 : decode cX11_nameOf 42 = .ok (.istore_n 2, 1) := by decide +kernel
theorem dX11_nameOf_43 : decode cX11_nameOf 43 = .ok (.iinc 3 1, 3) := by decide +kernel
theorem dX11_nameOf_46 : decode cX11_nameOf 46 = .ok (.goto (-42), 3) := by decide +kernel
theorem dX11_nameOf_49 : decode cX11_nameOf 49 = .ok (.iload_n 2, 1) := by decide +kernel
theorem dX11_nameOf_50 : decode cX11_nameOf 50 = .ok (.ireturn, 1) := by decide +kernel
theorem dX11_one_0 : decode cX11_one 0 = .ok (.aload_n 0, 1) := by decide +kernel
theorem dX11_one_1 : decode cX11_one 1 = .ok (.invokevirtual 90, 3) := by decide +kernel
theorem dX11_one_4 : decode cX11_one 4 = .ok (.istore_n 1, 1) := by decide +kernel
theorem dX11_one_5 : decode cX11_one 5 = .ok (.iload_n 1, 1) := by decide +kernel
theorem dX11_one_6 : decode cX11_one 6 = .ok (.bipush 33, 2) := by decide +kernel
theorem dX11_one_8 : decode cX11_one 8 = .ok (.if_icmp .eq 9, 3) := by decide +kernel
theorem dX11_one_11 : decode cX11_one 11 = .ok (.iload_n 1, 1) := by decide +kernel
theorem dX11_one_12 : decode cX11_one 12 = .ok (.bipush 40, 2) := by decide +kernel
theorem dX11_one_14 : decode cX11_one 14 = .ok (.if_icmp .ne 102, 3) := by decide +kernel
theorem dX11_one_17 : decode cX11_one 17 = .ok (.aload_n 0, 1) := by decide +kernel
theorem dX11_one_18 : decode cX11_one 18 = .ok (.aload_n 0, 1) := by decide +kernel
theorem dX11_one_19 : decode cX11_one 19 = .ok (.getfield 130, 3) := by decide +kernel
theorem dX11_one_22 : decode cX11_one 22 = .ok (.iconst 5, 1) := by decide +kernel
theorem dX11_one_23 : decode cX11_one 23 = .ok (.if_icmp .ne 7, 3) := by decide +kernel
theorem dX11_one_26 : decode cX11_one 26 = .ok (.iconst 1, 1) := by decide +kernel
theorem dX11_one_27 : decode cX11_one 27 = .ok (.goto 4, 3) := by decide +kernel
theorem dX11_one_30 : decode cX11_one 30 = .ok (.iconst 0, 1) := by decide +kernel
theorem dX11_one_31 : decode cX11_one 31 = .ok (.putfield 82, 3) := by decide +kernel
theorem dX11_one_34 : decode cX11_one 34 = .ok (.aload_n 0, 1) := by decide +kernel
theorem dX11_one_35 : decode cX11_one 35 = .ok (.getfield 82, 3) := by decide +kernel
theorem dX11_one_38 : decode cX11_one 38 = .ok (.ifCond .ne 209, 3) := by decide +kernel
theorem dX11_one_41 : decode cX11_one 41 = .ok (.aload_n 0, 1) := by decide +kernel
theorem dX11_one_42 : decode cX11_one 42 = .ok (.dup, 1) := by decide +kernel
theorem dX11_one_43 : decode cX11_one 43 = .ok (.getfield 130, 3) := by decide +kernel
theorem dX11_one_46 : decode cX11_one 46 = .ok (.iconst 1, 1) := by decide +kernel
theorem dX11_one_47 : decode cX11_one 47 = .ok (.iadd, 1) := by decide +kernel
theorem dX11_one_48 : decode cX11_one 48 = .ok (.putfield 130, 3) := by decide +kernel
theorem dX11_one_51 : decode cX11_one 51 = .ok (.aload_n 0, 1) := by decide +kernel
theorem dX11_one_52 : decode cX11_one 52 = .ok (.dup, 1) := by decide +kernel
theorem dX11_one_53 : decode cX11_one 53 = .ok (.getfield 86, 3) := by decide +kernel
theorem dX11_one_56 : decode cX11_one 56 = .ok (.iconst 1, 1) := by decide +kernel
theorem dX11_one_57 : decode cX11_one 57 = .ok (.iadd, 1) := by decide +kernel
theorem dX11_one_58 : decode cX11_one 58 = .ok (.putfield 86, 3) := by decide +kernel
theorem dX11_one_61 : decode cX11_one 61 = .ok (.iload_n 1, 1) := by decide +kernel
theorem dX11_one_62 : decode cX11_one 62 = .ok (.bipush 33, 2) := by decide +kernel
theorem dX11_one_64 : decode cX11_one 64 = .ok (.if_icmp .ne 17, 3) := by decide +kernel
theorem dX11_one_67 : decode cX11_one 67 = .ok (.aload_n 0, 1) := by decide +kernel
theorem dX11_one_68 : decode cX11_one 68 = .ok (.invokevirtual 117, 3) := by decide +kernel
theorem dX11_one_71 : decode cX11_one 71 = .ok (.aload_n 0, 1) := by decide +kernel
theorem dX11_one_72 : decode cX11_one 72 = .ok (.sipush 20010, 3) := by decide +kernel
theorem dX11_one_75 : decode cX11_one 75 = .ok (.invokevirtual 104, 3) := by decide +kernel
theorem dX11_one_78 : decode cX11_one 78 = .ok (.goto 25, 3) := by decide +kernel
theorem dX11_one_81 : decode cX11_one 81 = .ok (.aload_n 0, 1) := by decide +kernel
theorem dX11_one_82 : decode cX11_one 82 = .ok (.invokevirtual 133, 3) := by decide +kernel
theorem dX11_one_85 : decode cX11_one 85 = .ok (.aload_n 0, 1) := by decide +kernel
theorem dX11_one_86 : decode cX11_one 86 = .ok (.aload_n 0, 1) := by decide +kernel
theorem dX11_one_87 : decode cX11_one 87 = .ok (.bipush 41, 2) := by decide +kernel
theorem dX11_one_89 : decode cX11_one 89 = .ok (.invokevirtual 100, 3) := by decide +kernel
theorem dX11_one_92 : decode cX11_one 92 = .ok (.ifCond .ne 7, 3) := by decide +kernel
theorem dX11_one_95 : decode cX11_one 95 = .ok (.iconst 1, 1) := by decide +kernel
theorem dX11_one_96 : decode cX11_one 96 = .ok (.goto 4, 3) := by decide +kernel
theorem dX11_one_99 : decode cX11_one 99 = .ok (.iconst 0, 1) := by decide +kernel
theorem dX11_one_100 : decode cX11_one 100 = .ok (.putfield 82, 3) := by decide +kernel
theorem dX11_one_103 : decode cX11_one 103 = .ok (.aload_n 0, 1) := by decide +kernel
theorem dX11_one_104 : decode cX11_one 104 = .ok (.dup, 1) := by decide +kernel
theorem dX11_one_105 : decode cX11_one 105 = .ok (.getfield 130, 3) := by decide +kernel
theorem dX11_one_108 : decode cX11_one 108 = .ok (.iconst 1, 1) := by decide +kernel
theorem dX11_one_109 : decode cX11_one 109 = .ok (.isub, 1) := by decide +kernel
theorem dX11_one_110 : decode cX11_one 110 = .ok (.putfield 130, 3) := by decide +kernel
theorem dX11_one_113 : decode cX11_one 113 = .ok (.goto 134, 3) := by decide +kernel
theorem dX11_one_116 : decode cX11_one 116 = .ok (.iload_n 1, 1) := by decide +kernel
theorem dX11_one_117 : decode cX11_one 117 = .ok (.bipush 48, 2) := by decide +kernel
theorem dX11_one_119 : decode cX11_one 119 = .ok (.bipush 57, 2) := by decide +kernel
theorem dX11_one_121 : decode cX11_one 121 = .ok (.invokestatic 70, 3) := by decide +kernel
theorem dX11_one_124 : decode cX11_one 124 = .ok (.ifCond .eq 63, 3) := by decide +kernel
theorem dX11_one_127 : decode cX11_one 127 = .ok (.iconst 0, 1) := by decide +kernel
theorem dX11_one_128 : decode cX11_one 128 = .ok (.istore_n 2, 1) := by decide +kernel
theorem dX11_one_129 : decode cX11_one 129 = .ok (.iconst 0, 1) := by decide +kernel
theorem dX11_one_130 : decode cX11_one 130 = .ok (.istore_n 3, 1) := by decide +kernel
theorem dX11_one_131 : decode cX11_one 131 = .ok (.iload_n 3, 1) := by decide +kernel
theorem dX11_one_132 : decode cX11_one 132 = .ok (.iconst 4, 1) := by decide +kernel
theorem dX11_one_133 : decode cX11_one 133 = .ok (.if_icmp .ge 46, 3) := by decide +kernel
theorem dX11_one_136 : decode cX11_one 136 = .ok (.aload_n 0, 1) := by decide +kernel
theorem dX11_one_137 : decode cX11_one 137 = .ok (.invokevirtual 90, 3) := by decide +kernel
theorem dX11_one_140 : decode cX11_one 140 = .ok (.bipush 48, 2) := by decide +kernel
theorem dX11_one_142 : decode cX11_one 142 = .ok (.bipush 57, 2) := by decide +kernel
theorem dX11_one_144 : decode cX11_one 144 = .ok (.invokestatic 70, 3) := by decide +kernel
theorem dX11_one_147 : decode cX11_one 147 = .ok (.ifCond .eq 32, 3) := by decide +kernel
theorem dX11_one_150 : decode cX11_one 150 = .ok (.bipush 10, 2) := by decide +kernel
theorem dX11_one_152 : decode cX11_one 152 = .ok (.iload_n 2, 1) := by decide +kernel
theorem dX11_one_153 : decode cX11_one 153 = .ok (.imul, 1) := by decide +kernel
theorem dX11_one_154 : decode cX11_one 154 = .ok (.aload_n 0, 1) := by decide +kernel
theorem dX11_one_155 : decode cX11_one 155 = .ok (.invokevirtual 90, 3) := by decide +kernel
theorem dX11_one_158 : decode cX11_one 158 = .ok (.iadd, 1) := by decide +kernel
theorem dX11_one_159 : decode cX11_one 159 = .ok (.bipush 48, 2) := by decide +kernel
theorem dX11_one_161 : decode cX11_one 161 = .ok (.isub, 1) := by decide +kernel
theorem dX11_one_162 : decode cX11_one 162 = .ok (.istore_n 2, 1) := by decide +kernel
theorem dX11_one_163 : decode cX11_one 163 = .ok (.aload_n 0, 1) := by decide +kernel
theorem dX11_one_164 : decode cX11_one 164 = .ok (.dup, 1) := by decide +kernel
theorem dX11_one_165 : decode cX11_one 165 = .ok (.getfield 86, 3) := by decide +kernel
theorem dX11_one_168 : decode cX11_one 168 = .ok (.iconst 1, 1) := by decide +kernel
theorem dX11_one_169 : decode cX11_one 169 = .ok (.iadd, 1) := by decide +kernel
theorem dX11_one_170 : decode cX11_one 170 = .ok (.putfield 86, 3) := by decide +kernel
theorem dX11_one_173 : decode cX11_one 173 = .ok (.iinc 3 1, 3) := by decide +kernel
theorem dX11_one_176 : decode cX11_one 176 = .ok (.goto (-45), 3) := by decide +kernel
theorem dX11_one_179 : decode cX11_one 179 = .ok (.aload_n 0, 1) := by decide +kernel
theorem dX11_one_180 : decode cX11_one 180 = .ok (.iload_n 2, 1) := by decide +kernel
theorem dX11_one_181 : decode cX11_one 181 = .ok (.invokevirtual 104, 3) := by decide +kernel
theorem dX11_one_184 : decode cX11_one 184 = .ok (.goto 63, 3) := by decide +kernel
theorem dX11_one_187 : decode cX11_one 187 = .ok (.iload_n 1, 1) := by decide +kernel
theorem dX11_one_188 : decode cX11_one 188 = .ok (.ifCond .ge 7, 3) := by decide +kernel
theorem dX11_one_191 : decode cX11_one 191 = .ok (.iconst (-1), 1) := by decide +kernel
theorem dX11_one_192 : decode cX11_one 192 = .ok (.goto 8, 3) := by decide +kernel
theorem dX11_one_195 : decode cX11_one 195 = .ok (.aload_n 0, 1) := by decide +kernel
theorem dX11_one_196 : decode cX11_one 196 = .ok (.iload_n 1, 1) := by decide +kernel
theorem dX11_one_197 : decode cX11_one 197 = .ok (.invokevirtual 136, 3) := by decide +kernel
theorem dX11_one_200 : decode cX11_one 200 = .ok (.istore_n 2, 1) := by decide +kernel
theorem dX11_one_201 : decode cX11_one 201 = .ok (.aload_n 0, 1) := by decide +kernel
theorem dX11_one_202 : decode cX11_one 202 = .ok (.aload_n 0, 1) := by decide +kernel
theorem dX11_one_203 : decode cX11_one 203 = .ok (.getfield 82, 3) := by decide +kernel
theorem dX11_one_206 : decode cX11_one 206 = .ok (.ifCond .ne 7, 3) := by decide +kernel
theorem dX11_one_209 : decode cX11_one 209 = .ok (.iload_n 2, 1) := by decide +kernel
theorem dX11_one_210 : decode cX11_one 210 = .ok (.ifCond .ge 7, 3) := by decide +kernel
theorem dX11_one_213 : decode cX11_one 213 = .ok (.iconst 1, 1) := by decide +kernel
theorem dX11_one_214 : decode cX11_one 214 = .ok (.goto 4, 3) := by decide +kernel
theorem dX11_one_217 : decode cX11_one 217 = .ok (.iconst 0, 1) := by decide +kernel
theorem dX11_one_218 : decode cX11_one 218 = .ok (.putfield 82, 3) := by decide +kernel
theorem dX11_one_221 : decode cX11_one 221 = .ok (.aload_n 0, 1) := by decide +kernel
theorem dX11_one_222 : decode cX11_one 222 = .ok (.getfield 82, 3) := by decide +kernel
theorem dX11_one_225 : decode cX11_one 225 = .ok (.ifCond .ne 22, 3) := by decide +kernel
theorem dX11_one_228 : decode cX11_one 228 = .ok (.aload_n 0, 1) := by decide +kernel
theorem dX11_one_229 : decode cX11_one 229 = .ok (.sipush 10000, 3) := by decide +kernel
theorem dX11_one_232 : decode cX11_one 232 = .ok (.iload_n 2, 1) := by decide +kernel
theorem dX11_one_233 : decode cX11_one 233 = .ok (.iadd, 1) := by decide +kernel
theorem dX11_one_234 : decode cX11_one 234 = .ok (.invokevirtual 104, 3) := by decide +kernel
theorem dX11_one_237 : decode cX11_one 237 = .ok (.aload_n 0, 1) := by decide +kernel
theorem dX11_one_238 : decode cX11_one 238 = .ok (.dup, 1) := by decide +kernel
theorem dX11_one_239 : decode cX11_one 239 = .ok (.getfield 86, 3) := by decide +kernel
theorem dX11_one_242 : decode cX11_one 242 = .ok (.iconst 1, 1) := by decide +kernel
theorem dX11_one_243 : decode cX11_one 243 = .ok (.iadd, 1) := by decide +kernel
theorem dX11_one_244 : decode cX11_one 244 = .ok (.putfield 86, 3) := by decide +kernel
theorem dX11_one_247 : decode cX11_one 247 = .ok (.return_, 1) := by decide +kernel
theorem dX11_text_0 : decode cX11_text 0 = .ok (.iload_n 1, 1) := by decide +kernel
theorem dX11_text_1 : decode cX11_text 1 = .ok (.iconst 0, 1) := by decide +kernel
theorem dX11_text_2 : decode cX11_text 2 = .ok (.iconst 1, 1) := by decide +kernel
theorem dX11_text_3 : decode cX11_text 3 = .ok (.invokestatic 70, 3) := by decide +kernel
theorem dX11_text_6 : decode cX11_text 6 = .ok (.ifCond .ne 10, 3) := by decide +kernel
theorem dX11_text_9 : decode cX11_text 9 = .ok (.aload_n 0, 1) := by decide +kernel
theorem dX11_text_10 : decode cX11_text 10 = .ok (.ldc 74, 2) := by decide +kernel
theorem dX11_text_12 : decode cX11_text 12 = .ok (.invokevirtual 75, 3) := by decide +kernel
theorem dX11_text_15 : decode cX11_text 15 = .ok (.ireturn, 1) := by decide +kernel
theorem dX11_text_16 : decode cX11_text 16 = .ok (.aload_n 0, 1) := by decide +kernel
theorem dX11_text_17 : decode cX11_text 17 = .ok (.iload_n 1, 1) := by decide +kernel
theorem dX11_text_18 : decode cX11_text 18 = .ok (.putfield 120, 3) := by decide +kernel
theorem dX11_text_21 : decode cX11_text 21 = .ok (.aload_n 0, 1) := by decide +kernel
theorem dX11_text_22 : decode cX11_text 22 = .ok (.iconst 0, 1) := by decide +kernel
theorem dX11_text_23 : decode cX11_text 23 = .ok (.putfield 86, 3) := by decide +kernel
theorem dX11_text_26 : decode cX11_text 26 = .ok (.aload_n 0, 1) := by decide +kernel
theorem dX11_text_27 : decode cX11_text 27 = .ok (.iconst 0, 1) := by decide +kernel
theorem dX11_text_28 : decode cX11_text 28 = .ok (.putfield 130, 3) := by decide +kernel
theorem dX11_text_31 : decode cX11_text 31 = .ok (.aload_n 0, 1) := by decide +kernel
theorem dX11_text_32 : decode cX11_text 32 = .ok (.iconst 0, 1) := by decide +kernel
theorem dX11_text_33 : decode cX11_text 33 = .ok (.putfield 82, 3) := by decide +kernel
theorem dX11_text_36 : decode cX11_text 36 = .ok (.aload_n 0, 1) := by decide +kernel
theorem dX11_text_37 : decode cX11_text 37 = .ok (.iconst 0, 1) := by decide +kernel
theorem dX11_text_38 : decode cX11_text 38 = .ok (.putfield 94, 3) := by decide +kernel
theorem dX11_text_41 : decode cX11_text 41 = .ok (.aload_n 0, 1) := by decide +kernel
theorem dX11_text_42 : decode cX11_text 42 = .ok (.invokevirtual 133, 3) := by decide +kernel
theorem dX11_text_45 : decode cX11_text 45 = .ok (.aload_n 0, 1) := by decide +kernel
theorem dX11_text_46 : decode cX11_text 46 = .ok (.aload_n 0, 1) := by decide +kernel
theorem dX11_text_47 : decode cX11_text 47 = .ok (.getfield 82, 3) := by decide +kernel
theorem dX11_text_50 : decode cX11_text 50 = .ok (.ifCond .ne 17, 3) := by decide +kernel
theorem dX11_text_53 : decode cX11_text 53 = .ok (.aload_n 0, 1) := by decide +kernel
theorem dX11_text_54 : decode cX11_text 54 = .ok (.getfield 86, 3) := by decide +kernel
theorem dX11_text_57 : decode cX11_text 57 = .ok (.aload_n 0, 1) := by decide +kernel
theorem dX11_text_58 : decode cX11_text 58 = .ok (.getfield 9, 3) := by decide +kernel
theorem dX11_text_61 : decode cX11_text 61 = .ok (.bipush 7, 2) := by decide +kernel
theorem dX11_text_63 : decode cX11_text 63 = .ok (.iaload, 1) := by decide +kernel
theorem dX11_text_64 : decode cX11_text 64 = .ok (.if_icmp .ge 7, 3) := by decide +kernel
theorem dX11_text_67 : decode cX11_text 67 = .ok (.iconst 1, 1) := by decide +kernel
theorem dX11_text_68 : decode cX11_text 68 = .ok (.goto 4, 3) := by decide +kernel
theorem dX11_text_71 : decode cX11_text 71 = .ok (.iconst 0, 1) := by decide +kernel
theorem dX11_text_72 : decode cX11_text 72 = .ok (.putfield 82, 3) := by decide +kernel
theorem dX11_text_75 : decode cX11_text 75 = .ok (.aload_n 0, 1) := by decide +kernel
theorem dX11_text_76 : decode cX11_text 76 = .ok (.getfield 9, 3) := by decide +kernel
theorem dX11_text_79 : decode cX11_text 79 = .ok (.bipush 7, 2) := by decide +kernel
theorem dX11_text_81 : decode cX11_text 81 = .ok (.iconst 0, 1) := by decide +kernel
theorem dX11_text_82 : decode cX11_text 82 = .ok (.iastore, 1) := by decide +kernel
theorem dX11_text_83 : decode cX11_text 83 = .ok (.aload_n 0, 1) := by decide +kernel
theorem dX11_text_84 : decode cX11_text 84 = .ok (.getfield 82, 3) := by decide +kernel
theorem dX11_text_87 : decode cX11_text 87 = .ok (.ifCond .eq 11, 3) := by decide +kernel
theorem dX11_text_90 : decode cX11_text 90 = .ok (.bipush (-10), 2) := by decide +kernel
theorem dX11_text_92 : decode cX11_text 92 = .ok (.aload_n 0, 1) := by decide +kernel
theorem dX11_text_93 : decode cX11_text 93 = .ok (.getfield 86, 3) := by decide +kernel
theorem dX11_text_96 : decode cX11_text 96 = .ok (.isub, 1) := by decide +kernel
theorem dX11_text_97 : decode cX11_text 97 = .ok (.ireturn, 1) := by decide +kernel
theorem dX11_text_98 : decode cX11_text 98 = .ok (.aload_n 0, 1) := by decide +kernel
theorem dX11_text_99 : decode cX11_text 99 = .ok (.getfield 9, 3) := by decide +kernel
theorem dX11_text_102 : decode cX11_text 102 = .ok (.sipush 169, 3) := by decide +kernel
theorem dX11_text_105 : decode cX11_text 105 = .ok (.bipush 52, 2) := by decide +kernel
theorem dX11_text_107 : decode cX11_text 107 = .ok (.aload_n 0, 1) := by decide +kernel
theorem dX11_text_108 : decode cX11_text 108 = .ok (.getfield 120, 3) := by decide +kernel
theorem dX11_text_111 : decode cX11_text 111 = .ok (.imul, 1) := by decide +kernel
theorem dX11_text_112 : decode cX11_text 112 = .ok (.iadd, 1) := by decide +kernel
theorem dX11_text_113 : decode cX11_text 113 = .ok (.aload_n 0, 1) := by decide +kernel
theorem dX11_text_114 : decode cX11_text 114 = .ok (.getfield 94, 3) := by decide +kernel
theorem dX11_text_117 : decode cX11_text 117 = .ok (.iastore, 1) := by decide +kernel
theorem dX11_text_118 : decode cX11_text 118 = .ok (.iconst 0, 1) := by decide +kernel
theorem dX11_text_119 : decode cX11_text 119 = .ok (.istore_n 2, 1) := by decide +kernel
theorem dX11_text_120 : decode cX11_text 120 = .ok (.iload_n 2, 1) := by decide +kernel
theorem dX11_text_121 : decode cX11_text 121 = .ok (.aload_n 0, 1) := by decide +kernel
theorem dX11_text_122 : decode cX11_text 122 = .ok (.getfield 94, 3) := by decide +kernel
theorem dX11_text_125 : decode cX11_text 125 = .ok (.if_icmp .ge 35, 3) := by decide +kernel
theorem dX11_text_128 : decode cX11_text 128 = .ok (.aload_n 0, 1) := by decide +kernel
theorem dX11_text_129 : decode cX11_text 129 = .ok (.getfield 9, 3) := by decide +kernel
theorem dX11_text_132 : decode cX11_text 132 = .ok (.sipush 169, 3) := by decide +kernel
theorem dX11_text_135 : decode cX11_text 135 = .ok (.bipush 52, 2) := by decide +kernel
theorem dX11_text_137 : decode cX11_text 137 = .ok (.aload_n 0, 1) := by decide +kernel
theorem dX11_text_138 : decode cX11_text 138 = .ok (.getfield 120, 3) := by decide +kernel
theorem dX11_text_141 : decode cX11_text 141 = .ok (.imul, 1) := by decide +kernel
theorem dX11_text_142 : decode cX11_text 142 = .ok (.iadd, 1) := by decide +kernel
theorem dX11_text_143 : decode cX11_text 143 = .ok (.iconst 1, 1) := by decide +kernel
theorem dX11_text_144 : decode cX11_text 144 = .ok (.iadd, 1) := by decide +kernel
theorem dX11_text_145 : decode cX11_text 145 = .ok (.iload_n 2, 1) := by decide +kernel
theorem dX11_text_146 : decode cX11_text 146 = .ok (.iadd, 1) := by decide +kernel
theorem dX11_text_147 : decode cX11_text 147 = .ok (.aload_n 0, 1) := by decide +kernel
theorem dX11_text_148 : decode cX11_text 148 = .ok (.getfield 32, 3) := by decide +kernel
theorem dX11_text_151 : decode cX11_text 151 = .ok (.iload_n 2, 1) := by decide +kernel
theorem dX11_text_152 : decode cX11_text 152 = .ok (.iaload, 1) := by decide +kernel
theorem dX11_text_153 : decode cX11_text 153 = .ok (.iastore, 1) := by decide +kernel
theorem dX11_text_154 : decode cX11_text 154 = .ok (.iinc 2 1, 3) := by decide +kernel
theorem dX11_text_157 : decode cX11_text 157 = .ok (.goto (-37), 3) := by decide +kernel
theorem dX11_text_160 : decode cX11_text 160 = .ok (.iconst 1, 1) := by decide +kernel
theorem dX11_text_161 : decode cX11_text 161 = .ok (.ireturn, 1) := by decide +kernel
theorem dX11_done_0 : decode cX11_done 0 = .ok (.iload_n 0, 1) := by decide +kernel
theorem dX11_done_1 : decode cX11_done 1 = .ok (.tableswitch 136 20000 20008 #[51, 65, 79, 90, 101, 112, 116, 120, 124], 51) := by decide +kernel
theorem dX11_done_52 : decode cX11_done 52 = .ok (.iload_n 1, 1) := by decide +kernel
theorem dX11_done_53 : decode cX11_done 53 = .ok (.ifCond .ne 7, 3) := by decide +kernel
theorem dX11_done_56 : decode cX11_done 56 = .ok (.iload_n 2, 1) := by decide +kernel
theorem dX11_done_57 : decode cX11_done 57 = .ok (.ifCond .eq 7, 3) := by decide +kernel
theorem dX11_done_60 : decode cX11_done 60 = .ok (.iconst 1, 1) := by decide +kernel
theorem dX11_done_61 : decode cX11_done 61 = .ok (.goto 4, 3) := by decide +kernel
theorem dX11_done_64 : decode cX11_done 64 = .ok (.iconst 0, 1) := by decide +kernel
theorem dX11_done_65 : decode cX11_done 65 = .ok (.ireturn, 1) := by decide +kernel
theorem dX11_done_66 : decode cX11_done 66 = .ok (.iload_n 1, 1) := by decide +kernel
theorem dX11_done_67 : decode cX11_done 67 = .ok (.ifCond .eq 11, 3) := by decide +kernel
theorem dX11_done_70 : decode cX11_done 70 = .ok (.iload_n 2, 1) := by decide +kernel
theorem dX11_done_71 : decode cX11_done 71 = .ok (.ifCond .eq 7, 3) := by decide +kernel
theorem dX11_done_74 : decode cX11_done 74 = .ok (.iconst 1, 1) := by decide +kernel
theorem dX11_done_75 : decode cX11_done 75 = .ok (.goto 4, 3) := by decide +kernel
theorem dX11_done_78 : decode cX11_done 78 = .ok (.iconst 0, 1) := by decide +kernel
theorem dX11_done_79 : decode cX11_done 79 = .ok (.ireturn, 1) := by decide +kernel
theorem dX11_done_80 : decode cX11_done 80 = .ok (.iload_n 1, 1) := by decide +kernel
theorem dX11_done_81 : decode cX11_done 81 = .ok (.iload_n 2, 1) := by decide +kernel
theorem dX11_done_82 : decode cX11_done 82 = .ok (.if_icmp .ge 7, 3) := by decide +kernel
theorem dX11_done_85 : decode cX11_done 85 = .ok (.iconst 1, 1) := by decide +kernel
theorem dX11_done_86 : decode cX11_done 86 = .ok (.goto 4, 3) := by decide +kernel
theorem dX11_done_89 : decode cX11_done 89 = .ok (.iconst 0, 1) := by decide +kernel
theorem dX11_done_90 : decode cX11_done 90 = .ok (.ireturn, 1) := by decide +kernel
theorem dX11_done_91 : decode cX11_done 91 = .ok (.iload_n 1, 1) := by decide +kernel
theorem dX11_done_92 : decode cX11_done 92 = .ok (.iload_n 2, 1) := by decide +kernel
theorem dX11_done_93 : decode cX11_done 93 = .ok (.if_icmp .ne 7, 3) := by decide +kernel
theorem dX11_done_96 : decode cX11_done 96 = .ok (.iconst 1, 1) := by decide +kernel
theorem dX11_done_97 : decode cX11_done 97 = .ok (.goto 4, 3) := by decide +kernel
theorem dX11_done_100 : decode cX11_done 100 = .ok (.iconst 0, 1) := by decide +kernel
theorem dX11_done_101 : decode cX11_done 101 = .ok (.ireturn, 1) := by decide +kernel
theorem dX11_done_102 : decode cX11_done 102 = .ok (.iload_n 1, 1) := by decide +kernel
theorem dX11_done_103 : decode cX11_done 103 = .ok (.iload_n 2, 1) := by decide +kernel
theorem dX11_done_104 : decode cX11_done 104 = .ok (.if_icmp .le 7, 3) := by decide +kernel
theorem dX11_done_107 : decode cX11_done 107 = .ok (.iconst 1, 1) := by decide +kernel
theorem dX11_done_108 : decode cX11_done 108 = .ok (.goto 4, 3) := by decide +kernel
theorem dX11_done_111 : decode cX11_done 111 = .ok (.iconst 0, 1) := by decide +kernel
theorem dX11_done_112 : decode cX11_done 112 = .ok (.ireturn, 1) := by decide +kernel
theorem dX11_done_113 : decode cX11_done 113 = .ok (.iload_n 1, 1) := by decide +kernel
theorem dX11_done_114 : decode cX11_done 114 = .ok (.iload_n 2, 1) := by decide +kernel
theorem dX11_done_115 : decode cX11_done 115 = .ok (.iadd, 1) := by decide +kernel
theorem dX11_done_116 : decode cX11_done 116 = .ok (.ireturn, 1) := by decide +kernel
theorem dX11_done_117 : decode cX11_done 117 = .ok (.iload_n 1, 1) := by decide +kernel
theorem dX11_done_118 : decode cX11_done 118 = .ok (.iload_n 2, 1) := by decide +kernel
theorem dX11_done_119 : decode cX11_done 119 = .ok (.isub, 1) := by decide +kernel
theorem dX11_done_120 : decode cX11_done 120 = .ok (.ireturn, 1) := by decide +kernel
theorem dX11_done_121 : decode cX11_done 121 = .ok (.iload_n 1, 1) := by decide +kernel
theorem dX11_done_122 : decode cX11_done 122 = .ok (.iload_n 2, 1) := by decide +kernel
theorem dX11_done_123 : decode cX11_done 123 = .ok (.imul, 1) := by decide +kernel
theorem dX11_done_124 : decode cX11_done 124 = .ok (.ireturn, 1) := by decide +kernel
theorem dX11_done_125 : decode cX11_done 125 = .ok (.iload_n 2, 1) := by decide +kernel
theorem dX11_done_126 : decode cX11_done 126 = .ok (.ifCond .ne 7, 3) := by decide +kernel
theorem dX11_done_129 : decode cX11_done 129 = .ok (.iconst 0, 1) := by decide +kernel
theorem dX11_done_130 : decode cX11_done 130 = .ok (.goto 6, 3) := by decide +kernel
theorem dX11_done_133 : decode cX11_done 133 = .ok (.iload_n 1, 1) := by decide +kernel
theorem dX11_done_134 : decode cX11_done 134 = .ok (.iload_n 2, 1) := by decide +kernel
theorem dX11_done_135 : decode cX11_done 135 = .ok (.idiv, 1) := by decide +kernel
theorem dX11_done_136 : decode cX11_done 136 = .ok (.ireturn, 1) := by decide +kernel
theorem dX11_done_137 : decode cX11_done 137 = .ok (.iload_n 2, 1) := by decide +kernel
theorem dX11_done_138 : decode cX11_done 138 = .ok (.ifCond .ne 7, 3) := by decide +kernel
theorem dX11_done_141 : decode cX11_done 141 = .ok (.iconst 0, 1) := by decide +kernel
theorem dX11_done_142 : decode cX11_done 142 = .ok (.goto 6, 3) := by decide +kernel
theorem dX11_done_145 : decode cX11_done 145 = .ok (.iload_n 1, 1) := by decide +kernel
theorem dX11_done_146 : decode cX11_done 146 = .ok (.iload_n 2, 1) := by decide +kernel
theorem dX11_done_147 : decode cX11_done 147 = .ok (.irem, 1) := by decide +kernel
theorem dX11_done_148 : decode cX11_done 148 = .ok (.ireturn, 1) := by decide +kernel
theorem dX11_worked_0 : decode cX11_worked 0 = .ok (.iconst 0, 1) := by decide +kernel
theorem dX11_worked_1 : decode cX11_worked 1 = .ok (.istore_n 2, 1) := by decide +kernel
theorem dX11_worked_2 : decode cX11_worked 2 = .ok (.iload_n 1, 1) := by decide +kernel
theorem dX11_worked_3 : decode cX11_worked 3 = .ok (.istore_n 3, 1) := by decide +kernel
theorem dX11_worked_4 : decode cX11_worked 4 = .ok (.iload_n 3, 1) := by decide +kernel
theorem dX11_worked_5 : decode cX11_worked 5 = .ok (.iload_n 1, 1) := by decide +kernel
theorem dX11_worked_6 : decode cX11_worked 6 = .ok (.aload_n 0, 1) := by decide +kernel
theorem dX11_worked_7 : decode cX11_worked 7 = .ok (.getfield 9, 3) := by decide +kernel
theorem dX11_worked_10 : decode cX11_worked 10 = .ok (.iload_n 1, 1) := by decide +kernel
theorem dX11_worked_11 : decode cX11_worked 11 = .ok (.iconst 1, 1) := by decide +kernel
theorem dX11_worked_12 : decode cX11_worked 12 = .ok (.isub, 1) := by decide +kernel
theorem dX11_worked_13 : decode cX11_worked 13 = .ok (.iaload, 1) := by decide +kernel
theorem dX11_worked_14 : decode cX11_worked 14 = .ok (.iadd, 1) := by decide +kernel
theorem dX11_worked_15 : decode cX11_worked 15 = .ok (.if_icmp .ge 126, 3) := by decide +kernel
theorem dX11_worked_18 : decode cX11_worked 18 = .ok (.aload_n 0, 1) := by decide +kernel
theorem dX11_worked_19 : decode cX11_worked 19 = .ok (.getfield 9, 3) := by decide +kernel
theorem dX11_worked_22 : decode cX11_worked 22 = .ok (.iload_n 3, 1) := by decide +kernel
theorem dX11_worked_23 : decode cX11_worked 23 = .ok (.iaload, 1) := by decide +kernel
theorem dX11_worked_24 : decode cX11_worked 24 = .ok (.istore 4, 2) := by decide +kernel
theorem dX11_worked_26 : decode cX11_worked 26 = .ok (.iload 4, 2) := by decide +kernel
theorem dX11_worked_28 : decode cX11_worked 28 = .ok (.sipush 20000, 3) := by decide +kernel
theorem dX11_worked_31 : decode cX11_worked 31 = .ok (.if_icmp .ge 39, 3) := by decide +kernel
theorem dX11_worked_34 : decode cX11_worked 34 = .ok (.aload_n 0, 1) := by decide +kernel
theorem dX11_worked_35 : decode cX11_worked 35 = .ok (.getfield 38, 3) := by decide +kernel
theorem dX11_worked_38 : decode cX11_worked 38 = .ok (.iload_n 2, 1) := by decide +kernel
theorem dX11_worked_39 : decode cX11_worked 39 = .ok (.iload 4, 2) := by decide +kernel
theorem dX11_worked_41 : decode cX11_worked 41 = .ok (.sipush 10000, 3) := by decide +kernel
theorem dX11_worked_44 : decode cX11_worked 44 = .ok (.if_icmp .ge 8, 3) := by decide +kernel
theorem dX11_worked_47 : decode cX11_worked 47 = .ok (.iload 4, 2) := by decide +kernel
theorem dX11_worked_49 : decode cX11_worked 49 = .ok (.goto 14, 3) := by decide +kernel
theorem dX11_worked_52 : decode cX11_worked 52 = .ok (.aload_n 0, 1) := by decide +kernel
theorem dX11_worked_53 : decode cX11_worked 53 = .ok (.getfield 35, 3) := by decide +kernel
theorem dX11_worked_56 : decode cX11_worked 56 = .ok (.iload 4, 2) := by decide +kernel
theorem dX11_worked_58 : decode cX11_worked 58 = .ok (.sipush 10000, 3) := by decide +kernel
theorem dX11_worked_61 : decode cX11_worked 61 = .ok (.isub, 1) := by decide +kernel
theorem dX11_worked_62 : decode cX11_worked 62 = .ok (.iaload, 1) := by decide +kernel
theorem dX11_worked_63 : decode cX11_worked 63 = .ok (.iastore, 1) := by decide +kernel
theorem dX11_worked_64 : decode cX11_worked 64 = .ok (.iinc 2 1, 3) := by decide +kernel
theorem dX11_worked_67 : decode cX11_worked 67 = .ok (.goto 68, 3) := by decide +kernel
theorem dX11_worked_70 : decode cX11_worked 70 = .ok (.iload 4, 2) := by decide +kernel
theorem dX11_worked_72 : decode cX11_worked 72 = .ok (.sipush 20010, 3) := by decide +kernel
theorem dX11_worked_75 : decode cX11_worked 75 = .ok (.if_icmp .ne 30, 3) := by decide +kernel
theorem dX11_worked_78 : decode cX11_worked 78 = .ok (.aload_n 0, 1) := by decide +kernel
theorem dX11_worked_79 : decode cX11_worked 79 = .ok (.getfield 38, 3) := by decide +kernel
theorem dX11_worked_82 : decode cX11_worked 82 = .ok (.iload_n 2, 1) := by decide +kernel
theorem dX11_worked_83 : decode cX11_worked 83 = .ok (.iconst 1, 1) := by decide +kernel
theorem dX11_worked_84 : decode cX11_worked 84 = .ok (.isub, 1) := by decide +kernel
theorem dX11_worked_85 : decode cX11_worked 85 = .ok (.aload_n 0, 1) := by decide +kernel
theorem dX11_worked_86 : decode cX11_worked 86 = .ok (.getfield 38, 3) := by decide +kernel
theorem dX11_worked_89 : decode cX11_worked 89 = .ok (.iload_n 2, 1) := by decide +kernel
theorem dX11_worked_90 : decode cX11_worked 90 = .ok (.iconst 1, 1) := by decide +kernel
theorem dX11_worked_91 : decode cX11_worked 91 = .ok (.isub, 1) := by decide +kernel
theorem dX11_worked_92 : decode cX11_worked 92 = .ok (.iaload, 1) := by decide +kernel
theorem dX11_worked_93 : decode cX11_worked 93 = .ok (.ifCond .ne 7, 3) := by decide +kernel
theorem dX11_worked_96 : decode cX11_worked 96 = .ok (.iconst 1, 1) := by decide +kernel
theorem dX11_worked_97 : decode cX11_worked 97 = .ok (.goto 4, 3) := by decide +kernel
theorem dX11_worked_100 : decode cX11_worked 100 = .ok (.iconst 0, 1) := by decide +kernel
theorem dX11_worked_101 : decode cX11_worked 101 = .ok (.iastore, 1) := by decide +kernel
theorem dX11_worked_102 : decode cX11_worked 102 = .ok (.goto 33, 3) := by decide +kernel
theorem dX11_worked_105 : decode cX11_worked 105 = .ok (.iinc 2 (-1), 3) := by decide +kernel
theorem dX11_worked_108 : decode cX11_worked 108 = .ok (.aload_n 0, 1) := by decide +kernel
theorem dX11_worked_109 : decode cX11_worked 109 = .ok (.getfield 38, 3) := by decide +kernel
theorem dX11_worked_112 : decode cX11_worked 112 = .ok (.iload_n 2, 1) := by decide +kernel
theorem dX11_worked_113 : decode cX11_worked 113 = .ok (.iconst 1, 1) := by decide +kernel
theorem dX11_worked_114 : decode cX11_worked 114 = .ok (.isub, 1) := by decide +kernel
theorem dX11_worked_115 : decode cX11_worked 115 = .ok (.iload 4, 2) := by decide +kernel
theorem dX11_worked_117 : decode cX11_worked 117 = .ok (.aload_n 0, 1) := by decide +kernel
theorem dX11_worked_118 : decode cX11_worked 118 = .ok (.getfield 38, 3) := by decide +kernel
theorem dX11_worked_121 : decode cX11_worked 121 = .ok (.iload_n 2, 1) := by decide +kernel
theorem dX11_worked_122 : decode cX11_worked 122 = .ok (.iconst 1, 1) := by decide +kernel
theorem dX11_worked_123 : decode cX11_worked 123 = .ok (.isub, 1) := by decide +kernel
theorem dX11_worked_124 : decode cX11_worked 124 = .ok (.iaload, 1) := by decide +kernel
theorem dX11_worked_125 : decode cX11_worked 125 = .ok (.aload_n 0, 1) := by decide +kernel
theorem dX11_worked_126 : decode cX11_worked 126 = .ok (.getfield 38, 3) := by decide +kernel
theorem dX11_worked_129 : decode cX11_worked 129 = .ok (.iload_n 2, 1) := by decide +kernel
theorem dX11_worked_130 : decode cX11_worked 130 = .ok (.iaload, 1) := by decide +kernel
theorem dX11_worked_131 : decode cX11_worked 131 = .ok (.invokestatic 139, 3) := by decide +kernel
theorem dX11_worked_134 : decode cX11_worked 134 = .ok (.iastore, 1) := by decide +kernel
theorem dX11_worked_135 : decode cX11_worked 135 = .ok (.iinc 3 1, 3) := by decide +kernel
theorem dX11_worked_138 : decode cX11_worked 138 = .ok (.goto (-134), 3) := by decide +kernel
theorem dX11_worked_141 : decode cX11_worked 141 = .ok (.aload_n 0, 1) := by decide +kernel
theorem dX11_worked_142 : decode cX11_worked 142 = .ok (.getfield 38, 3) := by decide +kernel
theorem dX11_worked_145 : decode cX11_worked 145 = .ok (.iconst 0, 1) := by decide +kernel
theorem dX11_worked_146 : decode cX11_worked 146 = .ok (.iaload, 1) := by decide +kernel
theorem dX11_worked_147 : decode cX11_worked 147 = .ok (.ireturn, 1) := by decide +kernel
theorem dX11_hasText_0 : decode cX11_hasText 0 = .ok (.aload_n 0, 1) := by decide +kernel
theorem dX11_hasText_1 : decode cX11_hasText 1 = .ok (.getfield 9, 3) := by decide +kernel
theorem dX11_hasText_4 : decode cX11_hasText 4 = .ok (.sipush 169, 3) := by decide +kernel
theorem dX11_hasText_7 : decode cX11_hasText 7 = .ok (.bipush 52, 2) := by decide +kernel
theorem dX11_hasText_9 : decode cX11_hasText 9 = .ok (.iload_n 1, 1) := by decide +kernel
theorem dX11_hasText_10 : decode cX11_hasText 10 = .ok (.imul, 1) := by decide +kernel
theorem dX11_hasText_11 : decode cX11_hasText 11 = .ok (.iadd, 1) := by decide +kernel
theorem dX11_hasText_12 : decode cX11_hasText 12 = .ok (.iaload, 1) := by decide +kernel
theorem dX11_hasText_13 : decode cX11_hasText 13 = .ok (.ifCond .le 7, 3) := by decide +kernel
theorem dX11_hasText_16 : decode cX11_hasText 16 = .ok (.iconst 1, 1) := by decide +kernel
theorem dX11_hasText_17 : decode cX11_hasText 17 = .ok (.goto 4, 3) := by decide +kernel
theorem dX11_hasText_20 : decode cX11_hasText 20 = .ok (.iconst 0, 1) := by decide +kernel
theorem dX11_hasText_21 : decode cX11_hasText 21 = .ok (.ireturn, 1) := by decide +kernel
theorem dX11_given_0 : decode cX11_given 0 = .ok (.aload_n 0, 1) := by decide +kernel
theorem dX11_given_1 : decode cX11_given 1 = .ok (.getfield 35, 3) := by decide +kernel
theorem dX11_given_4 : decode cX11_given 4 = .ok (.iconst 0, 1) := by decide +kernel
theorem dX11_given_5 : decode cX11_given 5 = .ok (.iload_n 2, 1) := by decide +kernel
theorem dX11_given_6 : decode cX11_given 6 = .ok (.iastore, 1) := by decide +kernel
theorem dX11_given_7 : decode cX11_given 7 = .ok (.aload_n 0, 1) := by decide +kernel
theorem dX11_given_8 : decode cX11_given 8 = .ok (.getfield 35, 3) := by decide +kernel
theorem dX11_given_11 : decode cX11_given 11 = .ok (.iconst 1, 1) := by decide +kernel
theorem dX11_given_12 : decode cX11_given 12 = .ok (.iload_n 3, 1) := by decide +kernel
theorem dX11_given_13 : decode cX11_given 13 = .ok (.iastore, 1) := by decide +kernel
theorem dX11_given_14 : decode cX11_given 14 = .ok (.aload_n 0, 1) := by decide +kernel
theorem dX11_given_15 : decode cX11_given 15 = .ok (.getfield 35, 3) := by decide +kernel
theorem dX11_given_18 : decode cX11_given 18 = .ok (.iconst 2, 1) := by decide +kernel
theorem dX11_given_19 : decode cX11_given 19 = .ok (.iload 4, 2) := by decide +kernel
theorem dX11_given_21 : decode cX11_given 21 = .ok (.iastore, 1) := by decide +kernel
theorem dX11_given_22 : decode cX11_given 22 = .ok (.iload_n 1, 1) := by decide +kernel
theorem dX11_given_23 : decode cX11_given 23 = .ok (.ifCond .ne 12, 3) := by decide +kernel
theorem dX11_given_26 : decode cX11_given 26 = .ok (.iconst 1, 1) := by decide +kernel
theorem dX11_given_27 : decode cX11_given 27 = .ok (.iload 4, 2) := by decide +kernel
theorem dX11_given_29 : decode cX11_given 29 = .ok (.iconst 2, 1) := by decide +kernel
theorem dX11_given_30 : decode cX11_given 30 = .ok (.idiv, 1) := by decide +kernel
theorem dX11_given_31 : decode cX11_given 31 = .ok (.iadd, 1) := by decide +kernel
theorem dX11_given_32 : decode cX11_given 32 = .ok (.goto 4, 3) := by decide +kernel
theorem dX11_given_35 : decode cX11_given 35 = .ok (.iconst 1, 1) := by decide +kernel
theorem dX11_given_36 : decode cX11_given 36 = .ok (.istore 5, 2) := by decide +kernel
theorem dX11_given_38 : decode cX11_given 38 = .ok (.aload_n 0, 1) := by decide +kernel
theorem dX11_given_39 : decode cX11_given 39 = .ok (.iload_n 1, 1) := by decide +kernel
theorem dX11_given_40 : decode cX11_given 40 = .ok (.invokevirtual 143, 3) := by decide +kernel
theorem dX11_given_43 : decode cX11_given 43 = .ok (.ifCond .eq 20, 3) := by decide +kernel
theorem dX11_given_46 : decode cX11_given 46 = .ok (.aload_n 0, 1) := by decide +kernel
theorem dX11_given_47 : decode cX11_given 47 = .ok (.sipush 169, 3) := by decide +kernel
theorem dX11_given_50 : decode cX11_given 50 = .ok (.bipush 52, 2) := by decide +kernel
theorem dX11_given_52 : decode cX11_given 52 = .ok (.iload_n 1, 1) := by decide +kernel
theorem dX11_given_53 : decode cX11_given 53 = .ok (.imul, 1) := by decide +kernel
theorem dX11_given_54 : decode cX11_given 54 = .ok (.iadd, 1) := by decide +kernel
theorem dX11_given_55 : decode cX11_given 55 = .ok (.iconst 1, 1) := by decide +kernel
theorem dX11_given_56 : decode cX11_given 56 = .ok (.iadd, 1) := by decide +kernel
theorem dX11_given_57 : decode cX11_given 57 = .ok (.invokevirtual 146, 3) := by decide +kernel
theorem dX11_given_60 : decode cX11_given 60 = .ok (.goto 5, 3) := by decide +kernel
theorem dX11_given_63 : decode cX11_given 63 = .ok (.iload 5, 2) := by decide +kernel
theorem dX11_given_65 : decode cX11_given 65 = .ok (.iconst 0, 1) := by decide +kernel
theorem dX11_given_66 : decode cX11_given 66 = .ok (.iload_n 1, 1) := by decide +kernel
theorem dX11_given_67 : decode cX11_given 67 = .ok (.ifCond .ne 8, 3) := by decide +kernel
theorem dX11_given_70 : decode cX11_given 70 = .ok (.bipush 99, 2) := by decide +kernel
theorem dX11_given_72 : decode cX11_given 72 = .ok (.goto 4, 3) := by decide +kernel
theorem dX11_given_75 : decode cX11_given 75 = .ok (.iconst 1, 1) := by decide +kernel
theorem dX11_given_76 : decode cX11_given 76 = .ok (.invokestatic 149, 3) := by decide +kernel
theorem dX11_given_79 : decode cX11_given 79 = .ok (.ireturn, 1) := by decide +kernel
theorem dX11_law_0 : decode cX11_law 0 = .ok (.iload_n 1, 1) := by decide +kernel
theorem dX11_law_1 : decode cX11_law 1 = .ok (.iconst 0, 1) := by decide +kernel
theorem dX11_law_2 : decode cX11_law 2 = .ok (.iconst 1, 1) := by decide +kernel
theorem dX11_law_3 : decode cX11_law 3 = .ok (.invokestatic 70, 3) := by decide +kernel
theorem dX11_law_6 : decode cX11_law 6 = .ok (.ifCond .eq 15, 3) := by decide +kernel
theorem dX11_law_9 : decode cX11_law 9 = .ok (.aload_n 0, 1) := by decide +kernel
theorem dX11_law_10 : decode cX11_law 10 = .ok (.iload_n 1, 1) := by decide +kernel
theorem dX11_law_11 : decode cX11_law 11 = .ok (.iload_n 2, 1) := by decide +kernel
theorem dX11_law_12 : decode cX11_law 12 = .ok (.iload_n 3, 1) := by decide +kernel
theorem dX11_law_13 : decode cX11_law 13 = .ok (.iload 4, 2) := by decide +kernel
theorem dX11_law_15 : decode cX11_law 15 = .ok (.invokevirtual 152, 3) := by decide +kernel
theorem dX11_law_18 : decode cX11_law 18 = .ok (.goto 9, 3) := by decide +kernel
theorem dX11_law_21 : decode cX11_law 21 = .ok (.aload_n 0, 1) := by decide +kernel
theorem dX11_law_22 : decode cX11_law 22 = .ok (.ldc 74, 2) := by decide +kernel
theorem dX11_law_24 : decode cX11_law 24 = .ok (.invokevirtual 75, 3) := by decide +kernel
theorem dX11_law_27 : decode cX11_law 27 = .ok (.ireturn, 1) := by decide +kernel
theorem dX11_hasBit_0 : decode cX11_hasBit 0 = .ok (.iload_n 0, 1) := by decide +kernel
theorem dX11_hasBit_1 : decode cX11_hasBit 1 = .ok (.iload_n 1, 1) := by decide +kernel
theorem dX11_hasBit_2 : decode cX11_hasBit 2 = .ok (.ishr, 1) := by decide +kernel
theorem dX11_hasBit_3 : decode cX11_hasBit 3 = .ok (.iconst 1, 1) := by decide +kernel
theorem dX11_hasBit_4 : decode cX11_hasBit 4 = .ok (.iand, 1) := by decide +kernel
theorem dX11_hasBit_5 : decode cX11_hasBit 5 = .ok (.iconst 1, 1) := by decide +kernel
theorem dX11_hasBit_6 : decode cX11_hasBit 6 = .ok (.if_icmp .ne 7, 3) := by decide +kernel
theorem dX11_hasBit_9 : decode cX11_hasBit 9 = .ok (.iconst 1, 1) := by decide +kernel
theorem dX11_hasBit_10 : decode cX11_hasBit 10 = .ok (.goto 4, 3) := by decide +kernel
theorem dX11_hasBit_13 : decode cX11_hasBit 13 = .ok (.iconst 0, 1) := by decide +kernel
theorem dX11_hasBit_14 : decode cX11_hasBit 14 = .ok (.ireturn, 1) := by decide +kernel
theorem dX11_bits_0 : decode cX11_bits 0 = .ok (.iconst 0, 1) := by decide +kernel
theorem dX11_bits_1 : decode cX11_bits 1 = .ok (.istore_n 1, 1) := by decide +kernel
theorem dX11_bits_2 : decode cX11_bits 2 = .ok (.iload_n 0, 1) := by decide +kernel
theorem dX11_bits_3 : decode cX11_bits 3 = .ok (.istore_n 2, 1) := by decide +kernel
theorem dX11_bits_4 : decode cX11_bits 4 = .ok (.iload_n 2, 1) := by decide +kernel
theorem dX11_bits_5 : decode cX11_bits 5 = .ok (.ifCond .eq 15, 3) := by decide +kernel
theorem dX11_bits_8 : decode cX11_bits 8 = .ok (.iinc 1 1, 3) := by decide +kernel
theorem dX11_bits_11 : decode cX11_bits 11 = .ok (.iload_n 2, 1) := by decide +kernel
theorem dX11_bits_12 : decode cX11_bits 12 = .ok (.iload_n 2, 1) := by decide +kernel
theorem dX11_bits_13 : decode cX11_bits 13 = .ok (.iconst 1, 1) := by decide +kernel
theorem dX11_bits_14 : decode cX11_bits 14 = .ok (.isub, 1) := by decide +kernel
theorem dX11_bits_15 : decode cX11_bits 15 = .ok (.iand, 1) := by decide +kernel
theorem dX11_bits_16 : decode cX11_bits 16 = .ok (.istore_n 2, 1) := by decide +kernel
theorem dX11_bits_17 : decode cX11_bits 17 = .ok (.goto (-13), 3) := by decide +kernel
theorem dX11_bits_20 : decode cX11_bits 20 = .ok (.iload_n 1, 1) := by decide +kernel
theorem dX11_bits_21 : decode cX11_bits 21 = .ok (.ireturn, 1) := by decide +kernel
theorem dX11_isWell_0 : decode cX11_isWell 0 = .ok (.iload_n 1, 1) := by decide +kernel
theorem dX11_isWell_1 : decode cX11_isWell 1 = .ok (.iconst 0, 1) := by decide +kernel
theorem dX11_isWell_2 : decode cX11_isWell 2 = .ok (.aload_n 0, 1) := by decide +kernel
theorem dX11_isWell_3 : decode cX11_isWell 3 = .ok (.getfield 9, 3) := by decide +kernel
theorem dX11_isWell_6 : decode cX11_isWell 6 = .ok (.iconst 1, 1) := by decide +kernel
theorem dX11_isWell_7 : decode cX11_isWell 7 = .ok (.iaload, 1) := by decide +kernel
theorem dX11_isWell_8 : decode cX11_isWell 8 = .ok (.iconst 1, 1) := by decide +kernel
theorem dX11_isWell_9 : decode cX11_isWell 9 = .ok (.isub, 1) := by decide +kernel
theorem dX11_isWell_10 : decode cX11_isWell 10 = .ok (.invokestatic 70, 3) := by decide +kernel
theorem dX11_isWell_13 : decode cX11_isWell 13 = .ok (.ireturn, 1) := by decide +kernel
theorem dX11_isWay_0 : decode cX11_isWay 0 = .ok (.iload_n 1, 1) := by decide +kernel
theorem dX11_isWay_1 : decode cX11_isWay 1 = .ok (.iconst 0, 1) := by decide +kernel
theorem dX11_isWay_2 : decode cX11_isWay 2 = .ok (.aload_n 0, 1) := by decide +kernel
theorem dX11_isWay_3 : decode cX11_isWay 3 = .ok (.getfield 9, 3) := by decide +kernel
theorem dX11_isWay_6 : decode cX11_isWay 6 = .ok (.iconst 2, 1) := by decide +kernel
theorem dX11_isWay_7 : decode cX11_isWay 7 = .ok (.iaload, 1) := by decide +kernel
theorem dX11_isWay_8 : decode cX11_isWay 8 = .ok (.iconst 1, 1) := by decide +kernel
theorem dX11_isWay_9 : decode cX11_isWay 9 = .ok (.isub, 1) := by decide +kernel
theorem dX11_isWay_10 : decode cX11_isWay 10 = .ok (.invokestatic 70, 3) := by decide +kernel
theorem dX11_isWay_13 : decode cX11_isWay 13 = .ok (.ireturn, 1) := by decide +kernel
theorem dX11_isSaying_0 : decode cX11_isSaying 0 = .ok (.iload_n 1, 1) := by decide +kernel
theorem dX11_isSaying_1 : decode cX11_isSaying 1 = .ok (.iconst 0, 1) := by decide +kernel
theorem dX11_isSaying_2 : decode cX11_isSaying 2 = .ok (.aload_n 0, 1) := by decide +kernel
theorem dX11_isSaying_3 : decode cX11_isSaying 3 = .ok (.getfield 9, 3) := by decide +kernel
theorem dX11_isSaying_6 : decode cX11_isSaying 6 = .ok (.iconst 3, 1) := by decide +kernel
theorem dX11_isSaying_7 : decode cX11_isSaying 7 = .ok (.iaload, 1) := by decide +kernel
theorem dX11_isSaying_8 : decode cX11_isSaying 8 = .ok (.iconst 1, 1) := by decide +kernel
theorem dX11_isSaying_9 : decode cX11_isSaying 9 = .ok (.isub, 1) := by decide +kernel
theorem dX11_isSaying_10 : decode cX11_isSaying 10 = .ok (.invokestatic 70, 3) := by decide +kernel
theorem dX11_isSaying_13 : decode cX11_isSaying 13 = .ok (.ireturn, 1) := by decide +kernel
theorem dX11_isOne_0 : decode cX11_isOne 0 = .ok (.iload_n 1, 1) := by decide +kernel
theorem dX11_isOne_1 : decode cX11_isOne 1 = .ok (.iconst 0, 1) := by decide +kernel
theorem dX11_isOne_2 : decode cX11_isOne 2 = .ok (.aload_n 0, 1) := by decide +kernel
theorem dX11_isOne_3 : decode cX11_isOne 3 = .ok (.getfield 9, 3) := by decide +kernel
theorem dX11_isOne_6 : decode cX11_isOne 6 = .ok (.iconst 4, 1) := by decide +kernel
theorem dX11_isOne_7 : decode cX11_isOne 7 = .ok (.iaload, 1) := by decide +kernel
theorem dX11_isOne_8 : decode cX11_isOne 8 = .ok (.iconst 1, 1) := by decide +kernel
theorem dX11_isOne_9 : decode cX11_isOne 9 = .ok (.isub, 1) := by decide +kernel
theorem dX11_isOne_10 : decode cX11_isOne 10 = .ok (.invokestatic 70, 3) := by decide +kernel
theorem dX11_isOne_13 : decode cX11_isOne 13 = .ok (.ireturn, 1) := by decide +kernel
theorem dX11_isStrength_0 : decode cX11_isStrength 0 = .ok (.iload_n 0, 1) := by decide +kernel
theorem dX11_isStrength_1 : decode cX11_isStrength 1 = .ok (.iconst 0, 1) := by decide +kernel
theorem dX11_isStrength_2 : decode cX11_isStrength 2 = .ok (.bipush 99, 2) := by decide +kernel
theorem dX11_isStrength_4 : decode cX11_isStrength 4 = .ok (.invokestatic 70, 3) := by decide +kernel
theorem dX11_isStrength_7 : decode cX11_isStrength 7 = .ok (.ireturn, 1) := by decide +kernel
theorem dX11_wayAt_0 : decode cX11_wayAt 0 = .ok (.bipush 9, 2) := by decide +kernel
theorem dX11_wayAt_2 : decode cX11_wayAt 2 = .ok (.iconst 4, 1) := by decide +kernel
theorem dX11_wayAt_3 : decode cX11_wayAt 3 = .ok (.iload_n 0, 1) := by decide +kernel
theorem dX11_wayAt_4 : decode cX11_wayAt 4 = .ok (.imul, 1) := by decide +kernel
theorem dX11_wayAt_5 : decode cX11_wayAt 5 = .ok (.iadd, 1) := by decide +kernel
theorem dX11_wayAt_6 : decode cX11_wayAt 6 = .ok (.iload_n 1, 1) := by decide +kernel
theorem dX11_wayAt_7 : decode cX11_wayAt 7 = .ok (.iadd, 1) := by decide +kernel
theorem dX11_wayAt_8 : decode cX11_wayAt 8 = .ok (.ireturn, 1) := by decide +kernel
theorem dX11_wayIs_0 : decode cX11_wayIs 0 = .ok (.aload_n 0, 1) := by decide +kernel
theorem dX11_wayIs_1 : decode cX11_wayIs 1 = .ok (.getfield 9, 3) := by decide +kernel
theorem dX11_wayIs_4 : decode cX11_wayIs 4 = .ok (.iload_n 1, 1) := by decide +kernel
theorem dX11_wayIs_5 : decode cX11_wayIs 5 = .ok (.iload_n 2, 1) := by decide +kernel
theorem dX11_wayIs_6 : decode cX11_wayIs 6 = .ok (.invokestatic 156, 3) := by decide +kernel
theorem dX11_wayIs_9 : decode cX11_wayIs 9 = .ok (.iaload, 1) := by decide +kernel
theorem dX11_wayIs_10 : decode cX11_wayIs 10 = .ok (.ireturn, 1) := by decide +kernel
theorem dX11_sayingAt_0 : decode cX11_sayingAt 0 = .ok (.bipush 41, 2) := by decide +kernel
theorem dX11_sayingAt_2 : decode cX11_sayingAt 2 = .ok (.iconst 5, 1) := by decide +kernel
theorem dX11_sayingAt_3 : decode cX11_sayingAt 3 = .ok (.iload_n 0, 1) := by decide +kernel
theorem dX11_sayingAt_4 : decode cX11_sayingAt 4 = .ok (.imul, 1) := by decide +kernel
theorem dX11_sayingAt_5 : decode cX11_sayingAt 5 = .ok (.iadd, 1) := by decide +kernel
theorem dX11_sayingAt_6 : decode cX11_sayingAt 6 = .ok (.iload_n 1, 1) := by decide +kernel
theorem dX11_sayingAt_7 : decode cX11_sayingAt 7 = .ok (.iadd, 1) := by decide +kernel
theorem dX11_sayingAt_8 : decode cX11_sayingAt 8 = .ok (.ireturn, 1) := by decide +kernel
theorem dX11_sayingIs_0 : decode cX11_sayingIs 0 = .ok (.aload_n 0, 1) := by decide +kernel
theorem dX11_sayingIs_1 : decode cX11_sayingIs 1 = .ok (.getfield 9, 3) := by decide +kernel
theorem dX11_sayingIs_4 : decode cX11_sayingIs 4 = .ok (.iload_n 1, 1) := by decide +kernel
theorem dX11_sayingIs_5 : decode cX11_sayingIs 5 = .ok (.iload_n 2, 1) := by decide +kernel
theorem dX11_sayingIs_6 : decode cX11_sayingIs 6 = .ok (.invokestatic 159, 3) := by decide +kernel
theorem dX11_sayingIs_9 : decode cX11_sayingIs 9 = .ok (.iaload, 1) := by decide +kernel
theorem dX11_sayingIs_10 : decode cX11_sayingIs 10 = .ok (.ireturn, 1) := by decide +kernel
theorem dX11_folkAt_0 : decode cX11_folkAt 0 = .ok (.bipush 81, 2) := by decide +kernel
theorem dX11_folkAt_2 : decode cX11_folkAt 2 = .ok (.iconst 3, 1) := by decide +kernel
theorem dX11_folkAt_3 : decode cX11_folkAt 3 = .ok (.iload_n 0, 1) := by decide +kernel
theorem dX11_folkAt_4 : decode cX11_folkAt 4 = .ok (.imul, 1) := by decide +kernel
theorem dX11_folkAt_5 : decode cX11_folkAt 5 = .ok (.iadd, 1) := by decide +kernel
theorem dX11_folkAt_6 : decode cX11_folkAt 6 = .ok (.iload_n 1, 1) := by decide +kernel
theorem dX11_folkAt_7 : decode cX11_folkAt 7 = .ok (.iadd, 1) := by decide +kernel
theorem dX11_folkAt_8 : decode cX11_folkAt 8 = .ok (.ireturn, 1) := by decide +kernel
theorem dX11_folkIs_0 : decode cX11_folkIs 0 = .ok (.aload_n 0, 1) := by decide +kernel
theorem dX11_folkIs_1 : decode cX11_folkIs 1 = .ok (.getfield 9, 3) := by decide +kernel
theorem dX11_folkIs_4 : decode cX11_folkIs 4 = .ok (.iload_n 1, 1) := by decide +kernel
theorem dX11_folkIs_5 : decode cX11_folkIs 5 = .ok (.iload_n 2, 1) := by decide +kernel
theorem dX11_folkIs_6 : decode cX11_folkIs 6 = .ok (.invokestatic 162, 3) := by decide +kernel
theorem dX11_folkIs_9 : decode cX11_folkIs 9 = .ok (.iaload, 1) := by decide +kernel
theorem dX11_folkIs_10 : decode cX11_folkIs 10 = .ok (.ireturn, 1) := by decide +kernel
theorem dX11_wells_0 : decode cX11_wells 0 = .ok (.iload_n 1, 1) := by decide +kernel
theorem dX11_wells_1 : decode cX11_wells 1 = .ok (.iconst 2, 1) := by decide +kernel
theorem dX11_wells_2 : decode cX11_wells 2 = .ok (.bipush 8, 2) := by decide +kernel
theorem dX11_wells_4 : decode cX11_wells 4 = .ok (.invokestatic 70, 3) := by decide +kernel
theorem dX11_wells_7 : decode cX11_wells 7 = .ok (.ifCond .ne 10, 3) := by decide +kernel
theorem dX11_wells_10 : decode cX11_wells 10 = .ok (.aload_n 0, 1) := by decide +kernel
theorem dX11_wells_11 : decode cX11_wells 11 = .ok (.ldc 74, 2) := by decide +kernel
theorem dX11_wells_13 : decode cX11_wells 13 = .ok (.invokevirtual 75, 3) := by decide +kernel
theorem dX11_wells_16 : decode cX11_wells 16 = .ok (.ireturn, 1) := by decide +kernel
theorem dX11_wells_17 : decode cX11_wells 17 = .ok (.aload_n 0, 1) := by decide +kernel
theorem dX11_wells_18 : decode cX11_wells 18 = .ok (.getfield 9, 3) := by decide +kernel
theorem dX11_wells_21 : decode cX11_wells 21 = .ok (.iconst 2, 1) := by decide +kernel
theorem dX11_wells_22 : decode cX11_wells 22 = .ok (.iaload, 1) := by decide +kernel
theorem dX11_wells_23 : decode cX11_wells 23 = .ok (.aload_n 0, 1) := by decide +kernel
theorem dX11_wells_24 : decode cX11_wells 24 = .ok (.getfield 9, 3) := by decide +kernel
theorem dX11_wells_27 : decode cX11_wells 27 = .ok (.iconst 3, 1) := by decide +kernel
theorem dX11_wells_28 : decode cX11_wells 28 = .ok (.iaload, 1) := by decide +kernel
theorem dX11_wells_29 : decode cX11_wells 29 = .ok (.iadd, 1) := by decide +kernel
theorem dX11_wells_30 : decode cX11_wells 30 = .ok (.aload_n 0, 1) := by decide +kernel
theorem dX11_wells_31 : decode cX11_wells 31 = .ok (.getfield 9, 3) := by decide +kernel
theorem dX11_wells_34 : decode cX11_wells 34 = .ok (.iconst 4, 1) := by decide +kernel
theorem dX11_wells_35 : decode cX11_wells 35 = .ok (.iaload, 1) := by decide +kernel
theorem dX11_wells_36 : decode cX11_wells 36 = .ok (.iadd, 1) := by decide +kernel
theorem dX11_wells_37 : decode cX11_wells 37 = .ok (.ifCond .le 12, 3) := by decide +kernel
theorem dX11_wells_40 : decode cX11_wells 40 = .ok (.aload_n 0, 1) := by decide +kernel
theorem dX11_wells_41 : decode cX11_wells 41 = .ok (.ldc 165, 2) := by decide +kernel
theorem dX11_wells_43 : decode cX11_wells 43 = .ok (.invokevirtual 75, 3) := by decide +kernel
theorem dX11_wells_46 : decode cX11_wells 46 = .ok (.goto 9, 3) := by decide +kernel
theorem dX11_wells_49 : decode cX11_wells 49 = .ok (.aload_n 0, 1) := by decide +kernel
theorem dX11_wells_50 : decode cX11_wells 50 = .ok (.iconst 1, 1) := by decide +kernel
theorem dX11_wells_51 : decode cX11_wells 51 = .ok (.iload_n 1, 1) := by decide +kernel
theorem dX11_wells_52 : decode cX11_wells 52 = .ok (.invokevirtual 166, 3) := by decide +kernel
theorem dX11_wells_55 : decode cX11_wells 55 = .ok (.ireturn, 1) := by decide +kernel
theorem dX11_wayComes_0 : decode cX11_wayComes 0 = .ok (.aload_n 0, 1) := by decide +kernel
theorem dX11_wayComes_1 : decode cX11_wayComes 1 = .ok (.getfield 9, 3) := by decide +kernel
theorem dX11_wayComes_4 : decode cX11_wayComes 4 = .ok (.iconst 2, 1) := by decide +kernel
theorem dX11_wayComes_5 : decode cX11_wayComes 5 = .ok (.iaload, 1) := by decide +kernel
theorem dX11_wayComes_6 : decode cX11_wayComes 6 = .ok (.istore 4, 2) := by decide +kernel
theorem dX11_wayComes_8 : decode cX11_wayComes 8 = .ok (.aload_n 0, 1) := by decide +kernel
theorem dX11_wayComes_9 : decode cX11_wayComes 9 = .ok (.getfield 9, 3) := by decide +kernel
theorem dX11_wayComes_12 : decode cX11_wayComes 12 = .ok (.iload 4, 2) := by decide +kernel
theorem dX11_wayComes_14 : decode cX11_wayComes 14 = .ok (.iconst 0, 1) := by decide +kernel
theorem dX11_wayComes_15 : decode cX11_wayComes 15 = .ok (.invokestatic 156, 3) := by decide +kernel
theorem dX11_wayComes_18 : decode cX11_wayComes 18 = .ok (.iload_n 1, 1) := by decide +kernel
theorem dX11_wayComes_19 : decode cX11_wayComes 19 = .ok (.iastore, 1) := by decide +kernel
theorem dX11_wayComes_20 : decode cX11_wayComes 20 = .ok (.aload_n 0, 1) := by decide +kernel
theorem dX11_wayComes_21 : decode cX11_wayComes 21 = .ok (.getfield 9, 3) := by decide +kernel
theorem dX11_wayComes_24 : decode cX11_wayComes 24 = .ok (.iload 4, 2) := by decide +kernel
theorem dX11_wayComes_26 : decode cX11_wayComes 26 = .ok (.iconst 1, 1) := by decide +kernel
theorem dX11_wayComes_27 : decode cX11_wayComes 27 = .ok (.invokestatic 156, 3) := by decide +kernel
theorem dX11_wayComes_30 : decode cX11_wayComes 30 = .ok (.iload_n 2, 1) := by decide +kernel
theorem dX11_wayComes_31 : decode cX11_wayComes 31 = .ok (.iastore, 1) := by decide +kernel
theorem dX11_wayComes_32 : decode cX11_wayComes 32 = .ok (.aload_n 0, 1) := by decide +kernel
theorem dX11_wayComes_33 : decode cX11_wayComes 33 = .ok (.getfield 9, 3) := by decide +kernel
theorem dX11_wayComes_36 : decode cX11_wayComes 36 = .ok (.iload 4, 2) := by decide +kernel
theorem dX11_wayComes_38 : decode cX11_wayComes 38 = .ok (.iconst 2, 1) := by decide +kernel
theorem dX11_wayComes_39 : decode cX11_wayComes 39 = .ok (.invokestatic 156, 3) := by decide +kernel
theorem dX11_wayComes_42 : decode cX11_wayComes 42 = .ok (.iload_n 3, 1) := by decide +kernel
theorem dX11_wayComes_43 : decode cX11_wayComes 43 = .ok (.iastore, 1) := by decide +kernel
theorem dX11_wayComes_44 : decode cX11_wayComes 44 = .ok (.aload_n 0, 1) := by decide +kernel
theorem dX11_wayComes_45 : decode cX11_wayComes 45 = .ok (.getfield 9, 3) := by decide +kernel
theorem dX11_wayComes_48 : decode cX11_wayComes 48 = .ok (.iload 4, 2) := by decide +kernel
theorem dX11_wayComes_50 : decode cX11_wayComes 50 = .ok (.iconst 3, 1) := by decide +kernel
theorem dX11_wayComes_51 : decode cX11_wayComes 51 = .ok (.invokestatic 156, 3) := by decide +kernel
theorem dX11_wayComes_54 : decode cX11_wayComes 54 = .ok (.iconst 0, 1) := by decide +kernel
theorem dX11_wayComes_55 : decode cX11_wayComes 55 = .ok (.iastore, 1) := by decide +kernel
theorem dX11_wayComes_56 : decode cX11_wayComes 56 = .ok (.aload_n 0, 1) := by decide +kernel
theorem dX11_wayComes_57 : decode cX11_wayComes 57 = .ok (.getfield 9, 3) := by decide +kernel
theorem dX11_wayComes_60 : decode cX11_wayComes 60 = .ok (.iconst 2, 1) := by decide +kernel
theorem dX11_wayComes_61 : decode cX11_wayComes 61 = .ok (.dup2, 1) := by decide +kernel
theorem dX11_wayComes_62 : decode cX11_wayComes 62 = .ok (.iaload, 1) := by decide +kernel
theorem dX11_wayComes_63 : decode cX11_wayComes 63 = .ok (.iconst 1, 1) := by decide +kernel
theorem dX11_wayComes_64 : decode cX11_wayComes 64 = .ok (.iadd, 1) := by decide +kernel
theorem dX11_wayComes_65 : decode cX11_wayComes 65 = .ok (.iastore, 1) := by decide +kernel
theorem dX11_wayComes_66 : decode cX11_wayComes 66 = .ok (.iload 4, 2) := by decide +kernel
theorem dX11_wayComes_68 : decode cX11_wayComes 68 = .ok (.ireturn, 1) := by decide +kernel
theorem dX11_way_0 : decode cX11_way 0 = .ok (.aload_n 0, 1) := by decide +kernel
theorem dX11_way_1 : decode cX11_way 1 = .ok (.iload_n 1, 1) := by decide +kernel
theorem dX11_way_2 : decode cX11_way 2 = .ok (.invokevirtual 169, 3) := by decide +kernel
theorem dX11_way_5 : decode cX11_way 5 = .ok (.ifCond .eq 26, 3) := by decide +kernel
theorem dX11_way_8 : decode cX11_way 8 = .ok (.aload_n 0, 1) := by decide +kernel
theorem dX11_way_9 : decode cX11_way 9 = .ok (.iload_n 2, 1) := by decide +kernel
theorem dX11_way_10 : decode cX11_way 10 = .ok (.invokevirtual 169, 3) := by decide +kernel
theorem dX11_way_13 : decode cX11_way 13 = .ok (.ifCond .eq 18, 3) := by decide +kernel
theorem dX11_way_16 : decode cX11_way 16 = .ok (.iload_n 1, 1) := by decide +kernel
theorem dX11_way_17 : decode cX11_way 17 = .ok (.iload_n 2, 1) := by decide +kernel
theorem dX11_way_18 : decode cX11_way 18 = .ok (.if_icmp .eq 13, 3) := by decide +kernel
theorem dX11_way_21 : decode cX11_way 21 = .ok (.iload_n 3, 1) := by decide +kernel
theorem dX11_way_22 : decode cX11_way 22 = .ok (.iconst 1, 1) := by decide +kernel
theorem dX11_way_23 : decode cX11_way 23 = .ok (.bipush 9, 2) := by decide +kernel
theorem dX11_way_25 : decode cX11_way 25 = .ok (.invokestatic 70, 3) := by decide +kernel
theorem dX11_way_28 : decode cX11_way 28 = .ok (.ifCond .ne 10, 3) := by decide +kernel
theorem dX11_way_31 : decode cX11_way 31 = .ok (.aload_n 0, 1) := by decide +kernel
theorem dX11_way_32 : decode cX11_way 32 = .ok (.ldc 74, 2) := by decide +kernel
theorem dX11_way_34 : decode cX11_way 34 = .ok (.invokevirtual 75, 3) := by decide +kernel
theorem dX11_way_37 : decode cX11_way 37 = .ok (.ireturn, 1) := by decide +kernel
theorem dX11_way_38 : decode cX11_way 38 = .ok (.aload_n 0, 1) := by decide +kernel
theorem dX11_way_39 : decode cX11_way 39 = .ok (.getfield 9, 3) := by decide +kernel
theorem dX11_way_42 : decode cX11_way 42 = .ok (.iconst 2, 1) := by decide +kernel
theorem dX11_way_43 : decode cX11_way 43 = .ok (.iaload, 1) := by decide +kernel
theorem dX11_way_44 : decode cX11_way 44 = .ok (.bipush 8, 2) := by decide +kernel
theorem dX11_way_46 : decode cX11_way 46 = .ok (.if_icmp .ne 12, 3) := by decide +kernel
theorem dX11_way_49 : decode cX11_way 49 = .ok (.aload_n 0, 1) := by decide +kernel
theorem dX11_way_50 : decode cX11_way 50 = .ok (.ldc 79, 2) := by decide +kernel
theorem dX11_way_52 : decode cX11_way 52 = .ok (.invokevirtual 75, 3) := by decide +kernel
theorem dX11_way_55 : decode cX11_way 55 = .ok (.goto 10, 3) := by decide +kernel
theorem dX11_way_58 : decode cX11_way 58 = .ok (.aload_n 0, 1) := by decide +kernel
theorem dX11_way_59 : decode cX11_way 59 = .ok (.iload_n 1, 1) := by decide +kernel
theorem dX11_way_60 : decode cX11_way 60 = .ok (.iload_n 2, 1) := by decide +kernel
theorem dX11_way_61 : decode cX11_way 61 = .ok (.iload_n 3, 1) := by decide +kernel
theorem dX11_way_62 : decode cX11_way 62 = .ok (.invokevirtual 172, 3) := by decide +kernel
theorem dX11_way_65 : decode cX11_way 65 = .ok (.ireturn, 1) := by decide +kernel
theorem dX11_ofWay_0 : decode cX11_ofWay 0 = .ok (.aload_n 0, 1) := by decide +kernel
theorem dX11_ofWay_1 : decode cX11_ofWay 1 = .ok (.iload_n 1, 1) := by decide +kernel
theorem dX11_ofWay_2 : decode cX11_ofWay 2 = .ok (.invokevirtual 175, 3) := by decide +kernel
theorem dX11_ofWay_5 : decode cX11_ofWay 5 = .ok (.ifCond .eq 21, 3) := by decide +kernel
theorem dX11_ofWay_8 : decode cX11_ofWay 8 = .ok (.iload_n 2, 1) := by decide +kernel
theorem dX11_ofWay_9 : decode cX11_ofWay 9 = .ok (.iconst 0, 1) := by decide +kernel
theorem dX11_ofWay_10 : decode cX11_ofWay 10 = .ok (.iconst 3, 1) := by decide +kernel
theorem dX11_ofWay_11 : decode cX11_ofWay 11 = .ok (.invokestatic 70, 3) := by decide +kernel
theorem dX11_ofWay_14 : decode cX11_ofWay 14 = .ok (.ifCond .eq 12, 3) := by decide +kernel
theorem dX11_ofWay_17 : decode cX11_ofWay 17 = .ok (.aload_n 0, 1) := by decide +kernel
theorem dX11_ofWay_18 : decode cX11_ofWay 18 = .ok (.iload_n 1, 1) := by decide +kernel
theorem dX11_ofWay_19 : decode cX11_ofWay 19 = .ok (.iload_n 2, 1) := by decide +kernel
theorem dX11_ofWay_20 : decode cX11_ofWay 20 = .ok (.invokevirtual 178, 3) := by decide +kernel
theorem dX11_ofWay_23 : decode cX11_ofWay 23 = .ok (.goto 9, 3) := by decide +kernel
theorem dX11_ofWay_26 : decode cX11_ofWay 26 = .ok (.aload_n 0, 1) := by decide +kernel
theorem dX11_ofWay_27 : decode cX11_ofWay 27 = .ok (.ldc 74, 2) := by decide +kernel
theorem dX11_ofWay_29 : decode cX11_ofWay 29 = .ok (.invokevirtual 75, 3) := by decide +kernel
theorem dX11_ofWay_32 : decode cX11_ofWay 32 = .ok (.ireturn, 1) := by decide +kernel
theorem dX11_stop_0 : decode cX11_stop 0 = .ok (.aload_n 0, 1) := by decide +kernel
theorem dX11_stop_1 : decode cX11_stop 1 = .ok (.iload_n 1, 1) := by decide +kernel
theorem dX11_stop_2 : decode cX11_stop 2 = .ok (.invokevirtual 175, 3) := by decide +kernel
theorem dX11_stop_5 : decode cX11_stop 5 = .ok (.ifCond .eq 25, 3) := by decide +kernel
theorem dX11_stop_8 : decode cX11_stop 8 = .ok (.iload_n 2, 1) := by decide +kernel
theorem dX11_stop_9 : decode cX11_stop 9 = .ok (.iconst 0, 1) := by decide +kernel
theorem dX11_stop_10 : decode cX11_stop 10 = .ok (.iconst 1, 1) := by decide +kernel
theorem dX11_stop_11 : decode cX11_stop 11 = .ok (.invokestatic 70, 3) := by decide +kernel
theorem dX11_stop_14 : decode cX11_stop 14 = .ok (.ifCond .eq 16, 3) := by decide +kernel
theorem dX11_stop_17 : decode cX11_stop 17 = .ok (.aload_n 0, 1) := by decide +kernel
theorem dX11_stop_18 : decode cX11_stop 18 = .ok (.iload_n 1, 1) := by decide +kernel
theorem dX11_stop_19 : decode cX11_stop 19 = .ok (.iconst 3, 1) := by decide +kernel
theorem dX11_stop_20 : decode cX11_stop 20 = .ok (.invokestatic 156, 3) := by decide +kernel
theorem dX11_stop_23 : decode cX11_stop 23 = .ok (.iload_n 2, 1) := by decide +kernel
theorem dX11_stop_24 : decode cX11_stop 24 = .ok (.invokevirtual 166, 3) := by decide +kernel
theorem dX11_stop_27 : decode cX11_stop 27 = .ok (.goto 9, 3) := by decide +kernel
theorem dX11_stop_30 : decode cX11_stop 30 = .ok (.aload_n 0, 1) := by decide +kernel
theorem dX11_stop_31 : decode cX11_stop 31 = .ok (.ldc 74, 2) := by decide +kernel
theorem dX11_stop_33 : decode cX11_stop 33 = .ok (.invokevirtual 75, 3) := by decide +kernel
theorem dX11_stop_36 : decode cX11_stop 36 = .ok (.ireturn, 1) := by decide +kernel
theorem dX11_rain_0 : decode cX11_rain 0 = .ok (.iload_n 1, 1) := by decide +kernel
theorem dX11_rain_1 : decode cX11_rain 1 = .ok (.iconst 0, 1) := by decide +kernel
theorem dX11_rain_2 : decode cX11_rain 2 = .ok (.bipush 9, 2) := by decide +kernel
theorem dX11_rain_4 : decode cX11_rain 4 = .ok (.invokestatic 70, 3) := by decide +kernel
theorem dX11_rain_7 : decode cX11_rain 7 = .ok (.ifCond .eq 12, 3) := by decide +kernel
theorem dX11_rain_10 : decode cX11_rain 10 = .ok (.aload_n 0, 1) := by decide +kernel
theorem dX11_rain_11 : decode cX11_rain 11 = .ok (.iconst 5, 1) := by decide +kernel
theorem dX11_rain_12 : decode cX11_rain 12 = .ok (.iload_n 1, 1) := by decide +kernel
theorem dX11_rain_13 : decode cX11_rain 13 = .ok (.invokevirtual 166, 3) := by decide +kernel
theorem dX11_rain_16 : decode cX11_rain 16 = .ok (.goto 9, 3) := by decide +kernel
theorem dX11_rain_19 : decode cX11_rain 19 = .ok (.aload_n 0, 1) := by decide +kernel
theorem dX11_rain_20 : decode cX11_rain 20 = .ok (.ldc 74, 2) := by decide +kernel
theorem dX11_rain_22 : decode cX11_rain 22 = .ok (.invokevirtual 75, 3) := by decide +kernel
theorem dX11_rain_25 : decode cX11_rain 25 = .ok (.ireturn, 1) := by decide +kernel
theorem dX11_isKindM_0 : decode cX11_isKindM 0 = .ok (.iload_n 0, 1) := by decide +kernel
theorem dX11_isKindM_1 : decode cX11_isKindM 1 = .ok (.iconst 0, 1) := by decide +kernel
theorem dX11_isKindM_2 : decode cX11_isKindM 2 = .ok (.bipush 69, 2) := by decide +kernel
theorem dX11_isKindM_4 : decode cX11_isKindM 4 = .ok (.invokestatic 70, 3) := by decide +kernel
theorem dX11_isKindM_7 : decode cX11_isKindM 7 = .ok (.ireturn, 1) := by decide +kernel
theorem dX11_sayingComes_0 : decode cX11_sayingComes 0 = .ok (.aload_n 0, 1) := by decide +kernel
theorem dX11_sayingComes_1 : decode cX11_sayingComes 1 = .ok (.getfield 9, 3) := by decide +kernel
theorem dX11_sayingComes_4 : decode cX11_sayingComes 4 = .ok (.iconst 3, 1) := by decide +kernel
theorem dX11_sayingComes_5 : decode cX11_sayingComes 5 = .ok (.iaload, 1) := by decide +kernel
theorem dX11_sayingComes_6 : decode cX11_sayingComes 6 = .ok (.istore 4, 2) := by decide +kernel
theorem dX11_sayingComes_8 : decode cX11_sayingComes 8 = .ok (.aload_n 0, 1) := by decide +kernel
theorem dX11_sayingComes_9 : decode cX11_sayingComes 9 = .ok (.getfield 9, 3) := by decide +kernel
theorem dX11_sayingComes_12 : decode cX11_sayingComes 12 = .ok (.iload 4, 2) := by decide +kernel
theorem dX11_sayingComes_14 : decode cX11_sayingComes 14 = .ok (.iconst 0, 1) := by decide +kernel
theorem dX11_sayingComes_15 : decode cX11_sayingComes 15 = .ok (.invokestatic 159, 3) := by decide +kernel
theorem dX11_sayingComes_18 : decode cX11_sayingComes 18 = .ok (.iload_n 1, 1) := by decide +kernel
theorem dX11_sayingComes_19 : decode cX11_sayingComes 19 = .ok (.bipush 10, 2) := by decide +kernel
theorem dX11_sayingComes_21 : decode cX11_sayingComes 21 = .ok (.idiv, 1) := by decide +kernel
theorem dX11_sayingComes_22 : decode cX11_sayingComes 22 = .ok (.iastore, 1) := by decide +kernel
theorem dX11_sayingComes_23 : decode cX11_sayingComes 23 = .ok (.aload_n 0, 1) := by decide +kernel
theorem dX11_sayingComes_24 : decode cX11_sayingComes 24 = .ok (.getfield 9, 3) := by decide +kernel
theorem dX11_sayingComes_27 : decode cX11_sayingComes 27 = .ok (.iload 4, 2) := by decide +kernel
theorem dX11_sayingComes_29 : decode cX11_sayingComes 29 = .ok (.iconst 1, 1) := by decide +kernel
theorem dX11_sayingComes_30 : decode cX11_sayingComes 30 = .ok (.invokestatic 159, 3) := by decide +kernel
theorem dX11_sayingComes_33 : decode cX11_sayingComes 33 = .ok (.iload_n 1, 1) := by decide +kernel
theorem dX11_sayingComes_34 : decode cX11_sayingComes 34 = .ok (.bipush 10, 2) := by decide +kernel
theorem dX11_sayingComes_36 : decode cX11_sayingComes 36 = .ok (.irem, 1) := by decide +kernel
theorem dX11_sayingComes_37 : decode cX11_sayingComes 37 = .ok (.iastore, 1) := by decide +kernel
theorem dX11_sayingComes_38 : decode cX11_sayingComes 38 = .ok (.aload_n 0, 1) := by decide +kernel
theorem dX11_sayingComes_39 : decode cX11_sayingComes 39 = .ok (.getfield 9, 3) := by decide +kernel
theorem dX11_sayingComes_42 : decode cX11_sayingComes 42 = .ok (.iload 4, 2) := by decide +kernel
theorem dX11_sayingComes_44 : decode cX11_sayingComes 44 = .ok (.iconst 2, 1) := by decide +kernel
theorem dX11_sayingComes_45 : decode cX11_sayingComes 45 = .ok (.invokestatic 159, 3) := by decide +kernel
theorem dX11_sayingComes_48 : decode cX11_sayingComes 48 = .ok (.iload_n 2, 1) := by decide +kernel
theorem dX11_sayingComes_49 : decode cX11_sayingComes 49 = .ok (.iastore, 1) := by decide +kernel
theorem dX11_sayingComes_50 : decode cX11_sayingComes 50 = .ok (.aload_n 0, 1) := by decide +kernel
theorem dX11_sayingComes_51 : decode cX11_sayingComes 51 = .ok (.getfield 9, 3) := by decide +kernel
theorem dX11_sayingComes_54 : decode cX11_sayingComes 54 = .ok (.iload 4, 2) := by decide +kernel
theorem dX11_sayingComes_56 : decode cX11_sayingComes 56 = .ok (.iconst 3, 1) := by decide +kernel
theorem dX11_sayingComes_57 : decode cX11_sayingComes 57 = .ok (.invokestatic 159, 3) := by decide +kernel
theorem dX11_sayingComes_60 : decode cX11_sayingComes 60 = .ok (.iload_n 3, 1) := by decide +kernel
theorem dX11_sayingComes_61 : decode cX11_sayingComes 61 = .ok (.iastore, 1) := by decide +kernel
theorem dX11_sayingComes_62 : decode cX11_sayingComes 62 = .ok (.aload_n 0, 1) := by decide +kernel
theorem dX11_sayingComes_63 : decode cX11_sayingComes 63 = .ok (.getfield 9, 3) := by decide +kernel
theorem dX11_sayingComes_66 : decode cX11_sayingComes 66 = .ok (.iload 4, 2) := by decide +kernel
theorem dX11_sayingComes_68 : decode cX11_sayingComes 68 = .ok (.iconst 4, 1) := by decide +kernel
theorem dX11_sayingComes_69 : decode cX11_sayingComes 69 = .ok (.invokestatic 159, 3) := by decide +kernel
theorem dX11_sayingComes_72 : decode cX11_sayingComes 72 = .ok (.iconst 0, 1) := by decide +kernel
theorem dX11_sayingComes_73 : decode cX11_sayingComes 73 = .ok (.iastore, 1) := by decide +kernel
theorem dX11_sayingComes_74 : decode cX11_sayingComes 74 = .ok (.aload_n 0, 1) := by decide +kernel
theorem dX11_sayingComes_75 : decode cX11_sayingComes 75 = .ok (.getfield 9, 3) := by decide +kernel
theorem dX11_sayingComes_78 : decode cX11_sayingComes 78 = .ok (.iconst 3, 1) := by decide +kernel
theorem dX11_sayingComes_79 : decode cX11_sayingComes 79 = .ok (.dup2, 1) := by decide +kernel
theorem dX11_sayingComes_80 : decode cX11_sayingComes 80 = .ok (.iaload, 1) := by decide +kernel
theorem dX11_sayingComes_81 : decode cX11_sayingComes 81 = .ok (.iconst 1, 1) := by decide +kernel
theorem dX11_sayingComes_82 : decode cX11_sayingComes 82 = .ok (.iadd, 1) := by decide +kernel
theorem dX11_sayingComes_83 : decode cX11_sayingComes 83 = .ok (.iastore, 1) := by decide +kernel
theorem dX11_sayingComes_84 : decode cX11_sayingComes 84 = .ok (.iload 4, 2) := by decide +kernel
theorem dX11_sayingComes_86 : decode cX11_sayingComes 86 = .ok (.ireturn, 1) := by decide +kernel
theorem dX11_call_0 : decode cX11_call 0 = .ok (.iload_n 1, 1) := by decide +kernel
theorem dX11_call_1 : decode cX11_call 1 = .ok (.invokestatic 181, 3) := by decide +kernel
theorem dX11_call_4 : decode cX11_call 4 = .ok (.ifCond .eq 18, 3) := by decide +kernel
theorem dX11_call_7 : decode cX11_call 7 = .ok (.aload_n 0, 1) := by decide +kernel
theorem dX11_call_8 : decode cX11_call 8 = .ok (.iload_n 2, 1) := by decide +kernel
theorem dX11_call_9 : decode cX11_call 9 = .ok (.invokevirtual 169, 3) := by decide +kernel
theorem dX11_call_12 : decode cX11_call 12 = .ok (.ifCond .eq 10, 3) := by decide +kernel
theorem dX11_call_15 : decode cX11_call 15 = .ok (.iload_n 3, 1) := by decide +kernel
theorem dX11_call_16 : decode cX11_call 16 = .ok (.invokestatic 184, 3) := by decide +kernel
theorem dX11_call_19 : decode cX11_call 19 = .ok (.ifCond .ne 10, 3) := by decide +kernel
theorem dX11_call_22 : decode cX11_call 22 = .ok (.aload_n 0, 1) := by decide +kernel
theorem dX11_call_23 : decode cX11_call 23 = .ok (.ldc 74, 2) := by decide +kernel
theorem dX11_call_25 : decode cX11_call 25 = .ok (.invokevirtual 75, 3) := by decide +kernel
theorem dX11_call_28 : decode cX11_call 28 = .ok (.ireturn, 1) := by decide +kernel
theorem dX11_call_29 : decode cX11_call 29 = .ok (.aload_n 0, 1) := by decide +kernel
theorem dX11_call_30 : decode cX11_call 30 = .ok (.getfield 9, 3) := by decide +kernel
theorem dX11_call_33 : decode cX11_call 33 = .ok (.iconst 3, 1) := by decide +kernel
theorem dX11_call_34 : decode cX11_call 34 = .ok (.iaload, 1) := by decide +kernel
theorem dX11_call_35 : decode cX11_call 35 = .ok (.bipush 8, 2) := by decide +kernel
theorem dX11_call_37 : decode cX11_call 37 = .ok (.if_icmp .ne 12, 3) := by decide +kernel
theorem dX11_call_40 : decode cX11_call 40 = .ok (.aload_n 0, 1) := by decide +kernel
theorem dX11_call_41 : decode cX11_call 41 = .ok (.ldc 79, 2) := by decide +kernel
theorem dX11_call_43 : decode cX11_call 43 = .ok (.invokevirtual 75, 3) := by decide +kernel
theorem dX11_call_46 : decode cX11_call 46 = .ok (.goto 10, 3) := by decide +kernel
theorem dX11_call_49 : decode cX11_call 49 = .ok (.aload_n 0, 1) := by decide +kernel
theorem dX11_call_50 : decode cX11_call 50 = .ok (.iload_n 1, 1) := by decide +kernel
theorem dX11_call_51 : decode cX11_call 51 = .ok (.iload_n 2, 1) := by decide +kernel
theorem dX11_call_52 : decode cX11_call 52 = .ok (.iload_n 3, 1) := by decide +kernel
theorem dX11_call_53 : decode cX11_call 53 = .ok (.invokevirtual 187, 3) := by decide +kernel
theorem dX11_call_56 : decode cX11_call 56 = .ok (.ireturn, 1) := by decide +kernel
theorem dX11_above_0 : decode cX11_above 0 = .ok (.iload_n 0, 1) := by decide +kernel
theorem dX11_above_1 : decode cX11_above 1 = .ok (.ifCond .ne 7, 3) := by decide +kernel
theorem dX11_above_4 : decode cX11_above 4 = .ok (.iconst (-1), 1) := by decide +kernel
theorem dX11_above_5 : decode cX11_above 5 = .ok (.goto 32, 3) := by decide +kernel
theorem dX11_above_8 : decode cX11_above 8 = .ok (.iload_n 0, 1) := by decide +kernel
theorem dX11_above_9 : decode cX11_above 9 = .ok (.iconst 4, 1) := by decide +kernel
theorem dX11_above_10 : decode cX11_above 10 = .ok (.if_icmp .ne 7, 3) := by decide +kernel
theorem dX11_above_13 : decode cX11_above 13 = .ok (.iconst 1, 1) := by decide +kernel
theorem dX11_above_14 : decode cX11_above 14 = .ok (.goto 23, 3) := by decide +kernel
theorem dX11_above_17 : decode cX11_above 17 = .ok (.iload_n 0, 1) := by decide +kernel
theorem dX11_above_18 : decode cX11_above 18 = .ok (.iconst 5, 1) := by decide +kernel
theorem dX11_above_19 : decode cX11_above 19 = .ok (.if_icmp .ne 7, 3) := by decide +kernel
theorem dX11_above_22 : decode cX11_above 22 = .ok (.iconst 2, 1) := by decide +kernel
theorem dX11_above_23 : decode cX11_above 23 = .ok (.goto 14, 3) := by decide +kernel
theorem dX11_above_26 : decode cX11_above 26 = .ok (.iload_n 0, 1) := by decide +kernel
theorem dX11_above_27 : decode cX11_above 27 = .ok (.bipush 6, 2) := by decide +kernel
theorem dX11_above_29 : decode cX11_above 29 = .ok (.if_icmp .ne 7, 3) := by decide +kernel
theorem dX11_above_32 : decode cX11_above 32 = .ok (.iconst 3, 1) := by decide +kernel
theorem dX11_above_33 : decode cX11_above 33 = .ok (.goto 4, 3) := by decide +kernel
theorem dX11_above_36 : decode cX11_above 36 = .ok (.iconst 0, 1) := by decide +kernel
theorem dX11_above_37 : decode cX11_above 37 = .ok (.ireturn, 1) := by decide +kernel
theorem dX11_isUnder_0 : decode cX11_isUnder 0 = .ok (.iload_n 0, 1) := by decide +kernel
theorem dX11_isUnder_1 : decode cX11_isUnder 1 = .ok (.istore_n 2, 1) := by decide +kernel
theorem dX11_isUnder_2 : decode cX11_isUnder 2 = .ok (.iload_n 2, 1) := by decide +kernel
theorem dX11_isUnder_3 : decode cX11_isUnder 3 = .ok (.ifCond .lt 16, 3) := by decide +kernel
theorem dX11_isUnder_6 : decode cX11_isUnder 6 = .ok (.iload_n 2, 1) := by decide +kernel
theorem dX11_isUnder_7 : decode cX11_isUnder 7 = .ok (.iload_n 1, 1) := by decide +kernel
theorem dX11_isUnder_8 : decode cX11_isUnder 8 = .ok (.if_icmp .eq 11, 3) := by decide +kernel
theorem dX11_isUnder_11 : decode cX11_isUnder 11 = .ok (.iload_n 2, 1) := by decide +kernel
theorem dX11_isUnder_12 : decode cX11_isUnder 12 = .ok (.invokestatic 190, 3) := by decide +kernel
theorem dX11_isUnder_15 : decode cX11_isUnder 15 = .ok (.istore_n 2, 1) := by decide +kernel
theorem dX11_isUnder_16 : decode cX11_isUnder 16 = .ok (.goto (-14), 3) := by decide +kernel
theorem dX11_isUnder_19 : decode cX11_isUnder 19 = .ok (.iload_n 2, 1) := by decide +kernel
theorem dX11_isUnder_20 : decode cX11_isUnder 20 = .ok (.ifCond .lt 7, 3) := by decide +kernel
theorem dX11_isUnder_23 : decode cX11_isUnder 23 = .ok (.iconst 1, 1) := by decide +kernel
theorem dX11_isUnder_24 : decode cX11_isUnder 24 = .ok (.goto 4, 3) := by decide +kernel
theorem dX11_isUnder_27 : decode cX11_isUnder 27 = .ok (.iconst 0, 1) := by decide +kernel
theorem dX11_isUnder_28 : decode cX11_isUnder 28 = .ok (.ireturn, 1) := by decide +kernel
theorem dX11_weakens_0 : decode cX11_weakens 0 = .ok (.aload_n 0, 1) := by decide +kernel
theorem dX11_weakens_1 : decode cX11_weakens 1 = .ok (.iload_n 1, 1) := by decide +kernel
theorem dX11_weakens_2 : decode cX11_weakens 2 = .ok (.iconst 1, 1) := by decide +kernel
theorem dX11_weakens_3 : decode cX11_weakens 3 = .ok (.invokevirtual 193, 3) := by decide +kernel
theorem dX11_weakens_6 : decode cX11_weakens 6 = .ok (.istore_n 2, 1) := by decide +kernel
theorem dX11_weakens_7 : decode cX11_weakens 7 = .ok (.aload_n 0, 1) := by decide +kernel
theorem dX11_weakens_8 : decode cX11_weakens 8 = .ok (.iconst 0, 1) := by decide +kernel
theorem dX11_weakens_9 : decode cX11_weakens 9 = .ok (.aload_n 0, 1) := by decide +kernel
theorem dX11_weakens_10 : decode cX11_weakens 10 = .ok (.iload_n 1, 1) := by decide +kernel
theorem dX11_weakens_11 : decode cX11_weakens 11 = .ok (.iconst 3, 1) := by decide +kernel
theorem dX11_weakens_12 : decode cX11_weakens 12 = .ok (.invokevirtual 193, 3) := by decide +kernel
theorem dX11_weakens_15 : decode cX11_weakens 15 = .ok (.iload_n 2, 1) := by decide +kernel
theorem dX11_weakens_16 : decode cX11_weakens 16 = .ok (.aload_n 0, 1) := by decide +kernel
theorem dX11_weakens_17 : decode cX11_weakens 17 = .ok (.getfield 9, 3) := by decide +kernel
theorem dX11_weakens_20 : decode cX11_weakens 20 = .ok (.iconst 5, 1) := by decide +kernel
theorem dX11_weakens_21 : decode cX11_weakens 21 = .ok (.iaload, 1) := by decide +kernel
theorem dX11_weakens_22 : decode cX11_weakens 22 = .ok (.invokevirtual 152, 3) := by decide +kernel
theorem dX11_weakens_25 : decode cX11_weakens 25 = .ok (.istore_n 3, 1) := by decide +kernel
theorem dX11_weakens_26 : decode cX11_weakens 26 = .ok (.aload_n 0, 1) := by decide +kernel
theorem dX11_weakens_27 : decode cX11_weakens 27 = .ok (.iload_n 1, 1) := by decide +kernel
theorem dX11_weakens_28 : decode cX11_weakens 28 = .ok (.iconst 0, 1) := by decide +kernel
theorem dX11_weakens_29 : decode cX11_weakens 29 = .ok (.invokevirtual 193, 3) := by decide +kernel
theorem dX11_weakens_32 : decode cX11_weakens 32 = .ok (.tableswitch 80 1 6 #[40, 64, 74, 48, 68, 76], 40) := by decide +kernel
theorem dX11_weakens_72 : decode cX11_weakens 72 = .ok (.iconst 0, 1) := by decide +kernel
theorem dX11_weakens_73 : decode cX11_weakens 73 = .ok (.iload_n 3, 1) := by decide +kernel
theorem dX11_weakens_74 : decode cX11_weakens 74 = .ok (.iconst 1, 1) := by decide +kernel
theorem dX11_weakens_75 : decode cX11_weakens 75 = .ok (.isub, 1) := by decide +kernel
theorem dX11_weakens_76 : decode cX11_weakens 76 = .ok (.invokestatic 63, 3) := by decide +kernel
theorem dX11_weakens_79 : decode cX11_weakens 79 = .ok (.ireturn, 1) := by decide +kernel
theorem dX11_weakens_80 : decode cX11_weakens 80 = .ok (.iconst 0, 1) := by decide +kernel
theorem dX11_weakens_81 : decode cX11_weakens 81 = .ok (.iconst 0, 1) := by decide +kernel
theorem dX11_weakens_82 : decode cX11_weakens 82 = .ok (.iload_n 3, 1) := by decide +kernel
theorem dX11_weakens_83 : decode cX11_weakens 83 = .ok (.iconst 1, 1) := by decide +kernel
theorem dX11_weakens_84 : decode cX11_weakens 84 = .ok (.isub, 1) := by decide +kernel
theorem dX11_weakens_85 : decode cX11_weakens 85 = .ok (.invokestatic 63, 3) := by decide +kernel
theorem dX11_weakens_88 : decode cX11_weakens 88 = .ok (.iload_n 2, 1) := by decide +kernel
theorem dX11_weakens_89 : decode cX11_weakens 89 = .ok (.iconst 3, 1) := by decide +kernel
theorem dX11_weakens_90 : decode cX11_weakens 90 = .ok (.irem, 1) := by decide +kernel
theorem dX11_weakens_91 : decode cX11_weakens 91 = .ok (.isub, 1) := by decide +kernel
theorem dX11_weakens_92 : decode cX11_weakens 92 = .ok (.invokestatic 63, 3) := by decide +kernel
theorem dX11_weakens_95 : decode cX11_weakens 95 = .ok (.ireturn, 1) := by decide +kernel
theorem dX11_weakens_96 : decode cX11_weakens 96 = .ok (.iconst 2, 1) := by decide +kernel
theorem dX11_weakens_97 : decode cX11_weakens 97 = .ok (.iload_n 3, 1) := by decide +kernel
theorem dX11_weakens_98 : decode cX11_weakens 98 = .ok (.imul, 1) := by decide +kernel
theorem dX11_weakens_99 : decode cX11_weakens 99 = .ok (.ireturn, 1) := by decide +kernel
theorem dX11_weakens_100 : decode cX11_weakens 100 = .ok (.iconst 2, 1) := by decide +kernel
theorem dX11_weakens_101 : decode cX11_weakens 101 = .ok (.iload_n 3, 1) := by decide +kernel
theorem dX11_weakens_102 : decode cX11_weakens 102 = .ok (.imul, 1) := by decide +kernel
theorem dX11_weakens_103 : decode cX11_weakens 103 = .ok (.iconst 1, 1) := by decide +kernel
theorem dX11_weakens_104 : decode cX11_weakens 104 = .ok (.iadd, 1) := by decide +kernel
theorem dX11_weakens_105 : decode cX11_weakens 105 = .ok (.ireturn, 1) := by decide +kernel
theorem dX11_weakens_106 : decode cX11_weakens 106 = .ok (.iconst 0, 1) := by decide +kernel
theorem dX11_weakens_107 : decode cX11_weakens 107 = .ok (.ireturn, 1) := by decide +kernel
theorem dX11_weakens_108 : decode cX11_weakens 108 = .ok (.iload_n 3, 1) := by decide +kernel
theorem dX11_weakens_109 : decode cX11_weakens 109 = .ok (.iconst 2, 1) := by decide +kernel
theorem dX11_weakens_110 : decode cX11_weakens 110 = .ok (.idiv, 1) := by decide +kernel
theorem dX11_weakens_111 : decode cX11_weakens 111 = .ok (.ireturn, 1) := by decide +kernel
theorem dX11_weakens_112 : decode cX11_weakens 112 = .ok (.iload_n 3, 1) := by decide +kernel
theorem dX11_weakens_113 : decode cX11_weakens 113 = .ok (.ireturn, 1) := by decide +kernel
theorem dX11_knowers_0 : decode cX11_knowers 0 = .ok (.iconst 0, 1) := by decide +kernel
theorem dX11_knowers_1 : decode cX11_knowers 1 = .ok (.istore_n 2, 1) := by decide +kernel
theorem dX11_knowers_2 : decode cX11_knowers 2 = .ok (.iconst 0, 1) := by decide +kernel
theorem dX11_knowers_3 : decode cX11_knowers 3 = .ok (.istore_n 3, 1) := by decide +kernel
theorem dX11_knowers_4 : decode cX11_knowers 4 = .ok (.iload_n 3, 1) := by decide +kernel
theorem dX11_knowers_5 : decode cX11_knowers 5 = .ok (.aload_n 0, 1) := by decide +kernel
theorem dX11_knowers_6 : decode cX11_knowers 6 = .ok (.getfield 9, 3) := by decide +kernel
theorem dX11_knowers_9 : decode cX11_knowers 9 = .ok (.iconst 4, 1) := by decide +kernel
theorem dX11_knowers_10 : decode cX11_knowers 10 = .ok (.iaload, 1) := by decide +kernel
theorem dX11_knowers_11 : decode cX11_knowers 11 = .ok (.if_icmp .ge 32, 3) := by decide +kernel
theorem dX11_knowers_14 : decode cX11_knowers 14 = .ok (.iload_n 2, 1) := by decide +kernel
theorem dX11_knowers_15 : decode cX11_knowers 15 = .ok (.aload_n 0, 1) := by decide +kernel
theorem dX11_knowers_16 : decode cX11_knowers 16 = .ok (.iload_n 3, 1) := by decide +kernel
theorem dX11_knowers_17 : decode cX11_knowers 17 = .ok (.iconst 2, 1) := by decide +kernel
theorem dX11_knowers_18 : decode cX11_knowers 18 = .ok (.invokevirtual 196, 3) := by decide +kernel
theorem dX11_knowers_21 : decode cX11_knowers 21 = .ok (.iload_n 1, 1) := by decide +kernel
theorem dX11_knowers_22 : decode cX11_knowers 22 = .ok (.invokestatic 199, 3) := by decide +kernel
theorem dX11_knowers_25 : decode cX11_knowers 25 = .ok (.ifCond .eq 9, 3) := by decide +kernel
theorem dX11_knowers_28 : decode cX11_knowers 28 = .ok (.iconst 1, 1) := by decide +kernel
theorem dX11_knowers_29 : decode cX11_knowers 29 = .ok (.iload_n 3, 1) := by decide +kernel
theorem dX11_knowers_30 : decode cX11_knowers 30 = .ok (.ishl, 1) := by decide +kernel
theorem dX11_knowers_31 : decode cX11_knowers 31 = .ok (.goto 4, 3) := by decide +kernel
theorem dX11_knowers_34 : decode cX11_knowers 34 = .ok (.iconst 0, 1) := by decide +kernel
theorem dX11_knowers_35 : decode cX11_knowers 35 = .ok (.ior, 1) := by decide +kernel
theorem dX11_knowers_36 : decode cX11_knowers 36 = .ok (.istore_n 2, 1) := by decide +kernel
theorem dX11_knowers_37 : decode cX11_knowers 37 = .ok (.iinc 3 1, 3) := by decide +kernel
theorem dX11_knowers_40 : decode cX11_knowers 40 = .ok (.goto (-36), 3) := by decide +kernel
theorem dX11_knowers_43 : decode cX11_knowers 43 = .ok (.iload_n 2, 1) := by decide +kernel
theorem dX11_knowers_44 : decode cX11_knowers 44 = .ok (.ireturn, 1) := by decide +kernel
theorem dX11_drinkers_0 : decode cX11_drinkers 0 = .ok (.iconst 0, 1) := by decide +kernel
theorem dX11_drinkers_1 : decode cX11_drinkers 1 = .ok (.istore_n 2, 1) := by decide +kernel
theorem dX11_drinkers_2 : decode cX11_drinkers 2 = .ok (.iconst 0, 1) := by decide +kernel
theorem dX11_drinkers_3 : decode cX11_drinkers 3 = .ok (.istore_n 3, 1) := by decide +kernel
theorem dX11_drinkers_4 : decode cX11_drinkers 4 = .ok (.iload_n 3, 1) := by decide +kernel
theorem dX11_drinkers_5 : decode cX11_drinkers 5 = .ok (.aload_n 0, 1) := by decide +kernel
theorem dX11_drinkers_6 : decode cX11_drinkers 6 = .ok (.getfield 9, 3) := by decide +kernel
theorem dX11_drinkers_9 : decode cX11_drinkers 9 = .ok (.iconst 4, 1) := by decide +kernel
theorem dX11_drinkers_10 : decode cX11_drinkers 10 = .ok (.iaload, 1) := by decide +kernel
theorem dX11_drinkers_11 : decode cX11_drinkers 11 = .ok (.if_icmp .ge 29, 3) := by decide +kernel
theorem dX11_drinkers_14 : decode cX11_drinkers 14 = .ok (.iload_n 2, 1) := by decide +kernel
theorem dX11_drinkers_15 : decode cX11_drinkers 15 = .ok (.aload_n 0, 1) := by decide +kernel
theorem dX11_drinkers_16 : decode cX11_drinkers 16 = .ok (.iload_n 3, 1) := by decide +kernel
theorem dX11_drinkers_17 : decode cX11_drinkers 17 = .ok (.iconst 0, 1) := by decide +kernel
theorem dX11_drinkers_18 : decode cX11_drinkers 18 = .ok (.invokevirtual 196, 3) := by decide +kernel
theorem dX11_drinkers_21 : decode cX11_drinkers 21 = .ok (.iload_n 1, 1) := by decide +kernel
theorem dX11_drinkers_22 : decode cX11_drinkers 22 = .ok (.if_icmp .ne 9, 3) := by decide +kernel
theorem dX11_drinkers_25 : decode cX11_drinkers 25 = .ok (.iconst 1, 1) := by decide +kernel
theorem dX11_drinkers_26 : decode cX11_drinkers 26 = .ok (.iload_n 3, 1) := by decide +kernel
theorem dX11_drinkers_27 : decode cX11_drinkers 27 = .ok (.ishl, 1) := by decide +kernel
theorem dX11_drinkers_28 : decode cX11_drinkers 28 = .ok (.goto 4, 3) := by decide +kernel
theorem dX11_drinkers_31 : decode cX11_drinkers 31 = .ok (.iconst 0, 1) := by decide +kernel
theorem dX11_drinkers_32 : decode cX11_drinkers 32 = .ok (.ior, 1) := by decide +kernel
theorem dX11_drinkers_33 : decode cX11_drinkers 33 = .ok (.istore_n 2, 1) := by decide +kernel
theorem dX11_drinkers_34 : decode cX11_drinkers 34 = .ok (.iinc 3 1, 3) := by decide +kernel
theorem dX11_drinkers_37 : decode cX11_drinkers 37 = .ok (.goto (-33), 3) := by decide +kernel
theorem dX11_drinkers_40 : decode cX11_drinkers 40 = .ok (.iload_n 2, 1) := by decide +kernel
theorem dX11_drinkers_41 : decode cX11_drinkers 41 = .ok (.ireturn, 1) := by decide +kernel
theorem dX11_isOpen_0 : decode cX11_isOpen 0 = .ok (.aload_n 0, 1) := by decide +kernel
theorem dX11_isOpen_1 : decode cX11_isOpen 1 = .ok (.iload_n 1, 1) := by decide +kernel
theorem dX11_isOpen_2 : decode cX11_isOpen 2 = .ok (.iconst 0, 1) := by decide +kernel
theorem dX11_isOpen_3 : decode cX11_isOpen 3 = .ok (.invokevirtual 178, 3) := by decide +kernel
theorem dX11_isOpen_6 : decode cX11_isOpen 6 = .ok (.iload_n 2, 1) := by decide +kernel
theorem dX11_isOpen_7 : decode cX11_isOpen 7 = .ok (.if_icmp .ne 16, 3) := by decide +kernel
theorem dX11_isOpen_10 : decode cX11_isOpen 10 = .ok (.aload_n 0, 1) := by decide +kernel
theorem dX11_isOpen_11 : decode cX11_isOpen 11 = .ok (.iload_n 1, 1) := by decide +kernel
theorem dX11_isOpen_12 : decode cX11_isOpen 12 = .ok (.iconst 3, 1) := by decide +kernel
theorem dX11_isOpen_13 : decode cX11_isOpen 13 = .ok (.invokevirtual 178, 3) := by decide +kernel
theorem dX11_isOpen_16 : decode cX11_isOpen 16 = .ok (.ifCond .ne 7, 3) := by decide +kernel
theorem dX11_isOpen_19 : decode cX11_isOpen 19 = .ok (.iconst 1, 1) := by decide +kernel
theorem dX11_isOpen_20 : decode cX11_isOpen 20 = .ok (.goto 4, 3) := by decide +kernel
theorem dX11_isOpen_23 : decode cX11_isOpen 23 = .ok (.iconst 0, 1) := by decide +kernel
theorem dX11_isOpen_24 : decode cX11_isOpen 24 = .ok (.ireturn, 1) := by decide +kernel
theorem dX11_goesOn_0 : decode cX11_goesOn 0 = .ok (.aload_n 0, 1) := by decide +kernel
theorem dX11_goesOn_1 : decode cX11_goesOn 1 = .ok (.iload_n 1, 1) := by decide +kernel
theorem dX11_goesOn_2 : decode cX11_goesOn 2 = .ok (.iconst 2, 1) := by decide +kernel
theorem dX11_goesOn_3 : decode cX11_goesOn 3 = .ok (.invokevirtual 193, 3) := by decide +kernel
theorem dX11_goesOn_6 : decode cX11_goesOn 6 = .ok (.istore_n 2, 1) := by decide +kernel
theorem dX11_goesOn_7 : decode cX11_goesOn 7 = .ok (.aload_n 0, 1) := by decide +kernel
theorem dX11_goesOn_8 : decode cX11_goesOn 8 = .ok (.iload_n 1, 1) := by decide +kernel
theorem dX11_goesOn_9 : decode cX11_goesOn 9 = .ok (.iconst 0, 1) := by decide +kernel
theorem dX11_goesOn_10 : decode cX11_goesOn 10 = .ok (.invokevirtual 193, 3) := by decide +kernel
theorem dX11_goesOn_13 : decode cX11_goesOn 13 = .ok (.istore_n 3, 1) := by decide +kernel
theorem dX11_goesOn_14 : decode cX11_goesOn 14 = .ok (.iconst (-1), 1) := by decide +kernel
theorem dX11_goesOn_15 : decode cX11_goesOn 15 = .ok (.istore 4, 2) := by decide +kernel
theorem dX11_goesOn_17 : decode cX11_goesOn 17 = .ok (.iconst (-1), 1) := by decide +kernel
theorem dX11_goesOn_18 : decode cX11_goesOn 18 = .ok (.istore 5, 2) := by decide +kernel
theorem dX11_goesOn_20 : decode cX11_goesOn 20 = .ok (.iconst 0, 1) := by decide +kernel
theorem dX11_goesOn_21 : decode cX11_goesOn 21 = .ok (.istore 6, 2) := by decide +kernel
theorem dX11_goesOn_23 : decode cX11_goesOn 23 = .ok (.iload 6, 2) := by decide +kernel
theorem dX11_goesOn_25 : decode cX11_goesOn 25 = .ok (.aload_n 0, 1) := by decide +kernel
theorem dX11_goesOn_26 : decode cX11_goesOn 26 = .ok (.getfield 9, 3) := by decide +kernel
theorem dX11_goesOn_29 : decode cX11_goesOn 29 = .ok (.iconst 2, 1) := by decide +kernel
theorem dX11_goesOn_30 : decode cX11_goesOn 30 = .ok (.iaload, 1) := by decide +kernel
theorem dX11_goesOn_31 : decode cX11_goesOn 31 = .ok (.if_icmp .ge 52, 3) := by decide +kernel
theorem dX11_goesOn_34 : decode cX11_goesOn 34 = .ok (.iload 4, 2) := by decide +kernel
theorem dX11_goesOn_36 : decode cX11_goesOn 36 = .ok (.ifCond .ge 18, 3) := by decide +kernel
theorem dX11_goesOn_39 : decode cX11_goesOn 39 = .ok (.aload_n 0, 1) := by decide +kernel
theorem dX11_goesOn_40 : decode cX11_goesOn 40 = .ok (.iload 6, 2) := by decide +kernel
theorem dX11_goesOn_42 : decode cX11_goesOn 42 = .ok (.iload_n 2, 1) := by decide +kernel
theorem dX11_goesOn_43 : decode cX11_goesOn 43 = .ok (.invokevirtual 203, 3) := by decide +kernel
theorem dX11_goesOn_46 : decode cX11_goesOn 46 = .ok (.ifCond .eq 8, 3) := by decide +kernel
theorem dX11_goesOn_49 : decode cX11_goesOn 49 = .ok (.iload 6, 2) := by decide +kernel
theorem dX11_goesOn_51 : decode cX11_goesOn 51 = .ok (.goto 5, 3) := by decide +kernel
theorem dX11_goesOn_54 : decode cX11_goesOn 54 = .ok (.iload 4, 2) := by decide +kernel
theorem dX11_goesOn_56 : decode cX11_goesOn 56 = .ok (.istore 4, 2) := by decide +kernel
theorem dX11_goesOn_58 : decode cX11_goesOn 58 = .ok (.aload_n 0, 1) := by decide +kernel
theorem dX11_goesOn_59 : decode cX11_goesOn 59 = .ok (.iload 6, 2) := by decide +kernel
theorem dX11_goesOn_61 : decode cX11_goesOn 61 = .ok (.iload_n 2, 1) := by decide +kernel
theorem dX11_goesOn_62 : decode cX11_goesOn 62 = .ok (.invokevirtual 203, 3) := by decide +kernel
theorem dX11_goesOn_65 : decode cX11_goesOn 65 = .ok (.ifCond .eq 8, 3) := by decide +kernel
theorem dX11_goesOn_68 : decode cX11_goesOn 68 = .ok (.iload 6, 2) := by decide +kernel
theorem dX11_goesOn_70 : decode cX11_goesOn 70 = .ok (.goto 5, 3) := by decide +kernel
theorem dX11_goesOn_73 : decode cX11_goesOn 73 = .ok (.iload 5, 2) := by decide +kernel
theorem dX11_goesOn_75 : decode cX11_goesOn 75 = .ok (.istore 5, 2) := by decide +kernel
theorem dX11_goesOn_77 : decode cX11_goesOn 77 = .ok (.iinc 6 1, 3) := by decide +kernel
theorem dX11_goesOn_80 : decode cX11_goesOn 80 = .ok (.goto (-57), 3) := by decide +kernel
theorem dX11_goesOn_83 : decode cX11_goesOn 83 = .ok (.iload_n 3, 1) := by decide +kernel
theorem dX11_goesOn_84 : decode cX11_goesOn 84 = .ok (.iconst 3, 1) := by decide +kernel
theorem dX11_goesOn_85 : decode cX11_goesOn 85 = .ok (.if_icmp .eq 24, 3) := by decide +kernel
theorem dX11_goesOn_88 : decode cX11_goesOn 88 = .ok (.iload_n 3, 1) := by decide +kernel
theorem dX11_goesOn_89 : decode cX11_goesOn 89 = .ok (.iconst 4, 1) := by decide +kernel
theorem dX11_goesOn_90 : decode cX11_goesOn 90 = .ok (.if_icmp .ne 23, 3) := by decide +kernel
theorem dX11_goesOn_93 : decode cX11_goesOn 93 = .ok (.aload_n 0, 1) := by decide +kernel
theorem dX11_goesOn_94 : decode cX11_goesOn 94 = .ok (.iload_n 2, 1) := by decide +kernel
theorem dX11_goesOn_95 : decode cX11_goesOn 95 = .ok (.invokevirtual 206, 3) := by decide +kernel
theorem dX11_goesOn_98 : decode cX11_goesOn 98 = .ok (.aload_n 0, 1) := by decide +kernel
theorem dX11_goesOn_99 : decode cX11_goesOn 99 = .ok (.iload_n 1, 1) := by decide +kernel
theorem dX11_goesOn_100 : decode cX11_goesOn 100 = .ok (.invokevirtual 209, 3) := by decide +kernel
theorem dX11_goesOn_103 : decode cX11_goesOn 103 = .ok (.iconst (-1), 1) := by decide +kernel
theorem dX11_goesOn_104 : decode cX11_goesOn 104 = .ok (.ixor, 1) := by decide +kernel
theorem dX11_goesOn_105 : decode cX11_goesOn 105 = .ok (.iand, 1) := by decide +kernel
theorem dX11_goesOn_106 : decode cX11_goesOn 106 = .ok (.ifCond .eq 7, 3) := by decide +kernel
theorem dX11_goesOn_109 : decode cX11_goesOn 109 = .ok (.iconst 1, 1) := by decide +kernel
theorem dX11_goesOn_110 : decode cX11_goesOn 110 = .ok (.goto 4, 3) := by decide +kernel
theorem dX11_goesOn_113 : decode cX11_goesOn 113 = .ok (.iconst 0, 1) := by decide +kernel
theorem dX11_goesOn_114 : decode cX11_goesOn 114 = .ok (.istore 6, 2) := by decide +kernel
theorem dX11_goesOn_116 : decode cX11_goesOn 116 = .ok (.iload 6, 2) := by decide +kernel
theorem dX11_goesOn_118 : decode cX11_goesOn 118 = .ok (.ifCond .eq 7, 3) := by decide +kernel
theorem dX11_goesOn_121 : decode cX11_goesOn 121 = .ok (.iconst (-1), 1) := by decide +kernel
theorem dX11_goesOn_122 : decode cX11_goesOn 122 = .ok (.goto 18, 3) := by decide +kernel
theorem dX11_goesOn_125 : decode cX11_goesOn 125 = .ok (.iload_n 3, 1) := by decide +kernel
theorem dX11_goesOn_126 : decode cX11_goesOn 126 = .ok (.iconst 2, 1) := by decide +kernel
theorem dX11_goesOn_127 : decode cX11_goesOn 127 = .ok (.invokestatic 212, 3) := by decide +kernel
theorem dX11_goesOn_130 : decode cX11_goesOn 130 = .ok (.ifCond .eq 8, 3) := by decide +kernel
theorem dX11_goesOn_133 : decode cX11_goesOn 133 = .ok (.iload 5, 2) := by decide +kernel
theorem dX11_goesOn_135 : decode cX11_goesOn 135 = .ok (.goto 5, 3) := by decide +kernel
theorem dX11_goesOn_138 : decode cX11_goesOn 138 = .ok (.iload 4, 2) := by decide +kernel
theorem dX11_goesOn_140 : decode cX11_goesOn 140 = .ok (.ireturn, 1) := by decide +kernel
theorem dX11_ofSaying_0 : decode cX11_ofSaying 0 = .ok (.aload_n 0, 1) := by decide +kernel
theorem dX11_ofSaying_1 : decode cX11_ofSaying 1 = .ok (.iload_n 1, 1) := by decide +kernel
theorem dX11_ofSaying_2 : decode cX11_ofSaying 2 = .ok (.invokevirtual 215, 3) := by decide +kernel
theorem dX11_ofSaying_5 : decode cX11_ofSaying 5 = .ok (.ifCond .eq 13, 3) := by decide +kernel
theorem dX11_ofSaying_8 : decode cX11_ofSaying 8 = .ok (.iload_n 2, 1) := by decide +kernel
theorem dX11_ofSaying_9 : decode cX11_ofSaying 9 = .ok (.iconst 0, 1) := by decide +kernel
theorem dX11_ofSaying_10 : decode cX11_ofSaying 10 = .ok (.bipush 7, 2) := by decide +kernel
theorem dX11_ofSaying_12 : decode cX11_ofSaying 12 = .ok (.invokestatic 70, 3) := by decide +kernel
theorem dX11_ofSaying_15 : decode cX11_ofSaying 15 = .ok (.ifCond .ne 10, 3) := by decide +kernel
theorem dX11_ofSaying_18 : decode cX11_ofSaying 18 = .ok (.aload_n 0, 1) := by decide +kernel
theorem dX11_ofSaying_19 : decode cX11_ofSaying 19 = .ok (.ldc 74, 2) := by decide +kernel
theorem dX11_ofSaying_21 : decode cX11_ofSaying 21 = .ok (.invokevirtual 75, 3) := by decide +kernel
theorem dX11_ofSaying_24 : decode cX11_ofSaying 24 = .ok (.ireturn, 1) := by decide +kernel
theorem dX11_ofSaying_25 : decode cX11_ofSaying 25 = .ok (.iload_n 2, 1) := by decide +kernel
theorem dX11_ofSaying_26 : decode cX11_ofSaying 26 = .ok (.tableswitch 44 5 7 #[26, 32, 38], 26) := by decide +kernel
theorem dX11_ofSaying_52 : decode cX11_ofSaying 52 = .ok (.aload_n 0, 1) := by decide +kernel
theorem dX11_ofSaying_53 : decode cX11_ofSaying 53 = .ok (.iload_n 1, 1) := by decide +kernel
theorem dX11_ofSaying_54 : decode cX11_ofSaying 54 = .ok (.invokevirtual 218, 3) := by decide +kernel
theorem dX11_ofSaying_57 : decode cX11_ofSaying 57 = .ok (.ireturn, 1) := by decide +kernel
theorem dX11_ofSaying_58 : decode cX11_ofSaying 58 = .ok (.aload_n 0, 1) := by decide +kernel
theorem dX11_ofSaying_59 : decode cX11_ofSaying 59 = .ok (.iload_n 1, 1) := by decide +kernel
theorem dX11_ofSaying_60 : decode cX11_ofSaying 60 = .ok (.invokevirtual 221, 3) := by decide +kernel
theorem dX11_ofSaying_63 : decode cX11_ofSaying 63 = .ok (.ireturn, 1) := by decide +kernel
theorem dX11_ofSaying_64 : decode cX11_ofSaying 64 = .ok (.aload_n 0, 1) := by decide +kernel
theorem dX11_ofSaying_65 : decode cX11_ofSaying 65 = .ok (.iload_n 1, 1) := by decide +kernel
theorem dX11_ofSaying_66 : decode cX11_ofSaying 66 = .ok (.invokevirtual 209, 3) := by decide +kernel
theorem dX11_ofSaying_69 : decode cX11_ofSaying 69 = .ok (.ireturn, 1) := by decide +kernel
theorem dX11_ofSaying_70 : decode cX11_ofSaying 70 = .ok (.aload_n 0, 1) := by decide +kernel
theorem dX11_ofSaying_71 : decode cX11_ofSaying 71 = .ok (.iload_n 1, 1) := by decide +kernel
theorem dX11_ofSaying_72 : decode cX11_ofSaying 72 = .ok (.iload_n 2, 1) := by decide +kernel
theorem dX11_ofSaying_73 : decode cX11_ofSaying 73 = .ok (.invokevirtual 193, 3) := by decide +kernel
theorem dX11_ofSaying_76 : decode cX11_ofSaying 76 = .ok (.ireturn, 1) := by decide +kernel
theorem dX11_change_0 : decode cX11_change 0 = .ok (.iload_n 2, 1) := by decide +kernel
theorem dX11_change_1 : decode cX11_change 1 = .ok (.ifCond .ne 11, 3) := by decide +kernel
theorem dX11_change_4 : decode cX11_change 4 = .ok (.aload_n 0, 1) := by decide +kernel
theorem dX11_change_5 : decode cX11_change 5 = .ok (.iload_n 3, 1) := by decide +kernel
theorem dX11_change_6 : decode cX11_change 6 = .ok (.invokevirtual 169, 3) := by decide +kernel
theorem dX11_change_9 : decode cX11_change 9 = .ok (.goto 20, 3) := by decide +kernel
theorem dX11_change_12 : decode cX11_change 12 = .ok (.iload_n 2, 1) := by decide +kernel
theorem dX11_change_13 : decode cX11_change 13 = .ok (.iconst 1, 1) := by decide +kernel
theorem dX11_change_14 : decode cX11_change 14 = .ok (.if_icmp .ne 14, 3) := by decide +kernel
theorem dX11_change_17 : decode cX11_change 17 = .ok (.iload_n 3, 1) := by decide +kernel
theorem dX11_change_18 : decode cX11_change 18 = .ok (.invokestatic 184, 3) := by decide +kernel
theorem dX11_change_21 : decode cX11_change 21 = .ok (.ifCond .eq 7, 3) := by decide +kernel
theorem dX11_change_24 : decode cX11_change 24 = .ok (.iconst 1, 1) := by decide +kernel
theorem dX11_change_25 : decode cX11_change 25 = .ok (.goto 4, 3) := by decide +kernel
end
section
theorem dX11_change_28 : decode cX11_change 28 = .ok (.iconst 0, 1) := by decide +kernel
theorem dX11_change_29 : decode cX11_change 29 = .ok (.istore 4, 2) := by decide +kernel
theorem dX11_change_31 : decode cX11_change 31 = .ok (.aload_n 0, 1) := by decide +kernel
theorem dX11_change_32 : decode cX11_change 32 = .ok (.iload_n 1, 1) := by decide +kernel
theorem dX11_change_33 : decode cX11_change 33 = .ok (.invokevirtual 215, 3) := by decide +kernel
theorem dX11_change_36 : decode cX11_change 36 = .ok (.ifCond .eq 8, 3) := by decide +kernel
theorem dX11_change_39 : decode cX11_change 39 = .ok (.iload 4, 2) := by decide +kernel
theorem dX11_change_41 : decode cX11_change 41 = .ok (.ifCond .ne 10, 3) := by decide +kernel
theorem dX11_change_44 : decode cX11_change 44 = .ok (.aload_n 0, 1) := by decide +kernel
theorem dX11_change_45 : decode cX11_change 45 = .ok (.ldc 74, 2) := by decide +kernel
theorem dX11_change_47 : decode cX11_change 47 = .ok (.invokevirtual 75, 3) := by decide +kernel
theorem dX11_change_50 : decode cX11_change 50 = .ok (.ireturn, 1) := by decide +kernel
theorem dX11_change_51 : decode cX11_change 51 = .ok (.aload_n 0, 1) := by decide +kernel
theorem dX11_change_52 : decode cX11_change 52 = .ok (.getfield 9, 3) := by decide +kernel
theorem dX11_change_55 : decode cX11_change 55 = .ok (.iload_n 1, 1) := by decide +kernel
theorem dX11_change_56 : decode cX11_change 56 = .ok (.iconst 4, 1) := by decide +kernel
theorem dX11_change_57 : decode cX11_change 57 = .ok (.invokestatic 159, 3) := by decide +kernel
theorem dX11_change_60 : decode cX11_change 60 = .ok (.iload_n 2, 1) := by decide +kernel
theorem dX11_change_61 : decode cX11_change 61 = .ok (.ifCond .ne 7, 3) := by decide +kernel
theorem dX11_change_64 : decode cX11_change 64 = .ok (.iconst 0, 1) := by decide +kernel
theorem dX11_change_65 : decode cX11_change 65 = .ok (.goto 9, 3) := by decide +kernel
theorem dX11_change_68 : decode cX11_change 68 = .ok (.aload_n 0, 1) := by decide +kernel
theorem dX11_change_69 : decode cX11_change 69 = .ok (.iload_n 1, 1) := by decide +kernel
theorem dX11_change_70 : decode cX11_change 70 = .ok (.iconst 4, 1) := by decide +kernel
theorem dX11_change_71 : decode cX11_change 71 = .ok (.invokevirtual 193, 3) := by decide +kernel
theorem dX11_change_74 : decode cX11_change 74 = .ok (.iastore, 1) := by decide +kernel
theorem dX11_change_75 : decode cX11_change 75 = .ok (.aload_n 0, 1) := by decide +kernel
theorem dX11_change_76 : decode cX11_change 76 = .ok (.iload_n 1, 1) := by decide +kernel
theorem dX11_change_77 : decode cX11_change 77 = .ok (.iload_n 2, 1) := by decide +kernel
theorem dX11_change_78 : decode cX11_change 78 = .ok (.ifCond .ne 7, 3) := by decide +kernel
theorem dX11_change_81 : decode cX11_change 81 = .ok (.iconst 2, 1) := by decide +kernel
theorem dX11_change_82 : decode cX11_change 82 = .ok (.goto 4, 3) := by decide +kernel
theorem dX11_change_85 : decode cX11_change 85 = .ok (.iconst 3, 1) := by decide +kernel
theorem dX11_change_86 : decode cX11_change 86 = .ok (.invokestatic 159, 3) := by decide +kernel
theorem dX11_change_89 : decode cX11_change 89 = .ok (.iload_n 3, 1) := by decide +kernel
theorem dX11_change_90 : decode cX11_change 90 = .ok (.invokevirtual 166, 3) := by decide +kernel
theorem dX11_change_93 : decode cX11_change 93 = .ok (.ireturn, 1) := by decide +kernel
theorem dX11_become_0 : decode cX11_become 0 = .ok (.aload_n 0, 1) := by decide +kernel
theorem dX11_become_1 : decode cX11_become 1 = .ok (.iload_n 1, 1) := by decide +kernel
theorem dX11_become_2 : decode cX11_become 2 = .ok (.invokevirtual 215, 3) := by decide +kernel
theorem dX11_become_5 : decode cX11_become 5 = .ok (.ifCond .eq 10, 3) := by decide +kernel
theorem dX11_become_8 : decode cX11_become 8 = .ok (.iload_n 2, 1) := by decide +kernel
theorem dX11_become_9 : decode cX11_become 9 = .ok (.invokestatic 181, 3) := by decide +kernel
theorem dX11_become_12 : decode cX11_become 12 = .ok (.ifCond .ne 10, 3) := by decide +kernel
theorem dX11_become_15 : decode cX11_become 15 = .ok (.aload_n 0, 1) := by decide +kernel
theorem dX11_become_16 : decode cX11_become 16 = .ok (.ldc 74, 2) := by decide +kernel
theorem dX11_become_18 : decode cX11_become 18 = .ok (.invokevirtual 75, 3) := by decide +kernel
theorem dX11_become_21 : decode cX11_become 21 = .ok (.ireturn, 1) := by decide +kernel
theorem dX11_become_22 : decode cX11_become 22 = .ok (.aload_n 0, 1) := by decide +kernel
theorem dX11_become_23 : decode cX11_become 23 = .ok (.getfield 9, 3) := by decide +kernel
theorem dX11_become_26 : decode cX11_become 26 = .ok (.iload_n 1, 1) := by decide +kernel
theorem dX11_become_27 : decode cX11_become 27 = .ok (.iconst 1, 1) := by decide +kernel
theorem dX11_become_28 : decode cX11_become 28 = .ok (.invokestatic 159, 3) := by decide +kernel
theorem dX11_become_31 : decode cX11_become 31 = .ok (.iload_n 2, 1) := by decide +kernel
theorem dX11_become_32 : decode cX11_become 32 = .ok (.bipush 10, 2) := by decide +kernel
theorem dX11_become_34 : decode cX11_become 34 = .ok (.irem, 1) := by decide +kernel
theorem dX11_become_35 : decode cX11_become 35 = .ok (.iastore, 1) := by decide +kernel
theorem dX11_become_36 : decode cX11_become 36 = .ok (.aload_n 0, 1) := by decide +kernel
theorem dX11_become_37 : decode cX11_become 37 = .ok (.iload_n 1, 1) := by decide +kernel
theorem dX11_become_38 : decode cX11_become 38 = .ok (.iconst 0, 1) := by decide +kernel
theorem dX11_become_39 : decode cX11_become 39 = .ok (.invokestatic 159, 3) := by decide +kernel
theorem dX11_become_42 : decode cX11_become 42 = .ok (.iload_n 2, 1) := by decide +kernel
theorem dX11_become_43 : decode cX11_become 43 = .ok (.bipush 10, 2) := by decide +kernel
theorem dX11_become_45 : decode cX11_become 45 = .ok (.idiv, 1) := by decide +kernel
theorem dX11_become_46 : decode cX11_become 46 = .ok (.invokevirtual 166, 3) := by decide +kernel
theorem dX11_become_49 : decode cX11_become 49 = .ok (.ireturn, 1) := by decide +kernel
theorem dX11_as_0 : decode cX11_as 0 = .ok (.aload_n 0, 1) := by decide +kernel
theorem dX11_as_1 : decode cX11_as 1 = .ok (.iload_n 1, 1) := by decide +kernel
theorem dX11_as_2 : decode cX11_as 2 = .ok (.invokevirtual 215, 3) := by decide +kernel
theorem dX11_as_5 : decode cX11_as 5 = .ok (.ifCond .eq 13, 3) := by decide +kernel
theorem dX11_as_8 : decode cX11_as 8 = .ok (.iload_n 2, 1) := by decide +kernel
theorem dX11_as_9 : decode cX11_as 9 = .ok (.iconst 0, 1) := by decide +kernel
theorem dX11_as_10 : decode cX11_as 10 = .ok (.bipush 6, 2) := by decide +kernel
theorem dX11_as_12 : decode cX11_as 12 = .ok (.invokestatic 70, 3) := by decide +kernel
theorem dX11_as_15 : decode cX11_as 15 = .ok (.ifCond .ne 10, 3) := by decide +kernel
theorem dX11_as_18 : decode cX11_as 18 = .ok (.aload_n 0, 1) := by decide +kernel
theorem dX11_as_19 : decode cX11_as 19 = .ok (.ldc 74, 2) := by decide +kernel
theorem dX11_as_21 : decode cX11_as 21 = .ok (.invokevirtual 75, 3) := by decide +kernel
theorem dX11_as_24 : decode cX11_as 24 = .ok (.ireturn, 1) := by decide +kernel
theorem dX11_as_25 : decode cX11_as 25 = .ok (.aload_n 0, 1) := by decide +kernel
theorem dX11_as_26 : decode cX11_as 26 = .ok (.iload_n 1, 1) := by decide +kernel
theorem dX11_as_27 : decode cX11_as 27 = .ok (.iconst 0, 1) := by decide +kernel
theorem dX11_as_28 : decode cX11_as 28 = .ok (.invokevirtual 193, 3) := by decide +kernel
theorem dX11_as_31 : decode cX11_as 31 = .ok (.iload_n 2, 1) := by decide +kernel
theorem dX11_as_32 : decode cX11_as 32 = .ok (.invokestatic 212, 3) := by decide +kernel
theorem dX11_as_35 : decode cX11_as 35 = .ok (.ifCond .eq 12, 3) := by decide +kernel
theorem dX11_as_38 : decode cX11_as 38 = .ok (.aload_n 0, 1) := by decide +kernel
theorem dX11_as_39 : decode cX11_as 39 = .ok (.iload_n 1, 1) := by decide +kernel
theorem dX11_as_40 : decode cX11_as 40 = .ok (.iconst 1, 1) := by decide +kernel
theorem dX11_as_41 : decode cX11_as 41 = .ok (.invokevirtual 193, 3) := by decide +kernel
theorem dX11_as_44 : decode cX11_as 44 = .ok (.goto 9, 3) := by decide +kernel
theorem dX11_as_47 : decode cX11_as 47 = .ok (.aload_n 0, 1) := by decide +kernel
theorem dX11_as_48 : decode cX11_as 48 = .ok (.ldc 224, 2) := by decide +kernel
theorem dX11_as_50 : decode cX11_as 50 = .ok (.invokevirtual 75, 3) := by decide +kernel
theorem dX11_as_53 : decode cX11_as 53 = .ok (.ireturn, 1) := by decide +kernel
theorem dX11_folkComes_0 : decode cX11_folkComes 0 = .ok (.aload_n 0, 1) := by decide +kernel
theorem dX11_folkComes_1 : decode cX11_folkComes 1 = .ok (.getfield 9, 3) := by decide +kernel
theorem dX11_folkComes_4 : decode cX11_folkComes 4 = .ok (.iconst 4, 1) := by decide +kernel
theorem dX11_folkComes_5 : decode cX11_folkComes 5 = .ok (.iaload, 1) := by decide +kernel
theorem dX11_folkComes_6 : decode cX11_folkComes 6 = .ok (.istore_n 3, 1) := by decide +kernel
theorem dX11_folkComes_7 : decode cX11_folkComes 7 = .ok (.aload_n 0, 1) := by decide +kernel
theorem dX11_folkComes_8 : decode cX11_folkComes 8 = .ok (.getfield 9, 3) := by decide +kernel
theorem dX11_folkComes_11 : decode cX11_folkComes 11 = .ok (.iload_n 3, 1) := by decide +kernel
theorem dX11_folkComes_12 : decode cX11_folkComes 12 = .ok (.iconst 0, 1) := by decide +kernel
theorem dX11_folkComes_13 : decode cX11_folkComes 13 = .ok (.invokestatic 162, 3) := by decide +kernel
theorem dX11_folkComes_16 : decode cX11_folkComes 16 = .ok (.iload_n 1, 1) := by decide +kernel
theorem dX11_folkComes_17 : decode cX11_folkComes 17 = .ok (.iastore, 1) := by decide +kernel
theorem dX11_folkComes_18 : decode cX11_folkComes 18 = .ok (.aload_n 0, 1) := by decide +kernel
theorem dX11_folkComes_19 : decode cX11_folkComes 19 = .ok (.getfield 9, 3) := by decide +kernel
theorem dX11_folkComes_22 : decode cX11_folkComes 22 = .ok (.iload_n 3, 1) := by decide +kernel
theorem dX11_folkComes_23 : decode cX11_folkComes 23 = .ok (.iconst 1, 1) := by decide +kernel
theorem dX11_folkComes_24 : decode cX11_folkComes 24 = .ok (.invokestatic 162, 3) := by decide +kernel
theorem dX11_folkComes_27 : decode cX11_folkComes 27 = .ok (.iload_n 2, 1) := by decide +kernel
theorem dX11_folkComes_28 : decode cX11_folkComes 28 = .ok (.iastore, 1) := by decide +kernel
theorem dX11_folkComes_29 : decode cX11_folkComes 29 = .ok (.aload_n 0, 1) := by decide +kernel
theorem dX11_folkComes_30 : decode cX11_folkComes 30 = .ok (.getfield 9, 3) := by decide +kernel
theorem dX11_folkComes_33 : decode cX11_folkComes 33 = .ok (.iload_n 3, 1) := by decide +kernel
theorem dX11_folkComes_34 : decode cX11_folkComes 34 = .ok (.iconst 2, 1) := by decide +kernel
theorem dX11_folkComes_35 : decode cX11_folkComes 35 = .ok (.invokestatic 162, 3) := by decide +kernel
theorem dX11_folkComes_38 : decode cX11_folkComes 38 = .ok (.iconst 0, 1) := by decide +kernel
theorem dX11_folkComes_39 : decode cX11_folkComes 39 = .ok (.iastore, 1) := by decide +kernel
theorem dX11_folkComes_40 : decode cX11_folkComes 40 = .ok (.aload_n 0, 1) := by decide +kernel
theorem dX11_folkComes_41 : decode cX11_folkComes 41 = .ok (.getfield 9, 3) := by decide +kernel
theorem dX11_folkComes_44 : decode cX11_folkComes 44 = .ok (.iconst 4, 1) := by decide +kernel
theorem dX11_folkComes_45 : decode cX11_folkComes 45 = .ok (.dup2, 1) := by decide +kernel
theorem dX11_folkComes_46 : decode cX11_folkComes 46 = .ok (.iaload, 1) := by decide +kernel
theorem dX11_folkComes_47 : decode cX11_folkComes 47 = .ok (.iconst 1, 1) := by decide +kernel
theorem dX11_folkComes_48 : decode cX11_folkComes 48 = .ok (.iadd, 1) := by decide +kernel
theorem dX11_folkComes_49 : decode cX11_folkComes 49 = .ok (.iastore, 1) := by decide +kernel
theorem dX11_folkComes_50 : decode cX11_folkComes 50 = .ok (.iload_n 3, 1) := by decide +kernel
theorem dX11_folkComes_51 : decode cX11_folkComes 51 = .ok (.ireturn, 1) := by decide +kernel
theorem dX11_folk_0 : decode cX11_folk 0 = .ok (.aload_n 0, 1) := by decide +kernel
theorem dX11_folk_1 : decode cX11_folk 1 = .ok (.iload_n 1, 1) := by decide +kernel
theorem dX11_folk_2 : decode cX11_folk 2 = .ok (.invokevirtual 169, 3) := by decide +kernel
theorem dX11_folk_5 : decode cX11_folk 5 = .ok (.ifCond .eq 10, 3) := by decide +kernel
theorem dX11_folk_8 : decode cX11_folk 8 = .ok (.iload_n 2, 1) := by decide +kernel
theorem dX11_folk_9 : decode cX11_folk 9 = .ok (.invokestatic 184, 3) := by decide +kernel
theorem dX11_folk_12 : decode cX11_folk 12 = .ok (.ifCond .ne 10, 3) := by decide +kernel
theorem dX11_folk_15 : decode cX11_folk 15 = .ok (.aload_n 0, 1) := by decide +kernel
theorem dX11_folk_16 : decode cX11_folk 16 = .ok (.ldc 74, 2) := by decide +kernel
theorem dX11_folk_18 : decode cX11_folk 18 = .ok (.invokevirtual 75, 3) := by decide +kernel
theorem dX11_folk_21 : decode cX11_folk 21 = .ok (.ireturn, 1) := by decide +kernel
theorem dX11_folk_22 : decode cX11_folk 22 = .ok (.aload_n 0, 1) := by decide +kernel
theorem dX11_folk_23 : decode cX11_folk 23 = .ok (.getfield 9, 3) := by decide +kernel
theorem dX11_folk_26 : decode cX11_folk 26 = .ok (.iconst 4, 1) := by decide +kernel
theorem dX11_folk_27 : decode cX11_folk 27 = .ok (.iaload, 1) := by decide +kernel
theorem dX11_folk_28 : decode cX11_folk 28 = .ok (.bipush 6, 2) := by decide +kernel
theorem dX11_folk_30 : decode cX11_folk 30 = .ok (.if_icmp .ne 12, 3) := by decide +kernel
theorem dX11_folk_33 : decode cX11_folk 33 = .ok (.aload_n 0, 1) := by decide +kernel
theorem dX11_folk_34 : decode cX11_folk 34 = .ok (.ldc 79, 2) := by decide +kernel
theorem dX11_folk_36 : decode cX11_folk 36 = .ok (.invokevirtual 75, 3) := by decide +kernel
theorem dX11_folk_39 : decode cX11_folk 39 = .ok (.goto 9, 3) := by decide +kernel
theorem dX11_folk_42 : decode cX11_folk 42 = .ok (.aload_n 0, 1) := by decide +kernel
theorem dX11_folk_43 : decode cX11_folk 43 = .ok (.iload_n 1, 1) := by decide +kernel
theorem dX11_folk_44 : decode cX11_folk 44 = .ok (.iload_n 2, 1) := by decide +kernel
theorem dX11_folk_45 : decode cX11_folk 45 = .ok (.invokevirtual 225, 3) := by decide +kernel
theorem dX11_folk_48 : decode cX11_folk 48 = .ok (.ireturn, 1) := by decide +kernel
theorem dX11_ofFolk_0 : decode cX11_ofFolk 0 = .ok (.aload_n 0, 1) := by decide +kernel
theorem dX11_ofFolk_1 : decode cX11_ofFolk 1 = .ok (.iload_n 1, 1) := by decide +kernel
theorem dX11_ofFolk_2 : decode cX11_ofFolk 2 = .ok (.invokevirtual 228, 3) := by decide +kernel
theorem dX11_ofFolk_5 : decode cX11_ofFolk 5 = .ok (.ifCond .eq 21, 3) := by decide +kernel
theorem dX11_ofFolk_8 : decode cX11_ofFolk 8 = .ok (.iload_n 2, 1) := by decide +kernel
theorem dX11_ofFolk_9 : decode cX11_ofFolk 9 = .ok (.iconst 0, 1) := by decide +kernel
theorem dX11_ofFolk_10 : decode cX11_ofFolk 10 = .ok (.iconst 2, 1) := by decide +kernel
theorem dX11_ofFolk_11 : decode cX11_ofFolk 11 = .ok (.invokestatic 70, 3) := by decide +kernel
theorem dX11_ofFolk_14 : decode cX11_ofFolk 14 = .ok (.ifCond .eq 12, 3) := by decide +kernel
theorem dX11_ofFolk_17 : decode cX11_ofFolk 17 = .ok (.aload_n 0, 1) := by decide +kernel
theorem dX11_ofFolk_18 : decode cX11_ofFolk 18 = .ok (.iload_n 1, 1) := by decide +kernel
theorem dX11_ofFolk_19 : decode cX11_ofFolk 19 = .ok (.iload_n 2, 1) := by decide +kernel
theorem dX11_ofFolk_20 : decode cX11_ofFolk 20 = .ok (.invokevirtual 196, 3) := by decide +kernel
theorem dX11_ofFolk_23 : decode cX11_ofFolk 23 = .ok (.goto 9, 3) := by decide +kernel
theorem dX11_ofFolk_26 : decode cX11_ofFolk 26 = .ok (.aload_n 0, 1) := by decide +kernel
theorem dX11_ofFolk_27 : decode cX11_ofFolk 27 = .ok (.ldc 74, 2) := by decide +kernel
theorem dX11_ofFolk_29 : decode cX11_ofFolk 29 = .ok (.invokevirtual 75, 3) := by decide +kernel
theorem dX11_ofFolk_32 : decode cX11_ofFolk 32 = .ok (.ireturn, 1) := by decide +kernel
theorem dX11_drink_0 : decode cX11_drink 0 = .ok (.iload_n 2, 1) := by decide +kernel
theorem dX11_drink_1 : decode cX11_drink 1 = .ok (.ifCond .ne 11, 3) := by decide +kernel
theorem dX11_drink_4 : decode cX11_drink 4 = .ok (.aload_n 0, 1) := by decide +kernel
theorem dX11_drink_5 : decode cX11_drink 5 = .ok (.iload_n 3, 1) := by decide +kernel
theorem dX11_drink_6 : decode cX11_drink 6 = .ok (.invokevirtual 169, 3) := by decide +kernel
theorem dX11_drink_9 : decode cX11_drink 9 = .ok (.goto 43, 3) := by decide +kernel
theorem dX11_drink_12 : decode cX11_drink 12 = .ok (.iload_n 2, 1) := by decide +kernel
theorem dX11_drink_13 : decode cX11_drink 13 = .ok (.iconst 1, 1) := by decide +kernel
theorem dX11_drink_14 : decode cX11_drink 14 = .ok (.if_icmp .ne 10, 3) := by decide +kernel
theorem dX11_drink_17 : decode cX11_drink 17 = .ok (.iload_n 3, 1) := by decide +kernel
theorem dX11_drink_18 : decode cX11_drink 18 = .ok (.invokestatic 184, 3) := by decide +kernel
theorem dX11_drink_21 : decode cX11_drink 21 = .ok (.goto 31, 3) := by decide +kernel
theorem dX11_drink_24 : decode cX11_drink 24 = .ok (.iload_n 2, 1) := by decide +kernel
theorem dX11_drink_25 : decode cX11_drink 25 = .ok (.iconst 2, 1) := by decide +kernel
theorem dX11_drink_26 : decode cX11_drink 26 = .ok (.if_icmp .ne 25, 3) := by decide +kernel
theorem dX11_drink_29 : decode cX11_drink 29 = .ok (.iload_n 3, 1) := by decide +kernel
theorem dX11_drink_30 : decode cX11_drink 30 = .ok (.iconst 0, 1) := by decide +kernel
theorem dX11_drink_31 : decode cX11_drink 31 = .ok (.iconst 1, 1) := by decide +kernel
theorem dX11_drink_32 : decode cX11_drink 32 = .ok (.aload_n 0, 1) := by decide +kernel
theorem dX11_drink_33 : decode cX11_drink 33 = .ok (.getfield 9, 3) := by decide +kernel
theorem dX11_drink_36 : decode cX11_drink 36 = .ok (.iconst 3, 1) := by decide +kernel
theorem dX11_drink_37 : decode cX11_drink 37 = .ok (.iaload, 1) := by decide +kernel
theorem dX11_drink_38 : decode cX11_drink 38 = .ok (.ishl, 1) := by decide +kernel
theorem dX11_drink_39 : decode cX11_drink 39 = .ok (.iconst 1, 1) := by decide +kernel
theorem dX11_drink_40 : decode cX11_drink 40 = .ok (.isub, 1) := by decide +kernel
theorem dX11_drink_41 : decode cX11_drink 41 = .ok (.invokestatic 70, 3) := by decide +kernel
theorem dX11_drink_44 : decode cX11_drink 44 = .ok (.ifCond .eq 7, 3) := by decide +kernel
theorem dX11_drink_47 : decode cX11_drink 47 = .ok (.iconst 1, 1) := by decide +kernel
theorem dX11_drink_48 : decode cX11_drink 48 = .ok (.goto 4, 3) := by decide +kernel
theorem dX11_drink_51 : decode cX11_drink 51 = .ok (.iconst 0, 1) := by decide +kernel
theorem dX11_drink_52 : decode cX11_drink 52 = .ok (.istore 4, 2) := by decide +kernel
theorem dX11_drink_54 : decode cX11_drink 54 = .ok (.aload_n 0, 1) := by decide +kernel
theorem dX11_drink_55 : decode cX11_drink 55 = .ok (.iload_n 1, 1) := by decide +kernel
theorem dX11_drink_56 : decode cX11_drink 56 = .ok (.invokevirtual 228, 3) := by decide +kernel
theorem dX11_drink_59 : decode cX11_drink 59 = .ok (.ifCond .eq 21, 3) := by decide +kernel
theorem dX11_drink_62 : decode cX11_drink 62 = .ok (.iload 4, 2) := by decide +kernel
theorem dX11_drink_64 : decode cX11_drink 64 = .ok (.ifCond .eq 16, 3) := by decide +kernel
theorem dX11_drink_67 : decode cX11_drink 67 = .ok (.aload_n 0, 1) := by decide +kernel
theorem dX11_drink_68 : decode cX11_drink 68 = .ok (.iload_n 1, 1) := by decide +kernel
theorem dX11_drink_69 : decode cX11_drink 69 = .ok (.iload_n 2, 1) := by decide +kernel
theorem dX11_drink_70 : decode cX11_drink 70 = .ok (.invokestatic 162, 3) := by decide +kernel
theorem dX11_drink_73 : decode cX11_drink 73 = .ok (.iload_n 3, 1) := by decide +kernel
theorem dX11_drink_74 : decode cX11_drink 74 = .ok (.invokevirtual 166, 3) := by decide +kernel
theorem dX11_drink_77 : decode cX11_drink 77 = .ok (.goto 9, 3) := by decide +kernel
theorem dX11_drink_80 : decode cX11_drink 80 = .ok (.aload_n 0, 1) := by decide +kernel
theorem dX11_drink_81 : decode cX11_drink 81 = .ok (.ldc 74, 2) := by decide +kernel
theorem dX11_drink_83 : decode cX11_drink 83 = .ok (.invokevirtual 75, 3) := by decide +kernel
theorem dX11_drink_86 : decode cX11_drink 86 = .ok (.ireturn, 1) := by decide +kernel
theorem dX11_goes_0 : decode cX11_goes 0 = .ok (.aload_n 0, 1) := by decide +kernel
theorem dX11_goes_1 : decode cX11_goes 1 = .ok (.getfield 9, 3) := by decide +kernel
theorem dX11_goes_4 : decode cX11_goes 4 = .ok (.iload_n 1, 1) := by decide +kernel
theorem dX11_goes_5 : decode cX11_goes 5 = .ok (.iconst 3, 1) := by decide +kernel
theorem dX11_goes_6 : decode cX11_goes 6 = .ok (.invokestatic 159, 3) := by decide +kernel
theorem dX11_goes_9 : decode cX11_goes 9 = .ok (.iconst 0, 1) := by decide +kernel
theorem dX11_goes_10 : decode cX11_goes 10 = .ok (.aload_n 0, 1) := by decide +kernel
theorem dX11_goes_11 : decode cX11_goes 11 = .ok (.iload_n 1, 1) := by decide +kernel
theorem dX11_goes_12 : decode cX11_goes 12 = .ok (.iconst 3, 1) := by decide +kernel
theorem dX11_goes_13 : decode cX11_goes 13 = .ok (.invokevirtual 193, 3) := by decide +kernel
theorem dX11_goes_16 : decode cX11_goes 16 = .ok (.aload_n 0, 1) := by decide +kernel
theorem dX11_goes_17 : decode cX11_goes 17 = .ok (.iload_n 1, 1) := by decide +kernel
theorem dX11_goes_18 : decode cX11_goes 18 = .ok (.invokevirtual 218, 3) := by decide +kernel
theorem dX11_goes_21 : decode cX11_goes 21 = .ok (.isub, 1) := by decide +kernel
theorem dX11_goes_22 : decode cX11_goes 22 = .ok (.invokestatic 63, 3) := by decide +kernel
theorem dX11_goes_25 : decode cX11_goes 25 = .ok (.iastore, 1) := by decide +kernel
theorem dX11_goes_26 : decode cX11_goes 26 = .ok (.aload_n 0, 1) := by decide +kernel
theorem dX11_goes_27 : decode cX11_goes 27 = .ok (.iload_n 1, 1) := by decide +kernel
theorem dX11_goes_28 : decode cX11_goes 28 = .ok (.iconst 4, 1) := by decide +kernel
theorem dX11_goes_29 : decode cX11_goes 29 = .ok (.invokevirtual 193, 3) := by decide +kernel
theorem dX11_goes_32 : decode cX11_goes 32 = .ok (.ifCond .le 18, 3) := by decide +kernel
theorem dX11_goes_35 : decode cX11_goes 35 = .ok (.aload_n 0, 1) := by decide +kernel
theorem dX11_goes_36 : decode cX11_goes 36 = .ok (.getfield 9, 3) := by decide +kernel
theorem dX11_goes_39 : decode cX11_goes 39 = .ok (.iload_n 1, 1) := by decide +kernel
theorem dX11_goes_40 : decode cX11_goes 40 = .ok (.iconst 4, 1) := by decide +kernel
theorem dX11_goes_41 : decode cX11_goes 41 = .ok (.invokestatic 159, 3) := by decide +kernel
theorem dX11_goes_44 : decode cX11_goes 44 = .ok (.dup2, 1) := by decide +kernel
theorem dX11_goes_45 : decode cX11_goes 45 = .ok (.iaload, 1) := by decide +kernel
theorem dX11_goes_46 : decode cX11_goes 46 = .ok (.iconst 1, 1) := by decide +kernel
theorem dX11_goes_47 : decode cX11_goes 47 = .ok (.isub, 1) := by decide +kernel
theorem dX11_goes_48 : decode cX11_goes 48 = .ok (.iastore, 1) := by decide +kernel
theorem dX11_goes_49 : decode cX11_goes 49 = .ok (.return_, 1) := by decide +kernel
theorem dX11_goes_50 : decode cX11_goes 50 = .ok (.aload_n 0, 1) := by decide +kernel
theorem dX11_goes_51 : decode cX11_goes 51 = .ok (.iload_n 1, 1) := by decide +kernel
theorem dX11_goes_52 : decode cX11_goes 52 = .ok (.invokevirtual 221, 3) := by decide +kernel
theorem dX11_goes_55 : decode cX11_goes 55 = .ok (.istore_n 2, 1) := by decide +kernel
theorem dX11_goes_56 : decode cX11_goes 56 = .ok (.iload_n 2, 1) := by decide +kernel
theorem dX11_goes_57 : decode cX11_goes 57 = .ok (.ifCond .lt 35, 3) := by decide +kernel
theorem dX11_goes_60 : decode cX11_goes 60 = .ok (.aload_n 0, 1) := by decide +kernel
theorem dX11_goes_61 : decode cX11_goes 61 = .ok (.getfield 9, 3) := by decide +kernel
theorem dX11_goes_64 : decode cX11_goes 64 = .ok (.iload_n 1, 1) := by decide +kernel
theorem dX11_goes_65 : decode cX11_goes 65 = .ok (.iconst 2, 1) := by decide +kernel
theorem dX11_goes_66 : decode cX11_goes 66 = .ok (.invokestatic 159, 3) := by decide +kernel
theorem dX11_goes_69 : decode cX11_goes 69 = .ok (.aload_n 0, 1) := by decide +kernel
theorem dX11_goes_70 : decode cX11_goes 70 = .ok (.iload_n 2, 1) := by decide +kernel
theorem dX11_goes_71 : decode cX11_goes 71 = .ok (.iconst 1, 1) := by decide +kernel
theorem dX11_goes_72 : decode cX11_goes 72 = .ok (.invokevirtual 178, 3) := by decide +kernel
theorem dX11_goes_75 : decode cX11_goes 75 = .ok (.iastore, 1) := by decide +kernel
theorem dX11_goes_76 : decode cX11_goes 76 = .ok (.aload_n 0, 1) := by decide +kernel
theorem dX11_goes_77 : decode cX11_goes 77 = .ok (.getfield 9, 3) := by decide +kernel
theorem dX11_goes_80 : decode cX11_goes 80 = .ok (.iload_n 1, 1) := by decide +kernel
theorem dX11_goes_81 : decode cX11_goes 81 = .ok (.iconst 4, 1) := by decide +kernel
theorem dX11_goes_82 : decode cX11_goes 82 = .ok (.invokestatic 159, 3) := by decide +kernel
theorem dX11_goes_85 : decode cX11_goes 85 = .ok (.aload_n 0, 1) := by decide +kernel
theorem dX11_goes_86 : decode cX11_goes 86 = .ok (.iload_n 2, 1) := by decide +kernel
theorem dX11_goes_87 : decode cX11_goes 87 = .ok (.iconst 2, 1) := by decide +kernel
theorem dX11_goes_88 : decode cX11_goes 88 = .ok (.invokevirtual 178, 3) := by decide +kernel
theorem dX11_goes_91 : decode cX11_goes 91 = .ok (.iastore, 1) := by decide +kernel
theorem dX11_goes_92 : decode cX11_goes 92 = .ok (.return_, 1) := by decide +kernel
theorem dX11_tastes_0 : decode cX11_tastes 0 = .ok (.aload_n 0, 1) := by decide +kernel
theorem dX11_tastes_1 : decode cX11_tastes 1 = .ok (.iload_n 2, 1) := by decide +kernel
theorem dX11_tastes_2 : decode cX11_tastes 2 = .ok (.iconst 3, 1) := by decide +kernel
theorem dX11_tastes_3 : decode cX11_tastes 3 = .ok (.invokevirtual 193, 3) := by decide +kernel
theorem dX11_tastes_6 : decode cX11_tastes 6 = .ok (.istore_n 3, 1) := by decide +kernel
theorem dX11_tastes_7 : decode cX11_tastes 7 = .ok (.aload_n 0, 1) := by decide +kernel
theorem dX11_tastes_8 : decode cX11_tastes 8 = .ok (.iload_n 2, 1) := by decide +kernel
theorem dX11_tastes_9 : decode cX11_tastes 9 = .ok (.iconst 2, 1) := by decide +kernel
theorem dX11_tastes_10 : decode cX11_tastes 10 = .ok (.invokevirtual 193, 3) := by decide +kernel
theorem dX11_tastes_13 : decode cX11_tastes 13 = .ok (.aload_n 0, 1) := by decide +kernel
theorem dX11_tastes_14 : decode cX11_tastes 14 = .ok (.iload_n 1, 1) := by decide +kernel
theorem dX11_tastes_15 : decode cX11_tastes 15 = .ok (.iconst 0, 1) := by decide +kernel
theorem dX11_tastes_16 : decode cX11_tastes 16 = .ok (.invokevirtual 196, 3) := by decide +kernel
theorem dX11_tastes_19 : decode cX11_tastes 19 = .ok (.if_icmp .ne 30, 3) := by decide +kernel
theorem dX11_tastes_22 : decode cX11_tastes 22 = .ok (.aload_n 0, 1) := by decide +kernel
theorem dX11_tastes_23 : decode cX11_tastes 23 = .ok (.iload_n 2, 1) := by decide +kernel
theorem dX11_tastes_24 : decode cX11_tastes 24 = .ok (.iconst 4, 1) := by decide +kernel
theorem dX11_tastes_25 : decode cX11_tastes 25 = .ok (.invokevirtual 193, 3) := by decide +kernel
theorem dX11_tastes_28 : decode cX11_tastes 28 = .ok (.ifCond .ne 21, 3) := by decide +kernel
theorem dX11_tastes_31 : decode cX11_tastes 31 = .ok (.iload_n 3, 1) := by decide +kernel
theorem dX11_tastes_32 : decode cX11_tastes 32 = .ok (.aload_n 0, 1) := by decide +kernel
theorem dX11_tastes_33 : decode cX11_tastes 33 = .ok (.iload_n 1, 1) := by decide +kernel
theorem dX11_tastes_34 : decode cX11_tastes 34 = .ok (.iconst 1, 1) := by decide +kernel
theorem dX11_tastes_35 : decode cX11_tastes 35 = .ok (.invokevirtual 196, 3) := by decide +kernel
theorem dX11_tastes_38 : decode cX11_tastes 38 = .ok (.if_icmp .lt 11, 3) := by decide +kernel
theorem dX11_tastes_41 : decode cX11_tastes 41 = .ok (.iload_n 3, 1) := by decide +kernel
theorem dX11_tastes_42 : decode cX11_tastes 42 = .ok (.ifCond .le 7, 3) := by decide +kernel
theorem dX11_tastes_45 : decode cX11_tastes 45 = .ok (.iconst 1, 1) := by decide +kernel
theorem dX11_tastes_46 : decode cX11_tastes 46 = .ok (.goto 4, 3) := by decide +kernel
theorem dX11_tastes_49 : decode cX11_tastes 49 = .ok (.iconst 0, 1) := by decide +kernel
theorem dX11_tastes_50 : decode cX11_tastes 50 = .ok (.istore 4, 2) := by decide +kernel
theorem dX11_tastes_52 : decode cX11_tastes 52 = .ok (.iload 4, 2) := by decide +kernel
theorem dX11_tastes_54 : decode cX11_tastes 54 = .ok (.ifCond .eq 28, 3) := by decide +kernel
theorem dX11_tastes_57 : decode cX11_tastes 57 = .ok (.aload_n 0, 1) := by decide +kernel
theorem dX11_tastes_58 : decode cX11_tastes 58 = .ok (.iconst 1, 1) := by decide +kernel
theorem dX11_tastes_59 : decode cX11_tastes 59 = .ok (.iload_n 3, 1) := by decide +kernel
theorem dX11_tastes_60 : decode cX11_tastes 60 = .ok (.aload_n 0, 1) := by decide +kernel
theorem dX11_tastes_61 : decode cX11_tastes 61 = .ok (.iload_n 1, 1) := by decide +kernel
theorem dX11_tastes_62 : decode cX11_tastes 62 = .ok (.iconst 1, 1) := by decide +kernel
theorem dX11_tastes_63 : decode cX11_tastes 63 = .ok (.invokevirtual 196, 3) := by decide +kernel
theorem dX11_tastes_66 : decode cX11_tastes 66 = .ok (.aload_n 0, 1) := by decide +kernel
theorem dX11_tastes_67 : decode cX11_tastes 67 = .ok (.getfield 9, 3) := by decide +kernel
theorem dX11_tastes_70 : decode cX11_tastes 70 = .ok (.iconst 0, 1) := by decide +kernel
theorem dX11_tastes_71 : decode cX11_tastes 71 = .ok (.iaload, 1) := by decide +kernel
theorem dX11_tastes_72 : decode cX11_tastes 72 = .ok (.invokevirtual 152, 3) := by decide +kernel
theorem dX11_tastes_75 : decode cX11_tastes 75 = .ok (.ifCond .eq 7, 3) := by decide +kernel
theorem dX11_tastes_78 : decode cX11_tastes 78 = .ok (.iconst 1, 1) := by decide +kernel
theorem dX11_tastes_79 : decode cX11_tastes 79 = .ok (.goto 4, 3) := by decide +kernel
theorem dX11_tastes_82 : decode cX11_tastes 82 = .ok (.iconst 0, 1) := by decide +kernel
theorem dX11_tastes_83 : decode cX11_tastes 83 = .ok (.ireturn, 1) := by decide +kernel
theorem dX11_hour_0 : decode cX11_hour 0 = .ok (.iconst 0, 1) := by decide +kernel
theorem dX11_hour_1 : decode cX11_hour 1 = .ok (.istore_n 1, 1) := by decide +kernel
theorem dX11_hour_2 : decode cX11_hour 2 = .ok (.iload_n 1, 1) := by decide +kernel
theorem dX11_hour_3 : decode cX11_hour 3 = .ok (.aload_n 0, 1) := by decide +kernel
theorem dX11_hour_4 : decode cX11_hour 4 = .ok (.getfield 9, 3) := by decide +kernel
theorem dX11_hour_7 : decode cX11_hour 7 = .ok (.iconst 3, 1) := by decide +kernel
theorem dX11_hour_8 : decode cX11_hour 8 = .ok (.iaload, 1) := by decide +kernel
theorem dX11_hour_9 : decode cX11_hour 9 = .ok (.if_icmp .ge 14, 3) := by decide +kernel
theorem dX11_hour_12 : decode cX11_hour 12 = .ok (.aload_n 0, 1) := by decide +kernel
theorem dX11_hour_13 : decode cX11_hour 13 = .ok (.iload_n 1, 1) := by decide +kernel
theorem dX11_hour_14 : decode cX11_hour 14 = .ok (.invokevirtual 231, 3) := by decide +kernel
theorem dX11_hour_17 : decode cX11_hour 17 = .ok (.iinc 1 1, 3) := by decide +kernel
theorem dX11_hour_20 : decode cX11_hour 20 = .ok (.goto (-18), 3) := by decide +kernel
theorem dX11_hour_23 : decode cX11_hour 23 = .ok (.iconst 0, 1) := by decide +kernel
theorem dX11_hour_24 : decode cX11_hour 24 = .ok (.istore_n 1, 1) := by decide +kernel
theorem dX11_hour_25 : decode cX11_hour 25 = .ok (.iload_n 1, 1) := by decide +kernel
theorem dX11_hour_26 : decode cX11_hour 26 = .ok (.aload_n 0, 1) := by decide +kernel
theorem dX11_hour_27 : decode cX11_hour 27 = .ok (.getfield 9, 3) := by decide +kernel
theorem dX11_hour_30 : decode cX11_hour 30 = .ok (.iconst 4, 1) := by decide +kernel
theorem dX11_hour_31 : decode cX11_hour 31 = .ok (.iaload, 1) := by decide +kernel
theorem dX11_hour_32 : decode cX11_hour 32 = .ok (.if_icmp .ge 56, 3) := by decide +kernel
theorem dX11_hour_35 : decode cX11_hour 35 = .ok (.iconst 0, 1) := by decide +kernel
theorem dX11_hour_36 : decode cX11_hour 36 = .ok (.istore_n 2, 1) := by decide +kernel
theorem dX11_hour_37 : decode cX11_hour 37 = .ok (.iload_n 2, 1) := by decide +kernel
theorem dX11_hour_38 : decode cX11_hour 38 = .ok (.aload_n 0, 1) := by decide +kernel
theorem dX11_hour_39 : decode cX11_hour 39 = .ok (.getfield 9, 3) := by decide +kernel
theorem dX11_hour_42 : decode cX11_hour 42 = .ok (.iconst 3, 1) := by decide +kernel
theorem dX11_hour_43 : decode cX11_hour 43 = .ok (.iaload, 1) := by decide +kernel
theorem dX11_hour_44 : decode cX11_hour 44 = .ok (.if_icmp .ge 38, 3) := by decide +kernel
theorem dX11_hour_47 : decode cX11_hour 47 = .ok (.aload_n 0, 1) := by decide +kernel
theorem dX11_hour_48 : decode cX11_hour 48 = .ok (.getfield 9, 3) := by decide +kernel
theorem dX11_hour_51 : decode cX11_hour 51 = .ok (.iload_n 1, 1) := by decide +kernel
theorem dX11_hour_52 : decode cX11_hour 52 = .ok (.iconst 2, 1) := by decide +kernel
theorem dX11_hour_53 : decode cX11_hour 53 = .ok (.invokestatic 162, 3) := by decide +kernel
theorem dX11_hour_56 : decode cX11_hour 56 = .ok (.dup2, 1) := by decide +kernel
theorem dX11_hour_57 : decode cX11_hour 57 = .ok (.iaload, 1) := by decide +kernel
theorem dX11_hour_58 : decode cX11_hour 58 = .ok (.aload_n 0, 1) := by decide +kernel
theorem dX11_hour_59 : decode cX11_hour 59 = .ok (.iload_n 1, 1) := by decide +kernel
theorem dX11_hour_60 : decode cX11_hour 60 = .ok (.iload_n 2, 1) := by decide +kernel
theorem dX11_hour_61 : decode cX11_hour 61 = .ok (.invokevirtual 234, 3) := by decide +kernel
theorem dX11_hour_64 : decode cX11_hour 64 = .ok (.ifCond .eq 9, 3) := by decide +kernel
theorem dX11_hour_67 : decode cX11_hour 67 = .ok (.iconst 1, 1) := by decide +kernel
theorem dX11_hour_68 : decode cX11_hour 68 = .ok (.iload_n 2, 1) := by decide +kernel
theorem dX11_hour_69 : decode cX11_hour 69 = .ok (.ishl, 1) := by decide +kernel
theorem dX11_hour_70 : decode cX11_hour 70 = .ok (.goto 4, 3) := by decide +kernel
theorem dX11_hour_73 : decode cX11_hour 73 = .ok (.iconst 0, 1) := by decide +kernel
theorem dX11_hour_74 : decode cX11_hour 74 = .ok (.ior, 1) := by decide +kernel
theorem dX11_hour_75 : decode cX11_hour 75 = .ok (.iastore, 1) := by decide +kernel
theorem dX11_hour_76 : decode cX11_hour 76 = .ok (.iinc 2 1, 3) := by decide +kernel
theorem dX11_hour_79 : decode cX11_hour 79 = .ok (.goto (-42), 3) := by decide +kernel
theorem dX11_hour_82 : decode cX11_hour 82 = .ok (.iinc 1 1, 3) := by decide +kernel
theorem dX11_hour_85 : decode cX11_hour 85 = .ok (.goto (-60), 3) := by decide +kernel
theorem dX11_hour_88 : decode cX11_hour 88 = .ok (.aload_n 0, 1) := by decide +kernel
theorem dX11_hour_89 : decode cX11_hour 89 = .ok (.getfield 9, 3) := by decide +kernel
theorem dX11_hour_92 : decode cX11_hour 92 = .ok (.iconst 0, 1) := by decide +kernel
theorem dX11_hour_93 : decode cX11_hour 93 = .ok (.dup2, 1) := by decide +kernel
theorem dX11_hour_94 : decode cX11_hour 94 = .ok (.iaload, 1) := by decide +kernel
theorem dX11_hour_95 : decode cX11_hour 95 = .ok (.iconst 1, 1) := by decide +kernel
theorem dX11_hour_96 : decode cX11_hour 96 = .ok (.iadd, 1) := by decide +kernel
theorem dX11_hour_97 : decode cX11_hour 97 = .ok (.iastore, 1) := by decide +kernel
theorem dX11_hour_98 : decode cX11_hour 98 = .ok (.return_, 1) := by decide +kernel
theorem dX11_hoursGo_0 : decode cX11_hoursGo 0 = .ok (.iconst 0, 1) := by decide +kernel
theorem dX11_hoursGo_1 : decode cX11_hoursGo 1 = .ok (.istore_n 2, 1) := by decide +kernel
theorem dX11_hoursGo_2 : decode cX11_hoursGo 2 = .ok (.iload_n 2, 1) := by decide +kernel
theorem dX11_hoursGo_3 : decode cX11_hoursGo 3 = .ok (.iload_n 1, 1) := by decide +kernel
theorem dX11_hoursGo_4 : decode cX11_hoursGo 4 = .ok (.if_icmp .ge 13, 3) := by decide +kernel
theorem dX11_hoursGo_7 : decode cX11_hoursGo 7 = .ok (.aload_n 0, 1) := by decide +kernel
theorem dX11_hoursGo_8 : decode cX11_hoursGo 8 = .ok (.invokevirtual 237, 3) := by decide +kernel
theorem dX11_hoursGo_11 : decode cX11_hoursGo 11 = .ok (.iinc 2 1, 3) := by decide +kernel
theorem dX11_hoursGo_14 : decode cX11_hoursGo 14 = .ok (.goto (-12), 3) := by decide +kernel
theorem dX11_hoursGo_17 : decode cX11_hoursGo 17 = .ok (.return_, 1) := by decide +kernel
theorem dX11_knowing_0 : decode cX11_knowing 0 = .ok (.iconst 0, 1) := by decide +kernel
theorem dX11_knowing_1 : decode cX11_knowing 1 = .ok (.istore_n 1, 1) := by decide +kernel
theorem dX11_knowing_2 : decode cX11_knowing 2 = .ok (.iconst 0, 1) := by decide +kernel
theorem dX11_knowing_3 : decode cX11_knowing 3 = .ok (.istore_n 2, 1) := by decide +kernel
theorem dX11_knowing_4 : decode cX11_knowing 4 = .ok (.iload_n 2, 1) := by decide +kernel
theorem dX11_knowing_5 : decode cX11_knowing 5 = .ok (.aload_n 0, 1) := by decide +kernel
theorem dX11_knowing_6 : decode cX11_knowing 6 = .ok (.getfield 9, 3) := by decide +kernel
theorem dX11_knowing_9 : decode cX11_knowing 9 = .ok (.iconst 4, 1) := by decide +kernel
theorem dX11_knowing_10 : decode cX11_knowing 10 = .ok (.iaload, 1) := by decide +kernel
theorem dX11_knowing_11 : decode cX11_knowing 11 = .ok (.if_icmp .ge 26, 3) := by decide +kernel
theorem dX11_knowing_14 : decode cX11_knowing 14 = .ok (.iload_n 1, 1) := by decide +kernel
theorem dX11_knowing_15 : decode cX11_knowing 15 = .ok (.aload_n 0, 1) := by decide +kernel
theorem dX11_knowing_16 : decode cX11_knowing 16 = .ok (.iload_n 2, 1) := by decide +kernel
theorem dX11_knowing_17 : decode cX11_knowing 17 = .ok (.iconst 2, 1) := by decide +kernel
theorem dX11_knowing_18 : decode cX11_knowing 18 = .ok (.invokevirtual 196, 3) := by decide +kernel
theorem dX11_knowing_21 : decode cX11_knowing 21 = .ok (.ifCond .eq 7, 3) := by decide +kernel
theorem dX11_knowing_24 : decode cX11_knowing 24 = .ok (.iconst 1, 1) := by decide +kernel
theorem dX11_knowing_25 : decode cX11_knowing 25 = .ok (.goto 4, 3) := by decide +kernel
theorem dX11_knowing_28 : decode cX11_knowing 28 = .ok (.iconst 0, 1) := by decide +kernel
theorem dX11_knowing_29 : decode cX11_knowing 29 = .ok (.iadd, 1) := by decide +kernel
theorem dX11_knowing_30 : decode cX11_knowing 30 = .ok (.istore_n 1, 1) := by decide +kernel
theorem dX11_knowing_31 : decode cX11_knowing 31 = .ok (.iinc 2 1, 3) := by decide +kernel
theorem dX11_knowing_34 : decode cX11_knowing 34 = .ok (.goto (-30), 3) := by decide +kernel
theorem dX11_knowing_37 : decode cX11_knowing 37 = .ok (.iload_n 1, 1) := by decide +kernel
theorem dX11_knowing_38 : decode cX11_knowing 38 = .ok (.ireturn, 1) := by decide +kernel
theorem dX11_hours_0 : decode cX11_hours 0 = .ok (.iload_n 1, 1) := by decide +kernel
theorem dX11_hours_1 : decode cX11_hours 1 = .ok (.iconst 1, 1) := by decide +kernel
theorem dX11_hours_2 : decode cX11_hours 2 = .ok (.bipush 99, 2) := by decide +kernel
theorem dX11_hours_4 : decode cX11_hours 4 = .ok (.invokestatic 70, 3) := by decide +kernel
theorem dX11_hours_7 : decode cX11_hours 7 = .ok (.ifCond .ne 10, 3) := by decide +kernel
theorem dX11_hours_10 : decode cX11_hours 10 = .ok (.aload_n 0, 1) := by decide +kernel
theorem dX11_hours_11 : decode cX11_hours 11 = .ok (.ldc 74, 2) := by decide +kernel
theorem dX11_hours_13 : decode cX11_hours 13 = .ok (.invokevirtual 75, 3) := by decide +kernel
theorem dX11_hours_16 : decode cX11_hours 16 = .ok (.ireturn, 1) := by decide +kernel
theorem dX11_hours_17 : decode cX11_hours 17 = .ok (.aload_n 0, 1) := by decide +kernel
theorem dX11_hours_18 : decode cX11_hours 18 = .ok (.getfield 9, 3) := by decide +kernel
theorem dX11_hours_21 : decode cX11_hours 21 = .ok (.iconst 0, 1) := by decide +kernel
theorem dX11_hours_22 : decode cX11_hours 22 = .ok (.iaload, 1) := by decide +kernel
theorem dX11_hours_23 : decode cX11_hours 23 = .ok (.iload_n 1, 1) := by decide +kernel
theorem dX11_hours_24 : decode cX11_hours 24 = .ok (.iadd, 1) := by decide +kernel
theorem dX11_hours_25 : decode cX11_hours 25 = .ok (.sipush 9999, 3) := by decide +kernel
theorem dX11_hours_28 : decode cX11_hours 28 = .ok (.if_icmp .le 10, 3) := by decide +kernel
theorem dX11_hours_31 : decode cX11_hours 31 = .ok (.aload_n 0, 1) := by decide +kernel
theorem dX11_hours_32 : decode cX11_hours 32 = .ok (.ldc 165, 2) := by decide +kernel
theorem dX11_hours_34 : decode cX11_hours 34 = .ok (.invokevirtual 75, 3) := by decide +kernel
theorem dX11_hours_37 : decode cX11_hours 37 = .ok (.ireturn, 1) := by decide +kernel
theorem dX11_hours_38 : decode cX11_hours 38 = .ok (.aload_n 0, 1) := by decide +kernel
theorem dX11_hours_39 : decode cX11_hours 39 = .ok (.iload_n 1, 1) := by decide +kernel
theorem dX11_hours_40 : decode cX11_hours 40 = .ok (.invokevirtual 240, 3) := by decide +kernel
theorem dX11_hours_43 : decode cX11_hours 43 = .ok (.aload_n 0, 1) := by decide +kernel
theorem dX11_hours_44 : decode cX11_hours 44 = .ok (.invokevirtual 243, 3) := by decide +kernel
theorem dX11_hours_47 : decode cX11_hours 47 = .ok (.ireturn, 1) := by decide +kernel
theorem dX11_drawn_0 : decode cX11_drawn 0 = .ok (.aload_n 0, 1) := by decide +kernel
theorem dX11_drawn_1 : decode cX11_drawn 1 = .ok (.getfield 9, 3) := by decide +kernel
theorem dX11_drawn_4 : decode cX11_drawn 4 = .ok (.bipush 6, 2) := by decide +kernel
theorem dX11_drawn_6 : decode cX11_drawn 6 = .ok (.aload_n 0, 1) := by decide +kernel
theorem dX11_drawn_7 : decode cX11_drawn 7 = .ok (.getfield 9, 3) := by decide +kernel
theorem dX11_drawn_10 : decode cX11_drawn 10 = .ok (.bipush 6, 2) := by decide +kernel
theorem dX11_drawn_12 : decode cX11_drawn 12 = .ok (.iaload, 1) := by decide +kernel
theorem dX11_drawn_13 : decode cX11_drawn 13 = .ok (.ldc 246, 2) := by decide +kernel
theorem dX11_drawn_15 : decode cX11_drawn 15 = .ok (.imul, 1) := by decide +kernel
theorem dX11_drawn_16 : decode cX11_drawn 16 = .ok (.sipush 12345, 3) := by decide +kernel
theorem dX11_drawn_19 : decode cX11_drawn 19 = .ok (.iadd, 1) := by decide +kernel
theorem dX11_drawn_20 : decode cX11_drawn 20 = .ok (.iastore, 1) := by decide +kernel
theorem dX11_drawn_21 : decode cX11_drawn 21 = .ok (.aload_n 0, 1) := by decide +kernel
theorem dX11_drawn_22 : decode cX11_drawn 22 = .ok (.getfield 9, 3) := by decide +kernel
theorem dX11_drawn_25 : decode cX11_drawn 25 = .ok (.bipush 6, 2) := by decide +kernel
theorem dX11_drawn_27 : decode cX11_drawn 27 = .ok (.iaload, 1) := by decide +kernel
theorem dX11_drawn_28 : decode cX11_drawn 28 = .ok (.bipush 8, 2) := by decide +kernel
theorem dX11_drawn_30 : decode cX11_drawn 30 = .ok (.iushr, 1) := by decide +kernel
theorem dX11_drawn_31 : decode cX11_drawn 31 = .ok (.ireturn, 1) := by decide +kernel
theorem dX11_loose_0 : decode cX11_loose 0 = .ok (.iload_n 1, 1) := by decide +kernel
theorem dX11_loose_1 : decode cX11_loose 1 = .ok (.iconst 1, 1) := by decide +kernel
theorem dX11_loose_2 : decode cX11_loose 2 = .ok (.bipush 40, 2) := by decide +kernel
theorem dX11_loose_4 : decode cX11_loose 4 = .ok (.invokestatic 70, 3) := by decide +kernel
theorem dX11_loose_7 : decode cX11_loose 7 = .ok (.ifCond .ne 10, 3) := by decide +kernel
theorem dX11_loose_10 : decode cX11_loose 10 = .ok (.aload_n 0, 1) := by decide +kernel
theorem dX11_loose_11 : decode cX11_loose 11 = .ok (.ldc 74, 2) := by decide +kernel
theorem dX11_loose_13 : decode cX11_loose 13 = .ok (.invokevirtual 75, 3) := by decide +kernel
theorem dX11_loose_16 : decode cX11_loose 16 = .ok (.ireturn, 1) := by decide +kernel
theorem dX11_loose_17 : decode cX11_loose 17 = .ok (.aload_n 0, 1) := by decide +kernel
theorem dX11_loose_18 : decode cX11_loose 18 = .ok (.getfield 9, 3) := by decide +kernel
theorem dX11_loose_21 : decode cX11_loose 21 = .ok (.iconst 0, 1) := by decide +kernel
theorem dX11_loose_22 : decode cX11_loose 22 = .ok (.iaload, 1) := by decide +kernel
theorem dX11_loose_23 : decode cX11_loose 23 = .ok (.iload_n 1, 1) := by decide +kernel
theorem dX11_loose_24 : decode cX11_loose 24 = .ok (.iadd, 1) := by decide +kernel
theorem dX11_loose_25 : decode cX11_loose 25 = .ok (.sipush 9999, 3) := by decide +kernel
theorem dX11_loose_28 : decode cX11_loose 28 = .ok (.if_icmp .le 10, 3) := by decide +kernel
theorem dX11_loose_31 : decode cX11_loose 31 = .ok (.aload_n 0, 1) := by decide +kernel
theorem dX11_loose_32 : decode cX11_loose 32 = .ok (.ldc 165, 2) := by decide +kernel
theorem dX11_loose_34 : decode cX11_loose 34 = .ok (.invokevirtual 75, 3) := by decide +kernel
theorem dX11_loose_37 : decode cX11_loose 37 = .ok (.ireturn, 1) := by decide +kernel
theorem dX11_loose_38 : decode cX11_loose 38 = .ok (.iconst 0, 1) := by decide +kernel
theorem dX11_loose_39 : decode cX11_loose 39 = .ok (.istore_n 2, 1) := by decide +kernel
theorem dX11_loose_40 : decode cX11_loose 40 = .ok (.iload_n 2, 1) := by decide +kernel
theorem dX11_loose_41 : decode cX11_loose 41 = .ok (.iload_n 1, 1) := by decide +kernel
theorem dX11_loose_42 : decode cX11_loose 42 = .ok (.if_icmp .ge 26, 3) := by decide +kernel
theorem dX11_loose_45 : decode cX11_loose 45 = .ok (.aload_n 0, 1) := by decide +kernel
theorem dX11_loose_46 : decode cX11_loose 46 = .ok (.getfield 9, 3) := by decide +kernel
theorem dX11_loose_49 : decode cX11_loose 49 = .ok (.iconst 5, 1) := by decide +kernel
theorem dX11_loose_50 : decode cX11_loose 50 = .ok (.aload_n 0, 1) := by decide +kernel
theorem dX11_loose_51 : decode cX11_loose 51 = .ok (.invokevirtual 247, 3) := by decide +kernel
theorem dX11_loose_54 : decode cX11_loose 54 = .ok (.bipush 10, 2) := by decide +kernel
theorem dX11_loose_56 : decode cX11_loose 56 = .ok (.irem, 1) := by decide +kernel
theorem dX11_loose_57 : decode cX11_loose 57 = .ok (.iastore, 1) := by decide +kernel
theorem dX11_loose_58 : decode cX11_loose 58 = .ok (.aload_n 0, 1) := by decide +kernel
theorem dX11_loose_59 : decode cX11_loose 59 = .ok (.invokevirtual 237, 3) := by decide +kernel
theorem dX11_loose_62 : decode cX11_loose 62 = .ok (.iinc 2 1, 3) := by decide +kernel
theorem dX11_loose_65 : decode cX11_loose 65 = .ok (.goto (-25), 3) := by decide +kernel
theorem dX11_loose_68 : decode cX11_loose 68 = .ok (.aload_n 0, 1) := by decide +kernel
theorem dX11_loose_69 : decode cX11_loose 69 = .ok (.invokevirtual 243, 3) := by decide +kernel
theorem dX11_loose_72 : decode cX11_loose 72 = .ok (.ireturn, 1) := by decide +kernel
theorem dX11_isBehind_0 : decode cX11_isBehind 0 = .ok (.iload_n 0, 1) := by decide +kernel
theorem dX11_isBehind_1 : decode cX11_isBehind 1 = .ok (.iconst 0, 1) := by decide +kernel
theorem dX11_isBehind_2 : decode cX11_isBehind 2 = .ok (.bipush 99, 2) := by decide +kernel
theorem dX11_isBehind_4 : decode cX11_isBehind 4 = .ok (.invokestatic 70, 3) := by decide +kernel
theorem dX11_isBehind_7 : decode cX11_isBehind 7 = .ok (.ireturn, 1) := by decide +kernel
theorem dX11_then_0 : decode cX11_then 0 = .ok (.iload_n 1, 1) := by decide +kernel
theorem dX11_then_1 : decode cX11_then 1 = .ok (.invokestatic 250, 3) := by decide +kernel
theorem dX11_then_4 : decode cX11_then 4 = .ok (.ifCond .eq 11, 3) := by decide +kernel
theorem dX11_then_7 : decode cX11_then 7 = .ok (.aload_n 0, 1) := by decide +kernel
theorem dX11_then_8 : decode cX11_then 8 = .ok (.iload_n 2, 1) := by decide +kernel
theorem dX11_then_9 : decode cX11_then 9 = .ok (.invokevirtual 228, 3) := by decide +kernel
theorem dX11_then_12 : decode cX11_then 12 = .ok (.ifCond .ne 10, 3) := by decide +kernel
theorem dX11_then_15 : decode cX11_then 15 = .ok (.aload_n 0, 1) := by decide +kernel
theorem dX11_then_16 : decode cX11_then 16 = .ok (.ldc 74, 2) := by decide +kernel
theorem dX11_then_18 : decode cX11_then 18 = .ok (.invokevirtual 75, 3) := by decide +kernel
theorem dX11_then_21 : decode cX11_then 21 = .ok (.ireturn, 1) := by decide +kernel
theorem dX11_then_22 : decode cX11_then 22 = .ok (.aload_n 0, 1) := by decide +kernel
theorem dX11_then_23 : decode cX11_then 23 = .ok (.getfield 9, 3) := by decide +kernel
theorem dX11_then_26 : decode cX11_then 26 = .ok (.aload_n 0, 1) := by decide +kernel
theorem dX11_then_27 : decode cX11_then 27 = .ok (.getfield 16, 3) := by decide +kernel
theorem dX11_then_30 : decode cX11_then 30 = .ok (.invokestatic 66, 3) := by decide +kernel
theorem dX11_then_33 : decode cX11_then 33 = .ok (.aload_n 0, 1) := by decide +kernel
theorem dX11_then_34 : decode cX11_then 34 = .ok (.iload_n 1, 1) := by decide +kernel
theorem dX11_then_35 : decode cX11_then 35 = .ok (.invokevirtual 240, 3) := by decide +kernel
theorem dX11_then_38 : decode cX11_then 38 = .ok (.aload_n 0, 1) := by decide +kernel
theorem dX11_then_39 : decode cX11_then 39 = .ok (.aload_n 0, 1) := by decide +kernel
theorem dX11_then_40 : decode cX11_then 40 = .ok (.iload_n 2, 1) := by decide +kernel
theorem dX11_then_41 : decode cX11_then 41 = .ok (.iconst 2, 1) := by decide +kernel
theorem dX11_then_42 : decode cX11_then 42 = .ok (.invokevirtual 196, 3) := by decide +kernel
theorem dX11_then_45 : decode cX11_then 45 = .ok (.invokevirtual 253, 3) := by decide +kernel
theorem dX11_then_48 : decode cX11_then 48 = .ok (.ireturn, 1) := by decide +kernel
theorem dX11_knows_0 : decode cX11_knows 0 = .ok (.aload_n 0, 1) := by decide +kernel
theorem dX11_knows_1 : decode cX11_knows 1 = .ok (.iload_n 1, 1) := by decide +kernel
theorem dX11_knows_2 : decode cX11_knows 2 = .ok (.iconst 2, 1) := by decide +kernel
theorem dX11_knows_3 : decode cX11_knows 3 = .ok (.invokevirtual 196, 3) := by decide +kernel
theorem dX11_knows_6 : decode cX11_knows 6 = .ok (.iload_n 2, 1) := by decide +kernel
theorem dX11_knows_7 : decode cX11_knows 7 = .ok (.invokestatic 199, 3) := by decide +kernel
theorem dX11_knows_10 : decode cX11_knows 10 = .ok (.ireturn, 1) := by decide +kernel
theorem dX11_learns_0 : decode cX11_learns 0 = .ok (.aload_n 0, 1) := by decide +kernel
theorem dX11_learns_1 : decode cX11_learns 1 = .ok (.iload_n 1, 1) := by decide +kernel
theorem dX11_learns_2 : decode cX11_learns 2 = .ok (.invokevirtual 228, 3) := by decide +kernel
theorem dX11_learns_5 : decode cX11_learns 5 = .ok (.ifCond .eq 11, 3) := by decide +kernel
theorem dX11_learns_8 : decode cX11_learns 8 = .ok (.aload_n 0, 1) := by decide +kernel
theorem dX11_learns_9 : decode cX11_learns 9 = .ok (.iload_n 2, 1) := by decide +kernel
theorem dX11_learns_10 : decode cX11_learns 10 = .ok (.invokevirtual 215, 3) := by decide +kernel
theorem dX11_learns_13 : decode cX11_learns 13 = .ok (.ifCond .ne 10, 3) := by decide +kernel
theorem dX11_learns_16 : decode cX11_learns 16 = .ok (.aload_n 0, 1) := by decide +kernel
theorem dX11_learns_17 : decode cX11_learns 17 = .ok (.ldc 74, 2) := by decide +kernel
theorem dX11_learns_19 : decode cX11_learns 19 = .ok (.invokevirtual 75, 3) := by decide +kernel
theorem dX11_learns_22 : decode cX11_learns 22 = .ok (.ireturn, 1) := by decide +kernel
theorem dX11_learns_23 : decode cX11_learns 23 = .ok (.aload_n 0, 1) := by decide +kernel
theorem dX11_learns_24 : decode cX11_learns 24 = .ok (.getfield 9, 3) := by decide +kernel
theorem dX11_learns_27 : decode cX11_learns 27 = .ok (.aload_n 0, 1) := by decide +kernel
theorem dX11_learns_28 : decode cX11_learns 28 = .ok (.getfield 16, 3) := by decide +kernel
theorem dX11_learns_31 : decode cX11_learns 31 = .ok (.invokestatic 66, 3) := by decide +kernel
theorem dX11_learns_34 : decode cX11_learns 34 = .ok (.iconst 0, 1) := by decide +kernel
theorem dX11_learns_35 : decode cX11_learns 35 = .ok (.istore_n 3, 1) := by decide +kernel
theorem dX11_learns_36 : decode cX11_learns 36 = .ok (.iload_n 3, 1) := by decide +kernel
theorem dX11_learns_37 : decode cX11_learns 37 = .ok (.bipush 99, 2) := by decide +kernel
theorem dX11_learns_39 : decode cX11_learns 39 = .ok (.if_icmp .ge 22, 3) := by decide +kernel
theorem dX11_learns_42 : decode cX11_learns 42 = .ok (.aload_n 0, 1) := by decide +kernel
theorem dX11_learns_43 : decode cX11_learns 43 = .ok (.iload_n 1, 1) := by decide +kernel
theorem dX11_learns_44 : decode cX11_learns 44 = .ok (.iload_n 2, 1) := by decide +kernel
theorem dX11_learns_45 : decode cX11_learns 45 = .ok (.invokevirtual 256, 3) := by decide +kernel
theorem dX11_learns_48 : decode cX11_learns 48 = .ok (.ifCond .ne 13, 3) := by decide +kernel
theorem dX11_learns_51 : decode cX11_learns 51 = .ok (.aload_n 0, 1) := by decide +kernel
theorem dX11_learns_52 : decode cX11_learns 52 = .ok (.invokevirtual 237, 3) := by decide +kernel
theorem dX11_learns_55 : decode cX11_learns 55 = .ok (.iinc 3 1, 3) := by decide +kernel
theorem dX11_learns_58 : decode cX11_learns 58 = .ok (.goto (-22), 3) := by decide +kernel
theorem dX11_learns_61 : decode cX11_learns 61 = .ok (.aload_n 0, 1) := by decide +kernel
theorem dX11_learns_62 : decode cX11_learns 62 = .ok (.iload_n 1, 1) := by decide +kernel
theorem dX11_learns_63 : decode cX11_learns 63 = .ok (.iload_n 2, 1) := by decide +kernel
theorem dX11_learns_64 : decode cX11_learns 64 = .ok (.invokevirtual 256, 3) := by decide +kernel
theorem dX11_learns_67 : decode cX11_learns 67 = .ok (.istore 4, 2) := by decide +kernel
theorem dX11_learns_69 : decode cX11_learns 69 = .ok (.aload_n 0, 1) := by decide +kernel
theorem dX11_learns_70 : decode cX11_learns 70 = .ok (.getfield 16, 3) := by decide +kernel
theorem dX11_learns_73 : decode cX11_learns 73 = .ok (.aload_n 0, 1) := by decide +kernel
theorem dX11_learns_74 : decode cX11_learns 74 = .ok (.getfield 9, 3) := by decide +kernel
theorem dX11_learns_77 : decode cX11_learns 77 = .ok (.invokestatic 66, 3) := by decide +kernel
theorem dX11_learns_80 : decode cX11_learns 80 = .ok (.iload 4, 2) := by decide +kernel
theorem dX11_learns_82 : decode cX11_learns 82 = .ok (.ifCond .eq 7, 3) := by decide +kernel
theorem dX11_learns_85 : decode cX11_learns 85 = .ok (.iload_n 3, 1) := by decide +kernel
theorem dX11_learns_86 : decode cX11_learns 86 = .ok (.goto 10, 3) := by decide +kernel
theorem dX11_learns_89 : decode cX11_learns 89 = .ok (.aload_n 0, 1) := by decide +kernel
theorem dX11_learns_90 : decode cX11_learns 90 = .ok (.ldc_w 259, 3) := by decide +kernel
theorem dX11_learns_93 : decode cX11_learns 93 = .ok (.invokevirtual 75, 3) := by decide +kernel
theorem dX11_learns_96 : decode cX11_learns 96 = .ok (.ireturn, 1) := by decide +kernel
theorem dX11_knowersBehind_0 : decode cX11_knowersBehind 0 = .ok (.aload_n 0, 1) := by decide +kernel
theorem dX11_knowersBehind_1 : decode cX11_knowersBehind 1 = .ok (.iload_n 2, 1) := by decide +kernel
theorem dX11_knowersBehind_2 : decode cX11_knowersBehind 2 = .ok (.invokevirtual 240, 3) := by decide +kernel
theorem dX11_knowersBehind_5 : decode cX11_knowersBehind 5 = .ok (.aload_n 0, 1) := by decide +kernel
theorem dX11_knowersBehind_6 : decode cX11_knowersBehind 6 = .ok (.aload_n 0, 1) := by decide +kernel
theorem dX11_knowersBehind_7 : decode cX11_knowersBehind 7 = .ok (.iload_n 1, 1) := by decide +kernel
theorem dX11_knowersBehind_8 : decode cX11_knowersBehind 8 = .ok (.invokevirtual 209, 3) := by decide +kernel
theorem dX11_knowersBehind_11 : decode cX11_knowersBehind 11 = .ok (.invokevirtual 253, 3) := by decide +kernel
theorem dX11_knowersBehind_14 : decode cX11_knowersBehind 14 = .ok (.ireturn, 1) := by decide +kernel
theorem dX11_isSet_0 : decode cX11_isSet 0 = .ok (.iload_n 1, 1) := by decide +kernel
theorem dX11_isSet_1 : decode cX11_isSet 1 = .ok (.iconst 0, 1) := by decide +kernel
theorem dX11_isSet_2 : decode cX11_isSet 2 = .ok (.iconst 1, 1) := by decide +kernel
theorem dX11_isSet_3 : decode cX11_isSet 3 = .ok (.aload_n 0, 1) := by decide +kernel
theorem dX11_isSet_4 : decode cX11_isSet 4 = .ok (.getfield 9, 3) := by decide +kernel
theorem dX11_isSet_7 : decode cX11_isSet 7 = .ok (.iconst 4, 1) := by decide +kernel
theorem dX11_isSet_8 : decode cX11_isSet 8 = .ok (.iaload, 1) := by decide +kernel
theorem dX11_isSet_9 : decode cX11_isSet 9 = .ok (.ishl, 1) := by decide +kernel
theorem dX11_isSet_10 : decode cX11_isSet 10 = .ok (.iconst 1, 1) := by decide +kernel
theorem dX11_isSet_11 : decode cX11_isSet 11 = .ok (.isub, 1) := by decide +kernel
theorem dX11_isSet_12 : decode cX11_isSet 12 = .ok (.invokestatic 70, 3) := by decide +kernel
theorem dX11_isSet_15 : decode cX11_isSet 15 = .ok (.ireturn, 1) := by decide +kernel
theorem dX11_calls_0 : decode cX11_calls 0 = .ok (.aload_n 0, 1) := by decide +kernel
theorem dX11_calls_1 : decode cX11_calls 1 = .ok (.iload_n 1, 1) := by decide +kernel
theorem dX11_calls_2 : decode cX11_calls 2 = .ok (.invokevirtual 215, 3) := by decide +kernel
theorem dX11_calls_5 : decode cX11_calls 5 = .ok (.ifCond .eq 34, 3) := by decide +kernel
theorem dX11_calls_8 : decode cX11_calls 8 = .ok (.iload_n 2, 1) := by decide +kernel
theorem dX11_calls_9 : decode cX11_calls 9 = .ok (.invokestatic 250, 3) := by decide +kernel
theorem dX11_calls_12 : decode cX11_calls 12 = .ok (.ifCond .eq 27, 3) := by decide +kernel
theorem dX11_calls_15 : decode cX11_calls 15 = .ok (.aload_n 0, 1) := by decide +kernel
theorem dX11_calls_16 : decode cX11_calls 16 = .ok (.iload_n 3, 1) := by decide +kernel
theorem dX11_calls_17 : decode cX11_calls 17 = .ok (.invokevirtual 260, 3) := by decide +kernel
theorem dX11_calls_20 : decode cX11_calls 20 = .ok (.ifCond .eq 19, 3) := by decide +kernel
theorem dX11_calls_23 : decode cX11_calls 23 = .ok (.aload_n 0, 1) := by decide +kernel
theorem dX11_calls_24 : decode cX11_calls 24 = .ok (.iload 4, 2) := by decide +kernel
theorem dX11_calls_26 : decode cX11_calls 26 = .ok (.invokevirtual 260, 3) := by decide +kernel
theorem dX11_calls_29 : decode cX11_calls 29 = .ok (.ifCond .eq 10, 3) := by decide +kernel
theorem dX11_calls_32 : decode cX11_calls 32 = .ok (.iload_n 3, 1) := by decide +kernel
theorem dX11_calls_33 : decode cX11_calls 33 = .ok (.iload 4, 2) := by decide +kernel
theorem dX11_calls_35 : decode cX11_calls 35 = .ok (.iand, 1) := by decide +kernel
theorem dX11_calls_36 : decode cX11_calls 36 = .ok (.ifCond .eq 10, 3) := by decide +kernel
theorem dX11_calls_39 : decode cX11_calls 39 = .ok (.aload_n 0, 1) := by decide +kernel
theorem dX11_calls_40 : decode cX11_calls 40 = .ok (.ldc 74, 2) := by decide +kernel
theorem dX11_calls_42 : decode cX11_calls 42 = .ok (.invokevirtual 75, 3) := by decide +kernel
theorem dX11_calls_45 : decode cX11_calls 45 = .ok (.ireturn, 1) := by decide +kernel
theorem dX11_calls_46 : decode cX11_calls 46 = .ok (.aload_n 0, 1) := by decide +kernel
theorem dX11_calls_47 : decode cX11_calls 47 = .ok (.getfield 9, 3) := by decide +kernel
theorem dX11_calls_50 : decode cX11_calls 50 = .ok (.aload_n 0, 1) := by decide +kernel
theorem dX11_calls_51 : decode cX11_calls 51 = .ok (.getfield 16, 3) := by decide +kernel
theorem dX11_calls_54 : decode cX11_calls 54 = .ok (.invokestatic 66, 3) := by decide +kernel
theorem dX11_calls_57 : decode cX11_calls 57 = .ok (.iconst 0, 1) := by decide +kernel
theorem dX11_calls_58 : decode cX11_calls 58 = .ok (.istore 5, 2) := by decide +kernel
theorem dX11_calls_60 : decode cX11_calls 60 = .ok (.iconst 0, 1) := by decide +kernel
theorem dX11_calls_61 : decode cX11_calls 61 = .ok (.istore 6, 2) := by decide +kernel
theorem dX11_calls_63 : decode cX11_calls 63 = .ok (.iload 6, 2) := by decide +kernel
theorem dX11_calls_65 : decode cX11_calls 65 = .ok (.aload_n 0, 1) := by decide +kernel
theorem dX11_calls_66 : decode cX11_calls 66 = .ok (.getfield 16, 3) := by decide +kernel
theorem dX11_calls_69 : decode cX11_calls 69 = .ok (.iconst 1, 1) := by decide +kernel
theorem dX11_calls_70 : decode cX11_calls 70 = .ok (.iaload, 1) := by decide +kernel
theorem dX11_calls_71 : decode cX11_calls 71 = .ok (.if_icmp .ge 70, 3) := by decide +kernel
theorem dX11_calls_74 : decode cX11_calls 74 = .ok (.aload_n 0, 1) := by decide +kernel
theorem dX11_calls_75 : decode cX11_calls 75 = .ok (.getfield 9, 3) := by decide +kernel
theorem dX11_calls_78 : decode cX11_calls 78 = .ok (.iload_n 1, 1) := by decide +kernel
theorem dX11_calls_79 : decode cX11_calls 79 = .ok (.iconst 2, 1) := by decide +kernel
theorem dX11_calls_80 : decode cX11_calls 80 = .ok (.invokestatic 159, 3) := by decide +kernel
theorem dX11_calls_83 : decode cX11_calls 83 = .ok (.iload 6, 2) := by decide +kernel
theorem dX11_calls_85 : decode cX11_calls 85 = .ok (.iastore, 1) := by decide +kernel
theorem dX11_calls_86 : decode cX11_calls 86 = .ok (.aload_n 0, 1) := by decide +kernel
theorem dX11_calls_87 : decode cX11_calls 87 = .ok (.getfield 9, 3) := by decide +kernel
theorem dX11_calls_90 : decode cX11_calls 90 = .ok (.iload_n 1, 1) := by decide +kernel
theorem dX11_calls_91 : decode cX11_calls 91 = .ok (.iconst 4, 1) := by decide +kernel
theorem dX11_calls_92 : decode cX11_calls 92 = .ok (.invokestatic 159, 3) := by decide +kernel
theorem dX11_calls_95 : decode cX11_calls 95 = .ok (.iconst 0, 1) := by decide +kernel
theorem dX11_calls_96 : decode cX11_calls 96 = .ok (.iastore, 1) := by decide +kernel
theorem dX11_calls_97 : decode cX11_calls 97 = .ok (.aload_n 0, 1) := by decide +kernel
theorem dX11_calls_98 : decode cX11_calls 98 = .ok (.iload_n 1, 1) := by decide +kernel
theorem dX11_calls_99 : decode cX11_calls 99 = .ok (.iload_n 2, 1) := by decide +kernel
theorem dX11_calls_100 : decode cX11_calls 100 = .ok (.invokevirtual 263, 3) := by decide +kernel
theorem dX11_calls_103 : decode cX11_calls 103 = .ok (.istore 7, 2) := by decide +kernel
theorem dX11_calls_105 : decode cX11_calls 105 = .ok (.iload 5, 2) := by decide +kernel
theorem dX11_calls_107 : decode cX11_calls 107 = .ok (.iload_n 3, 1) := by decide +kernel
theorem dX11_calls_108 : decode cX11_calls 108 = .ok (.iload 7, 2) := by decide +kernel
theorem dX11_calls_110 : decode cX11_calls 110 = .ok (.iconst (-1), 1) := by decide +kernel
theorem dX11_calls_111 : decode cX11_calls 111 = .ok (.ixor, 1) := by decide +kernel
theorem dX11_calls_112 : decode cX11_calls 112 = .ok (.iand, 1) := by decide +kernel
theorem dX11_calls_113 : decode cX11_calls 113 = .ok (.ifCond .ne 18, 3) := by decide +kernel
theorem dX11_calls_116 : decode cX11_calls 116 = .ok (.iload 4, 2) := by decide +kernel
theorem dX11_calls_118 : decode cX11_calls 118 = .ok (.iload 7, 2) := by decide +kernel
theorem dX11_calls_120 : decode cX11_calls 120 = .ok (.iand, 1) := by decide +kernel
theorem dX11_calls_121 : decode cX11_calls 121 = .ok (.ifCond .ne 10, 3) := by decide +kernel
theorem dX11_calls_124 : decode cX11_calls 124 = .ok (.iconst 1, 1) := by decide +kernel
theorem dX11_calls_125 : decode cX11_calls 125 = .ok (.iload 6, 2) := by decide +kernel
theorem dX11_calls_127 : decode cX11_calls 127 = .ok (.ishl, 1) := by decide +kernel
theorem dX11_calls_128 : decode cX11_calls 128 = .ok (.goto 4, 3) := by decide +kernel
theorem dX11_calls_131 : decode cX11_calls 131 = .ok (.iconst 0, 1) := by decide +kernel
theorem dX11_calls_132 : decode cX11_calls 132 = .ok (.ior, 1) := by decide +kernel
theorem dX11_calls_133 : decode cX11_calls 133 = .ok (.istore 5, 2) := by decide +kernel
theorem dX11_calls_135 : decode cX11_calls 135 = .ok (.iinc 6 1, 3) := by decide +kernel
theorem dX11_calls_138 : decode cX11_calls 138 = .ok (.goto (-75), 3) := by decide +kernel
theorem dX11_calls_141 : decode cX11_calls 141 = .ok (.iload 5, 2) := by decide +kernel
theorem dX11_calls_143 : decode cX11_calls 143 = .ok (.ireturn, 1) := by decide +kernel
theorem dX11_isMoreStopped_0 : decode cX11_isMoreStopped 0 = .ok (.iconst 1, 1) := by decide +kernel
theorem dX11_isMoreStopped_1 : decode cX11_isMoreStopped 1 = .ok (.istore_n 2, 1) := by decide +kernel
theorem dX11_isMoreStopped_2 : decode cX11_isMoreStopped 2 = .ok (.iconst 0, 1) := by decide +kernel
theorem dX11_isMoreStopped_3 : decode cX11_isMoreStopped 3 = .ok (.istore_n 3, 1) := by decide +kernel
theorem dX11_isMoreStopped_4 : decode cX11_isMoreStopped 4 = .ok (.iload_n 3, 1) := by decide +kernel
theorem dX11_isMoreStopped_5 : decode cX11_isMoreStopped 5 = .ok (.aload_n 0, 1) := by decide +kernel
theorem dX11_isMoreStopped_6 : decode cX11_isMoreStopped 6 = .ok (.getfield 9, 3) := by decide +kernel
theorem dX11_isMoreStopped_9 : decode cX11_isMoreStopped 9 = .ok (.iconst 2, 1) := by decide +kernel
theorem dX11_isMoreStopped_10 : decode cX11_isMoreStopped 10 = .ok (.iaload, 1) := by decide +kernel
theorem dX11_isMoreStopped_11 : decode cX11_isMoreStopped 11 = .ok (.if_icmp .ge 36, 3) := by decide +kernel
theorem dX11_isMoreStopped_14 : decode cX11_isMoreStopped 14 = .ok (.iload_n 2, 1) := by decide +kernel
theorem dX11_isMoreStopped_15 : decode cX11_isMoreStopped 15 = .ok (.ifCond .eq 24, 3) := by decide +kernel
theorem dX11_isMoreStopped_18 : decode cX11_isMoreStopped 18 = .ok (.iload_n 1, 1) := by decide +kernel
theorem dX11_isMoreStopped_19 : decode cX11_isMoreStopped 19 = .ok (.iload_n 3, 1) := by decide +kernel
theorem dX11_isMoreStopped_20 : decode cX11_isMoreStopped 20 = .ok (.invokestatic 199, 3) := by decide +kernel
theorem dX11_isMoreStopped_23 : decode cX11_isMoreStopped 23 = .ok (.ifCond .eq 12, 3) := by decide +kernel
theorem dX11_isMoreStopped_26 : decode cX11_isMoreStopped 26 = .ok (.aload_n 0, 1) := by decide +kernel
theorem dX11_isMoreStopped_27 : decode cX11_isMoreStopped 27 = .ok (.iload_n 3, 1) := by decide +kernel
theorem dX11_isMoreStopped_28 : decode cX11_isMoreStopped 28 = .ok (.iconst 3, 1) := by decide +kernel
theorem dX11_isMoreStopped_29 : decode cX11_isMoreStopped 29 = .ok (.invokevirtual 178, 3) := by decide +kernel
theorem dX11_isMoreStopped_32 : decode cX11_isMoreStopped 32 = .ok (.ifCond .ne 7, 3) := by decide +kernel
theorem dX11_isMoreStopped_35 : decode cX11_isMoreStopped 35 = .ok (.iconst 1, 1) := by decide +kernel
theorem dX11_isMoreStopped_36 : decode cX11_isMoreStopped 36 = .ok (.goto 4, 3) := by decide +kernel
theorem dX11_isMoreStopped_39 : decode cX11_isMoreStopped 39 = .ok (.iconst 0, 1) := by decide +kernel
theorem dX11_isMoreStopped_40 : decode cX11_isMoreStopped 40 = .ok (.istore_n 2, 1) := by decide +kernel
theorem dX11_isMoreStopped_41 : decode cX11_isMoreStopped 41 = .ok (.iinc 3 1, 3) := by decide +kernel
theorem dX11_isMoreStopped_44 : decode cX11_isMoreStopped 44 = .ok (.goto (-40), 3) := by decide +kernel
theorem dX11_isMoreStopped_47 : decode cX11_isMoreStopped 47 = .ok (.iload_n 2, 1) := by decide +kernel
theorem dX11_isMoreStopped_48 : decode cX11_isMoreStopped 48 = .ok (.ireturn, 1) := by decide +kernel
theorem dX11_knowsIfStopped_0 : decode cX11_knowsIfStopped 0 = .ok (.aload_n 0, 1) := by decide +kernel
theorem dX11_knowsIfStopped_1 : decode cX11_knowsIfStopped 1 = .ok (.getfield 9, 3) := by decide +kernel
theorem dX11_knowsIfStopped_4 : decode cX11_knowsIfStopped 4 = .ok (.aload_n 0, 1) := by decide +kernel
theorem dX11_knowsIfStopped_5 : decode cX11_knowsIfStopped 5 = .ok (.getfield 16, 3) := by decide +kernel
theorem dX11_knowsIfStopped_8 : decode cX11_knowsIfStopped 8 = .ok (.invokestatic 66, 3) := by decide +kernel
theorem dX11_knowsIfStopped_11 : decode cX11_knowsIfStopped 11 = .ok (.iconst 0, 1) := by decide +kernel
theorem dX11_knowsIfStopped_12 : decode cX11_knowsIfStopped 12 = .ok (.istore 5, 2) := by decide +kernel
theorem dX11_knowsIfStopped_14 : decode cX11_knowsIfStopped 14 = .ok (.iload 5, 2) := by decide +kernel
theorem dX11_knowsIfStopped_16 : decode cX11_knowsIfStopped 16 = .ok (.aload_n 0, 1) := by decide +kernel
theorem dX11_knowsIfStopped_17 : decode cX11_knowsIfStopped 17 = .ok (.getfield 16, 3) := by decide +kernel
theorem dX11_knowsIfStopped_20 : decode cX11_knowsIfStopped 20 = .ok (.iconst 2, 1) := by decide +kernel
theorem dX11_knowsIfStopped_21 : decode cX11_knowsIfStopped 21 = .ok (.iaload, 1) := by decide +kernel
theorem dX11_knowsIfStopped_22 : decode cX11_knowsIfStopped 22 = .ok (.if_icmp .ge 30, 3) := by decide +kernel
theorem dX11_knowsIfStopped_25 : decode cX11_knowsIfStopped 25 = .ok (.aload_n 0, 1) := by decide +kernel
theorem dX11_knowsIfStopped_26 : decode cX11_knowsIfStopped 26 = .ok (.getfield 9, 3) := by decide +kernel
theorem dX11_knowsIfStopped_29 : decode cX11_knowsIfStopped 29 = .ok (.iload 5, 2) := by decide +kernel
theorem dX11_knowsIfStopped_31 : decode cX11_knowsIfStopped 31 = .ok (.iconst 3, 1) := by decide +kernel
theorem dX11_knowsIfStopped_32 : decode cX11_knowsIfStopped 32 = .ok (.invokestatic 156, 3) := by decide +kernel
theorem dX11_knowsIfStopped_35 : decode cX11_knowsIfStopped 35 = .ok (.dup2, 1) := by decide +kernel
theorem dX11_knowsIfStopped_36 : decode cX11_knowsIfStopped 36 = .ok (.iaload, 1) := by decide +kernel
theorem dX11_knowsIfStopped_37 : decode cX11_knowsIfStopped 37 = .ok (.iload 4, 2) := by decide +kernel
theorem dX11_knowsIfStopped_39 : decode cX11_knowsIfStopped 39 = .ok (.iload 5, 2) := by decide +kernel
theorem dX11_knowsIfStopped_41 : decode cX11_knowsIfStopped 41 = .ok (.ishr, 1) := by decide +kernel
theorem dX11_knowsIfStopped_42 : decode cX11_knowsIfStopped 42 = .ok (.iconst 1, 1) := by decide +kernel
theorem dX11_knowsIfStopped_43 : decode cX11_knowsIfStopped 43 = .ok (.iand, 1) := by decide +kernel
theorem dX11_knowsIfStopped_44 : decode cX11_knowsIfStopped 44 = .ok (.ior, 1) := by decide +kernel
theorem dX11_knowsIfStopped_45 : decode cX11_knowsIfStopped 45 = .ok (.iastore, 1) := by decide +kernel
theorem dX11_knowsIfStopped_46 : decode cX11_knowsIfStopped 46 = .ok (.iinc 5 1, 3) := by decide +kernel
theorem dX11_knowsIfStopped_49 : decode cX11_knowsIfStopped 49 = .ok (.goto (-35), 3) := by decide +kernel
theorem dX11_knowsIfStopped_52 : decode cX11_knowsIfStopped 52 = .ok (.aload_n 0, 1) := by decide +kernel
theorem dX11_knowsIfStopped_53 : decode cX11_knowsIfStopped 53 = .ok (.iload_n 2, 1) := by decide +kernel
theorem dX11_knowsIfStopped_54 : decode cX11_knowsIfStopped 54 = .ok (.iload_n 3, 1) := by decide +kernel
theorem dX11_knowsIfStopped_55 : decode cX11_knowsIfStopped 55 = .ok (.invokevirtual 263, 3) := by decide +kernel
theorem dX11_knowsIfStopped_58 : decode cX11_knowsIfStopped 58 = .ok (.iload_n 1, 1) := by decide +kernel
theorem dX11_knowsIfStopped_59 : decode cX11_knowsIfStopped 59 = .ok (.invokestatic 199, 3) := by decide +kernel
theorem dX11_knowsIfStopped_62 : decode cX11_knowsIfStopped 62 = .ok (.ireturn, 1) := by decide +kernel
theorem dX11_stops_0 : decode cX11_stops 0 = .ok (.aload_n 0, 1) := by decide +kernel
theorem dX11_stops_1 : decode cX11_stops 1 = .ok (.iload_n 1, 1) := by decide +kernel
theorem dX11_stops_2 : decode cX11_stops 2 = .ok (.invokevirtual 228, 3) := by decide +kernel
theorem dX11_stops_5 : decode cX11_stops 5 = .ok (.ifCond .eq 21, 3) := by decide +kernel
theorem dX11_stops_8 : decode cX11_stops 8 = .ok (.aload_n 0, 1) := by decide +kernel
theorem dX11_stops_9 : decode cX11_stops 9 = .ok (.iload_n 2, 1) := by decide +kernel
theorem dX11_stops_10 : decode cX11_stops 10 = .ok (.invokevirtual 215, 3) := by decide +kernel
theorem dX11_stops_13 : decode cX11_stops 13 = .ok (.ifCond .eq 13, 3) := by decide +kernel
theorem dX11_stops_16 : decode cX11_stops 16 = .ok (.iload_n 3, 1) := by decide +kernel
theorem dX11_stops_17 : decode cX11_stops 17 = .ok (.iconst 0, 1) := by decide +kernel
theorem dX11_stops_18 : decode cX11_stops 18 = .ok (.bipush 10, 2) := by decide +kernel
theorem dX11_stops_20 : decode cX11_stops 20 = .ok (.invokestatic 70, 3) := by decide +kernel
theorem dX11_stops_23 : decode cX11_stops 23 = .ok (.ifCond .ne 10, 3) := by decide +kernel
theorem dX11_stops_26 : decode cX11_stops 26 = .ok (.aload_n 0, 1) := by decide +kernel
theorem dX11_stops_27 : decode cX11_stops 27 = .ok (.ldc 74, 2) := by decide +kernel
theorem dX11_stops_29 : decode cX11_stops 29 = .ok (.invokevirtual 75, 3) := by decide +kernel
theorem dX11_stops_32 : decode cX11_stops 32 = .ok (.ireturn, 1) := by decide +kernel
theorem dX11_stops_33 : decode cX11_stops 33 = .ok (.iconst (-1), 1) := by decide +kernel
theorem dX11_stops_34 : decode cX11_stops 34 = .ok (.istore 4, 2) := by decide +kernel
theorem dX11_stops_36 : decode cX11_stops 36 = .ok (.iconst 0, 1) := by decide +kernel
theorem dX11_stops_37 : decode cX11_stops 37 = .ok (.istore 5, 2) := by decide +kernel
theorem dX11_stops_39 : decode cX11_stops 39 = .ok (.iload 5, 2) := by decide +kernel
theorem dX11_stops_41 : decode cX11_stops 41 = .ok (.iconst 1, 1) := by decide +kernel
theorem dX11_stops_42 : decode cX11_stops 42 = .ok (.aload_n 0, 1) := by decide +kernel
theorem dX11_stops_43 : decode cX11_stops 43 = .ok (.getfield 9, 3) := by decide +kernel
theorem dX11_stops_46 : decode cX11_stops 46 = .ok (.iconst 2, 1) := by decide +kernel
theorem dX11_stops_47 : decode cX11_stops 47 = .ok (.iaload, 1) := by decide +kernel
theorem dX11_stops_48 : decode cX11_stops 48 = .ok (.ishl, 1) := by decide +kernel
theorem dX11_stops_49 : decode cX11_stops 49 = .ok (.if_icmp .ge 69, 3) := by decide +kernel
theorem dX11_stops_52 : decode cX11_stops 52 = .ok (.iload 4, 2) := by decide +kernel
theorem dX11_stops_54 : decode cX11_stops 54 = .ok (.ifCond .lt 16, 3) := by decide +kernel
theorem dX11_stops_57 : decode cX11_stops 57 = .ok (.iload 5, 2) := by decide +kernel
theorem dX11_stops_59 : decode cX11_stops 59 = .ok (.invokestatic 266, 3) := by decide +kernel
theorem dX11_stops_62 : decode cX11_stops 62 = .ok (.iload 4, 2) := by decide +kernel
theorem dX11_stops_64 : decode cX11_stops 64 = .ok (.invokestatic 266, 3) := by decide +kernel
theorem dX11_stops_67 : decode cX11_stops 67 = .ok (.if_icmp .ge 16, 3) := by decide +kernel
theorem dX11_stops_70 : decode cX11_stops 70 = .ok (.aload_n 0, 1) := by decide +kernel
theorem dX11_stops_71 : decode cX11_stops 71 = .ok (.iload 5, 2) := by decide +kernel
theorem dX11_stops_73 : decode cX11_stops 73 = .ok (.invokevirtual 269, 3) := by decide +kernel
theorem dX11_stops_76 : decode cX11_stops 76 = .ok (.ifCond .eq 7, 3) := by decide +kernel
theorem dX11_stops_79 : decode cX11_stops 79 = .ok (.iconst 1, 1) := by decide +kernel
theorem dX11_stops_80 : decode cX11_stops 80 = .ok (.goto 4, 3) := by decide +kernel
theorem dX11_stops_83 : decode cX11_stops 83 = .ok (.iconst 0, 1) := by decide +kernel
theorem dX11_stops_84 : decode cX11_stops 84 = .ok (.istore 6, 2) := by decide +kernel
theorem dX11_stops_86 : decode cX11_stops 86 = .ok (.iload 6, 2) := by decide +kernel
theorem dX11_stops_88 : decode cX11_stops 88 = .ok (.ifCond .eq 20, 3) := by decide +kernel
theorem dX11_stops_91 : decode cX11_stops 91 = .ok (.aload_n 0, 1) := by decide +kernel
theorem dX11_stops_92 : decode cX11_stops 92 = .ok (.iload_n 1, 1) := by decide +kernel
theorem dX11_stops_93 : decode cX11_stops 93 = .ok (.iload_n 2, 1) := by decide +kernel
theorem dX11_stops_94 : decode cX11_stops 94 = .ok (.iload_n 3, 1) := by decide +kernel
theorem dX11_stops_95 : decode cX11_stops 95 = .ok (.iload 5, 2) := by decide +kernel
theorem dX11_stops_97 : decode cX11_stops 97 = .ok (.invokevirtual 272, 3) := by decide +kernel
theorem dX11_stops_100 : decode cX11_stops 100 = .ok (.ifCond .ne 8, 3) := by decide +kernel
theorem dX11_stops_103 : decode cX11_stops 103 = .ok (.iload 5, 2) := by decide +kernel
theorem dX11_stops_105 : decode cX11_stops 105 = .ok (.goto 5, 3) := by decide +kernel
theorem dX11_stops_108 : decode cX11_stops 108 = .ok (.iload 4, 2) := by decide +kernel
theorem dX11_stops_110 : decode cX11_stops 110 = .ok (.istore 4, 2) := by decide +kernel
theorem dX11_stops_112 : decode cX11_stops 112 = .ok (.iinc 5 1, 3) := by decide +kernel
theorem dX11_stops_115 : decode cX11_stops 115 = .ok (.goto (-76), 3) := by decide +kernel
theorem dX11_stops_118 : decode cX11_stops 118 = .ok (.iload 4, 2) := by decide +kernel
theorem dX11_stops_120 : decode cX11_stops 120 = .ok (.ifCond .ge 13, 3) := by decide +kernel
theorem dX11_stops_123 : decode cX11_stops 123 = .ok (.aload_n 0, 1) := by decide +kernel
theorem dX11_stops_124 : decode cX11_stops 124 = .ok (.ldc_w 259, 3) := by decide +kernel
theorem dX11_stops_127 : decode cX11_stops 127 = .ok (.invokevirtual 75, 3) := by decide +kernel
theorem dX11_stops_130 : decode cX11_stops 130 = .ok (.goto 5, 3) := by decide +kernel
theorem dX11_stops_133 : decode cX11_stops 133 = .ok (.iload 4, 2) := by decide +kernel
theorem dX11_stops_135 : decode cX11_stops 135 = .ok (.ireturn, 1) := by decide +kernel
theorem dX11_tellsNobody_0 : decode cX11_tellsNobody 0 = .ok (.aload_n 0, 1) := by decide +kernel
theorem dX11_tellsNobody_1 : decode cX11_tellsNobody 1 = .ok (.getfield 44, 3) := by decide +kernel
theorem dX11_tellsNobody_4 : decode cX11_tellsNobody 4 = .ok (.iload_n 1, 1) := by decide +kernel
theorem dX11_tellsNobody_5 : decode cX11_tellsNobody 5 = .ok (.iaload, 1) := by decide +kernel
theorem dX11_tellsNobody_6 : decode cX11_tellsNobody 6 = .ok (.ifCond .eq 18, 3) := by decide +kernel
theorem dX11_tellsNobody_9 : decode cX11_tellsNobody 9 = .ok (.aload_n 0, 1) := by decide +kernel
theorem dX11_tellsNobody_10 : decode cX11_tellsNobody 10 = .ok (.getfield 47, 3) := by decide +kernel
theorem dX11_tellsNobody_13 : decode cX11_tellsNobody 13 = .ok (.iload_n 1, 1) := by decide +kernel
theorem dX11_tellsNobody_14 : decode cX11_tellsNobody 14 = .ok (.iaload, 1) := by decide +kernel
theorem dX11_tellsNobody_15 : decode cX11_tellsNobody 15 = .ok (.aload_n 0, 1) := by decide +kernel
theorem dX11_tellsNobody_16 : decode cX11_tellsNobody 16 = .ok (.getfield 9, 3) := by decide +kernel
theorem dX11_tellsNobody_19 : decode cX11_tellsNobody 19 = .ok (.iconst 4, 1) := by decide +kernel
theorem dX11_tellsNobody_20 : decode cX11_tellsNobody 20 = .ok (.iaload, 1) := by decide +kernel
theorem dX11_tellsNobody_21 : decode cX11_tellsNobody 21 = .ok (.if_icmp .eq 7, 3) := by decide +kernel
theorem dX11_tellsNobody_24 : decode cX11_tellsNobody 24 = .ok (.iconst 1, 1) := by decide +kernel
theorem dX11_tellsNobody_25 : decode cX11_tellsNobody 25 = .ok (.goto 4, 3) := by decide +kernel
theorem dX11_tellsNobody_28 : decode cX11_tellsNobody 28 = .ok (.iconst 0, 1) := by decide +kernel
theorem dX11_tellsNobody_29 : decode cX11_tellsNobody 29 = .ok (.ireturn, 1) := by decide +kernel
theorem dX11_isTold_0 : decode cX11_isTold 0 = .ok (.iconst 1, 1) := by decide +kernel
theorem dX11_isTold_1 : decode cX11_isTold 1 = .ok (.istore_n 3, 1) := by decide +kernel
theorem dX11_isTold_2 : decode cX11_isTold 2 = .ok (.iconst 0, 1) := by decide +kernel
theorem dX11_isTold_3 : decode cX11_isTold 3 = .ok (.istore 4, 2) := by decide +kernel
theorem dX11_isTold_5 : decode cX11_isTold 5 = .ok (.iload 4, 2) := by decide +kernel
theorem dX11_isTold_7 : decode cX11_isTold 7 = .ok (.aload_n 0, 1) := by decide +kernel
theorem dX11_isTold_8 : decode cX11_isTold 8 = .ok (.getfield 9, 3) := by decide +kernel
theorem dX11_isTold_11 : decode cX11_isTold 11 = .ok (.iconst 4, 1) := by decide +kernel
theorem dX11_isTold_12 : decode cX11_isTold 12 = .ok (.iaload, 1) := by decide +kernel
theorem dX11_isTold_13 : decode cX11_isTold 13 = .ok (.if_icmp .ge 49, 3) := by decide +kernel
theorem dX11_isTold_16 : decode cX11_isTold 16 = .ok (.aload_n 0, 1) := by decide +kernel
theorem dX11_isTold_17 : decode cX11_isTold 17 = .ok (.getfield 50, 3) := by decide +kernel
theorem dX11_isTold_20 : decode cX11_isTold 20 = .ok (.bipush 40, 2) := by decide +kernel
theorem dX11_isTold_22 : decode cX11_isTold 22 = .ok (.iload_n 1, 1) := by decide +kernel
theorem dX11_isTold_23 : decode cX11_isTold 23 = .ok (.imul, 1) := by decide +kernel
theorem dX11_isTold_24 : decode cX11_isTold 24 = .ok (.iload 4, 2) := by decide +kernel
theorem dX11_isTold_26 : decode cX11_isTold 26 = .ok (.iadd, 1) := by decide +kernel
theorem dX11_isTold_27 : decode cX11_isTold 27 = .ok (.iaload, 1) := by decide +kernel
theorem dX11_isTold_28 : decode cX11_isTold 28 = .ok (.istore 5, 2) := by decide +kernel
theorem dX11_isTold_30 : decode cX11_isTold 30 = .ok (.iload_n 3, 1) := by decide +kernel
theorem dX11_isTold_31 : decode cX11_isTold 31 = .ok (.ifCond .eq 23, 3) := by decide +kernel
theorem dX11_isTold_34 : decode cX11_isTold 34 = .ok (.iload 5, 2) := by decide +kernel
theorem dX11_isTold_36 : decode cX11_isTold 36 = .ok (.ifCond .lt 14, 3) := by decide +kernel
theorem dX11_isTold_39 : decode cX11_isTold 39 = .ok (.iload 5, 2) := by decide +kernel
theorem dX11_isTold_41 : decode cX11_isTold 41 = .ok (.iload_n 2, 1) := by decide +kernel
theorem dX11_isTold_42 : decode cX11_isTold 42 = .ok (.iload 4, 2) := by decide +kernel
theorem dX11_isTold_44 : decode cX11_isTold 44 = .ok (.ishr, 1) := by decide +kernel
theorem dX11_isTold_45 : decode cX11_isTold 45 = .ok (.iconst 1, 1) := by decide +kernel
theorem dX11_isTold_46 : decode cX11_isTold 46 = .ok (.iand, 1) := by decide +kernel
theorem dX11_isTold_47 : decode cX11_isTold 47 = .ok (.if_icmp .ne 7, 3) := by decide +kernel
theorem dX11_isTold_50 : decode cX11_isTold 50 = .ok (.iconst 1, 1) := by decide +kernel
theorem dX11_isTold_51 : decode cX11_isTold 51 = .ok (.goto 4, 3) := by decide +kernel
theorem dX11_isTold_54 : decode cX11_isTold 54 = .ok (.iconst 0, 1) := by decide +kernel
theorem dX11_isTold_55 : decode cX11_isTold 55 = .ok (.istore_n 3, 1) := by decide +kernel
theorem dX11_isTold_56 : decode cX11_isTold 56 = .ok (.iinc 4 1, 3) := by decide +kernel
theorem dX11_isTold_59 : decode cX11_isTold 59 = .ok (.goto (-54), 3) := by decide +kernel
theorem dX11_isTold_62 : decode cX11_isTold 62 = .ok (.iload_n 3, 1) := by decide +kernel
theorem dX11_isTold_63 : decode cX11_isTold 63 = .ok (.ireturn, 1) := by decide +kernel
theorem dX11_who_0 : decode cX11_who 0 = .ok (.iload_n 1, 1) := by decide +kernel
theorem dX11_who_1 : decode cX11_who 1 = .ok (.invokestatic 276, 3) := by decide +kernel
theorem dX11_who_4 : decode cX11_who 4 = .ok (.ifCond .eq 10, 3) := by decide +kernel
theorem dX11_who_7 : decode cX11_who 7 = .ok (.iload_n 2, 1) := by decide +kernel
theorem dX11_who_8 : decode cX11_who 8 = .ok (.invokestatic 250, 3) := by decide +kernel
theorem dX11_who_11 : decode cX11_who 11 = .ok (.ifCond .ne 10, 3) := by decide +kernel
theorem dX11_who_14 : decode cX11_who 14 = .ok (.aload_n 0, 1) := by decide +kernel
theorem dX11_who_15 : decode cX11_who 15 = .ok (.ldc 74, 2) := by decide +kernel
theorem dX11_who_17 : decode cX11_who 17 = .ok (.invokevirtual 75, 3) := by decide +kernel
theorem dX11_who_20 : decode cX11_who 20 = .ok (.ireturn, 1) := by decide +kernel
theorem dX11_who_21 : decode cX11_who 21 = .ok (.aload_n 0, 1) := by decide +kernel
theorem dX11_who_22 : decode cX11_who 22 = .ok (.iload_n 1, 1) := by decide +kernel
theorem dX11_who_23 : decode cX11_who 23 = .ok (.invokevirtual 279, 3) := by decide +kernel
theorem dX11_who_26 : decode cX11_who 26 = .ok (.ifCond .eq 11, 3) := by decide +kernel
theorem dX11_who_29 : decode cX11_who 29 = .ok (.aload_n 0, 1) := by decide +kernel
theorem dX11_who_30 : decode cX11_who 30 = .ok (.ldc_w 259, 3) := by decide +kernel
theorem dX11_who_33 : decode cX11_who 33 = .ok (.invokevirtual 75, 3) := by decide +kernel
theorem dX11_who_36 : decode cX11_who 36 = .ok (.ireturn, 1) := by decide +kernel
theorem dX11_who_37 : decode cX11_who 37 = .ok (.aload_n 0, 1) := by decide +kernel
theorem dX11_who_38 : decode cX11_who 38 = .ok (.getfield 9, 3) := by decide +kernel
theorem dX11_who_41 : decode cX11_who 41 = .ok (.aload_n 0, 1) := by decide +kernel
theorem dX11_who_42 : decode cX11_who 42 = .ok (.getfield 16, 3) := by decide +kernel
theorem dX11_who_45 : decode cX11_who 45 = .ok (.invokestatic 66, 3) := by decide +kernel
theorem dX11_who_48 : decode cX11_who 48 = .ok (.aload_n 0, 1) := by decide +kernel
theorem dX11_who_49 : decode cX11_who 49 = .ok (.iload_n 2, 1) := by decide +kernel
theorem dX11_who_50 : decode cX11_who 50 = .ok (.invokevirtual 240, 3) := by decide +kernel
theorem dX11_who_53 : decode cX11_who 53 = .ok (.iconst 0, 1) := by decide +kernel
theorem dX11_who_54 : decode cX11_who 54 = .ok (.istore_n 3, 1) := by decide +kernel
theorem dX11_who_55 : decode cX11_who 55 = .ok (.iconst 0, 1) := by decide +kernel
theorem dX11_who_56 : decode cX11_who 56 = .ok (.istore 4, 2) := by decide +kernel
theorem dX11_who_58 : decode cX11_who 58 = .ok (.iload 4, 2) := by decide +kernel
theorem dX11_who_60 : decode cX11_who 60 = .ok (.aload_n 0, 1) := by decide +kernel
theorem dX11_who_61 : decode cX11_who 61 = .ok (.getfield 9, 3) := by decide +kernel
theorem dX11_who_64 : decode cX11_who 64 = .ok (.iconst 3, 1) := by decide +kernel
theorem dX11_who_65 : decode cX11_who 65 = .ok (.iaload, 1) := by decide +kernel
theorem dX11_who_66 : decode cX11_who 66 = .ok (.if_icmp .ge 34, 3) := by decide +kernel
theorem dX11_who_69 : decode cX11_who 69 = .ok (.iload_n 3, 1) := by decide +kernel
theorem dX11_who_70 : decode cX11_who 70 = .ok (.aload_n 0, 1) := by decide +kernel
theorem dX11_who_71 : decode cX11_who 71 = .ok (.iload_n 1, 1) := by decide +kernel
theorem dX11_who_72 : decode cX11_who 72 = .ok (.aload_n 0, 1) := by decide +kernel
theorem dX11_who_73 : decode cX11_who 73 = .ok (.iload 4, 2) := by decide +kernel
theorem dX11_who_75 : decode cX11_who 75 = .ok (.invokevirtual 209, 3) := by decide +kernel
theorem dX11_who_78 : decode cX11_who 78 = .ok (.invokevirtual 282, 3) := by decide +kernel
theorem dX11_who_81 : decode cX11_who 81 = .ok (.ifCond .eq 10, 3) := by decide +kernel
theorem dX11_who_84 : decode cX11_who 84 = .ok (.iconst 1, 1) := by decide +kernel
theorem dX11_who_85 : decode cX11_who 85 = .ok (.iload 4, 2) := by decide +kernel
theorem dX11_who_87 : decode cX11_who 87 = .ok (.ishl, 1) := by decide +kernel
theorem dX11_who_88 : decode cX11_who 88 = .ok (.goto 4, 3) := by decide +kernel
theorem dX11_who_91 : decode cX11_who 91 = .ok (.iconst 0, 1) := by decide +kernel
theorem dX11_who_92 : decode cX11_who 92 = .ok (.ior, 1) := by decide +kernel
theorem dX11_who_93 : decode cX11_who 93 = .ok (.istore_n 3, 1) := by decide +kernel
theorem dX11_who_94 : decode cX11_who 94 = .ok (.iinc 4 1, 3) := by decide +kernel
theorem dX11_who_97 : decode cX11_who 97 = .ok (.goto (-39), 3) := by decide +kernel
theorem dX11_who_100 : decode cX11_who 100 = .ok (.aload_n 0, 1) := by decide +kernel
theorem dX11_who_101 : decode cX11_who 101 = .ok (.iload_n 3, 1) := by decide +kernel
theorem dX11_who_102 : decode cX11_who 102 = .ok (.invokevirtual 253, 3) := by decide +kernel
theorem dX11_who_105 : decode cX11_who 105 = .ok (.ireturn, 1) := by decide +kernel
theorem dX11_loud_0 : decode cX11_loud 0 = .ok (.iload_n 1, 1) := by decide +kernel
theorem dX11_loud_1 : decode cX11_loud 1 = .ok (.invokestatic 276, 3) := by decide +kernel
theorem dX11_loud_4 : decode cX11_loud 4 = .ok (.ifCond .eq 31, 3) := by decide +kernel
theorem dX11_loud_7 : decode cX11_loud 7 = .ok (.aload_n 0, 1) := by decide +kernel
theorem dX11_loud_8 : decode cX11_loud 8 = .ok (.iload_n 2, 1) := by decide +kernel
theorem dX11_loud_9 : decode cX11_loud 9 = .ok (.invokevirtual 215, 3) := by decide +kernel
theorem dX11_loud_12 : decode cX11_loud 12 = .ok (.ifCond .eq 23, 3) := by decide +kernel
theorem dX11_loud_15 : decode cX11_loud 15 = .ok (.iload_n 3, 1) := by decide +kernel
theorem dX11_loud_16 : decode cX11_loud 16 = .ok (.iconst 0, 1) := by decide +kernel
theorem dX11_loud_17 : decode cX11_loud 17 = .ok (.bipush 20, 2) := by decide +kernel
theorem dX11_loud_19 : decode cX11_loud 19 = .ok (.invokestatic 70, 3) := by decide +kernel
theorem dX11_loud_22 : decode cX11_loud 22 = .ok (.ifCond .eq 13, 3) := by decide +kernel
theorem dX11_loud_25 : decode cX11_loud 25 = .ok (.iload 4, 2) := by decide +kernel
theorem dX11_loud_27 : decode cX11_loud 27 = .ok (.iconst 0, 1) := by decide +kernel
theorem dX11_loud_28 : decode cX11_loud 28 = .ok (.iconst 1, 1) := by decide +kernel
theorem dX11_loud_29 : decode cX11_loud 29 = .ok (.invokestatic 70, 3) := by decide +kernel
theorem dX11_loud_32 : decode cX11_loud 32 = .ok (.ifCond .ne 10, 3) := by decide +kernel
theorem dX11_loud_35 : decode cX11_loud 35 = .ok (.aload_n 0, 1) := by decide +kernel
theorem dX11_loud_36 : decode cX11_loud 36 = .ok (.ldc 74, 2) := by decide +kernel
theorem dX11_loud_38 : decode cX11_loud 38 = .ok (.invokevirtual 75, 3) := by decide +kernel
theorem dX11_loud_41 : decode cX11_loud 41 = .ok (.ireturn, 1) := by decide +kernel
theorem dX11_loud_42 : decode cX11_loud 42 = .ok (.aload_n 0, 1) := by decide +kernel
theorem dX11_loud_43 : decode cX11_loud 43 = .ok (.iload_n 1, 1) := by decide +kernel
theorem dX11_loud_44 : decode cX11_loud 44 = .ok (.invokevirtual 279, 3) := by decide +kernel
theorem dX11_loud_47 : decode cX11_loud 47 = .ok (.ifCond .eq 11, 3) := by decide +kernel
theorem dX11_loud_50 : decode cX11_loud 50 = .ok (.aload_n 0, 1) := by decide +kernel
theorem dX11_loud_51 : decode cX11_loud 51 = .ok (.ldc_w 259, 3) := by decide +kernel
theorem dX11_loud_54 : decode cX11_loud 54 = .ok (.invokevirtual 75, 3) := by decide +kernel
theorem dX11_loud_57 : decode cX11_loud 57 = .ok (.ireturn, 1) := by decide +kernel
theorem dX11_loud_58 : decode cX11_loud 58 = .ok (.aload_n 0, 1) := by decide +kernel
theorem dX11_loud_59 : decode cX11_loud 59 = .ok (.getfield 9, 3) := by decide +kernel
theorem dX11_loud_62 : decode cX11_loud 62 = .ok (.aload_n 0, 1) := by decide +kernel
theorem dX11_loud_63 : decode cX11_loud 63 = .ok (.getfield 16, 3) := by decide +kernel
theorem dX11_loud_66 : decode cX11_loud 66 = .ok (.invokestatic 66, 3) := by decide +kernel
theorem dX11_loud_69 : decode cX11_loud 69 = .ok (.iconst 0, 1) := by decide +kernel
theorem dX11_loud_70 : decode cX11_loud 70 = .ok (.istore 5, 2) := by decide +kernel
theorem dX11_loud_72 : decode cX11_loud 72 = .ok (.iconst (-1), 1) := by decide +kernel
theorem dX11_loud_73 : decode cX11_loud 73 = .ok (.istore 6, 2) := by decide +kernel
theorem dX11_loud_75 : decode cX11_loud 75 = .ok (.bipush 99, 2) := by decide +kernel
theorem dX11_loud_77 : decode cX11_loud 77 = .ok (.istore 7, 2) := by decide +kernel
theorem dX11_loud_79 : decode cX11_loud 79 = .ok (.iload 7, 2) := by decide +kernel
theorem dX11_loud_81 : decode cX11_loud 81 = .ok (.ifCond .lt 63, 3) := by decide +kernel
theorem dX11_loud_84 : decode cX11_loud 84 = .ok (.aload_n 0, 1) := by decide +kernel
theorem dX11_loud_85 : decode cX11_loud 85 = .ok (.getfield 9, 3) := by decide +kernel
theorem dX11_loud_88 : decode cX11_loud 88 = .ok (.iload_n 2, 1) := by decide +kernel
theorem dX11_loud_89 : decode cX11_loud 89 = .ok (.iconst 3, 1) := by decide +kernel
theorem dX11_loud_90 : decode cX11_loud 90 = .ok (.invokestatic 159, 3) := by decide +kernel
theorem dX11_loud_93 : decode cX11_loud 93 = .ok (.iload 7, 2) := by decide +kernel
theorem dX11_loud_95 : decode cX11_loud 95 = .ok (.iastore, 1) := by decide +kernel
theorem dX11_loud_96 : decode cX11_loud 96 = .ok (.aload_n 0, 1) := by decide +kernel
theorem dX11_loud_97 : decode cX11_loud 97 = .ok (.iload_n 1, 1) := by decide +kernel
theorem dX11_loud_98 : decode cX11_loud 98 = .ok (.aload_n 0, 1) := by decide +kernel
theorem dX11_loud_99 : decode cX11_loud 99 = .ok (.iload_n 2, 1) := by decide +kernel
theorem dX11_loud_100 : decode cX11_loud 100 = .ok (.iload_n 3, 1) := by decide +kernel
theorem dX11_loud_101 : decode cX11_loud 101 = .ok (.invokevirtual 263, 3) := by decide +kernel
theorem dX11_loud_104 : decode cX11_loud 104 = .ok (.invokevirtual 282, 3) := by decide +kernel
theorem dX11_loud_107 : decode cX11_loud 107 = .ok (.istore 8, 2) := by decide +kernel
theorem dX11_loud_109 : decode cX11_loud 109 = .ok (.iload 5, 2) := by decide +kernel
theorem dX11_loud_111 : decode cX11_loud 111 = .ok (.iload 8, 2) := by decide +kernel
theorem dX11_loud_113 : decode cX11_loud 113 = .ok (.ifCond .eq 7, 3) := by decide +kernel
theorem dX11_loud_116 : decode cX11_loud 116 = .ok (.iconst 1, 1) := by decide +kernel
theorem dX11_loud_117 : decode cX11_loud 117 = .ok (.goto 4, 3) := by decide +kernel
theorem dX11_loud_120 : decode cX11_loud 120 = .ok (.iconst 0, 1) := by decide +kernel
theorem dX11_loud_121 : decode cX11_loud 121 = .ok (.iadd, 1) := by decide +kernel
theorem dX11_loud_122 : decode cX11_loud 122 = .ok (.istore 5, 2) := by decide +kernel
theorem dX11_loud_124 : decode cX11_loud 124 = .ok (.iload 8, 2) := by decide +kernel
theorem dX11_loud_126 : decode cX11_loud 126 = .ok (.ifCond .eq 8, 3) := by decide +kernel
theorem dX11_loud_129 : decode cX11_loud 129 = .ok (.iload 7, 2) := by decide +kernel
theorem dX11_loud_131 : decode cX11_loud 131 = .ok (.goto 5, 3) := by decide +kernel
theorem dX11_loud_134 : decode cX11_loud 134 = .ok (.iload 6, 2) := by decide +kernel
theorem dX11_loud_136 : decode cX11_loud 136 = .ok (.istore 6, 2) := by decide +kernel
theorem dX11_loud_138 : decode cX11_loud 138 = .ok (.iinc 7 (-1), 3) := by decide +kernel
theorem dX11_loud_141 : decode cX11_loud 141 = .ok (.goto (-62), 3) := by decide +kernel
theorem dX11_loud_144 : decode cX11_loud 144 = .ok (.iload 4, 2) := by decide +kernel
theorem dX11_loud_146 : decode cX11_loud 146 = .ok (.ifCond .ne 8, 3) := by decide +kernel
theorem dX11_loud_149 : decode cX11_loud 149 = .ok (.iload 5, 2) := by decide +kernel
theorem dX11_loud_151 : decode cX11_loud 151 = .ok (.goto 20, 3) := by decide +kernel
theorem dX11_loud_154 : decode cX11_loud 154 = .ok (.iload 6, 2) := by decide +kernel
theorem dX11_loud_156 : decode cX11_loud 156 = .ok (.ifCond .ge 13, 3) := by decide +kernel
theorem dX11_loud_159 : decode cX11_loud 159 = .ok (.aload_n 0, 1) := by decide +kernel
theorem dX11_loud_160 : decode cX11_loud 160 = .ok (.ldc_w 259, 3) := by decide +kernel
theorem dX11_loud_163 : decode cX11_loud 163 = .ok (.invokevirtual 75, 3) := by decide +kernel
theorem dX11_loud_166 : decode cX11_loud 166 = .ok (.goto 5, 3) := by decide +kernel
theorem dX11_loud_169 : decode cX11_loud 169 = .ok (.iload 6, 2) := by decide +kernel
theorem dX11_loud_171 : decode cX11_loud 171 = .ok (.ireturn, 1) := by decide +kernel
theorem dX11_alikeNow_0 : decode cX11_alikeNow 0 = .ok (.iconst 0, 1) := by decide +kernel
theorem dX11_alikeNow_1 : decode cX11_alikeNow 1 = .ok (.istore_n 1, 1) := by decide +kernel
theorem dX11_alikeNow_2 : decode cX11_alikeNow 2 = .ok (.iconst 0, 1) := by decide +kernel
theorem dX11_alikeNow_3 : decode cX11_alikeNow 3 = .ok (.istore_n 2, 1) := by decide +kernel
theorem dX11_alikeNow_4 : decode cX11_alikeNow 4 = .ok (.iload_n 2, 1) := by decide +kernel
theorem dX11_alikeNow_5 : decode cX11_alikeNow 5 = .ok (.aload_n 0, 1) := by decide +kernel
theorem dX11_alikeNow_6 : decode cX11_alikeNow 6 = .ok (.getfield 9, 3) := by decide +kernel
theorem dX11_alikeNow_9 : decode cX11_alikeNow 9 = .ok (.iconst 4, 1) := by decide +kernel
theorem dX11_alikeNow_10 : decode cX11_alikeNow 10 = .ok (.iaload, 1) := by decide +kernel
theorem dX11_alikeNow_11 : decode cX11_alikeNow 11 = .ok (.if_icmp .ge 45, 3) := by decide +kernel
theorem dX11_alikeNow_14 : decode cX11_alikeNow 14 = .ok (.iconst 0, 1) := by decide +kernel
theorem dX11_alikeNow_15 : decode cX11_alikeNow 15 = .ok (.istore_n 3, 1) := by decide +kernel
theorem dX11_alikeNow_16 : decode cX11_alikeNow 16 = .ok (.iload_n 3, 1) := by decide +kernel
theorem dX11_alikeNow_17 : decode cX11_alikeNow 17 = .ok (.iload_n 2, 1) := by decide +kernel
theorem dX11_alikeNow_18 : decode cX11_alikeNow 18 = .ok (.if_icmp .ge 32, 3) := by decide +kernel
theorem dX11_alikeNow_21 : decode cX11_alikeNow 21 = .ok (.iload_n 1, 1) := by decide +kernel
theorem dX11_alikeNow_22 : decode cX11_alikeNow 22 = .ok (.aload_n 0, 1) := by decide +kernel
theorem dX11_alikeNow_23 : decode cX11_alikeNow 23 = .ok (.iload_n 2, 1) := by decide +kernel
theorem dX11_alikeNow_24 : decode cX11_alikeNow 24 = .ok (.iconst 2, 1) := by decide +kernel
theorem dX11_alikeNow_25 : decode cX11_alikeNow 25 = .ok (.invokevirtual 196, 3) := by decide +kernel
theorem dX11_alikeNow_28 : decode cX11_alikeNow 28 = .ok (.aload_n 0, 1) := by decide +kernel
theorem dX11_alikeNow_29 : decode cX11_alikeNow 29 = .ok (.iload_n 3, 1) := by decide +kernel
theorem dX11_alikeNow_30 : decode cX11_alikeNow 30 = .ok (.iconst 2, 1) := by decide +kernel
theorem dX11_alikeNow_31 : decode cX11_alikeNow 31 = .ok (.invokevirtual 196, 3) := by decide +kernel
theorem dX11_alikeNow_34 : decode cX11_alikeNow 34 = .ok (.if_icmp .ne 7, 3) := by decide +kernel
theorem dX11_alikeNow_37 : decode cX11_alikeNow 37 = .ok (.iconst 1, 1) := by decide +kernel
theorem dX11_alikeNow_38 : decode cX11_alikeNow 38 = .ok (.goto 4, 3) := by decide +kernel
theorem dX11_alikeNow_41 : decode cX11_alikeNow 41 = .ok (.iconst 0, 1) := by decide +kernel
theorem dX11_alikeNow_42 : decode cX11_alikeNow 42 = .ok (.iadd, 1) := by decide +kernel
theorem dX11_alikeNow_43 : decode cX11_alikeNow 43 = .ok (.istore_n 1, 1) := by decide +kernel
theorem dX11_alikeNow_44 : decode cX11_alikeNow 44 = .ok (.iinc 3 1, 3) := by decide +kernel
theorem dX11_alikeNow_47 : decode cX11_alikeNow 47 = .ok (.goto (-31), 3) := by decide +kernel
theorem dX11_alikeNow_50 : decode cX11_alikeNow 50 = .ok (.iinc 2 1, 3) := by decide +kernel
theorem dX11_alikeNow_53 : decode cX11_alikeNow 53 = .ok (.goto (-49), 3) := by decide +kernel
theorem dX11_alikeNow_56 : decode cX11_alikeNow 56 = .ok (.iload_n 1, 1) := by decide +kernel
theorem dX11_alikeNow_57 : decode cX11_alikeNow 57 = .ok (.ireturn, 1) := by decide +kernel
theorem dX11_alike_0 : decode cX11_alike 0 = .ok (.iload_n 1, 1) := by decide +kernel
theorem dX11_alike_1 : decode cX11_alike 1 = .ok (.invokestatic 250, 3) := by decide +kernel
theorem dX11_alike_4 : decode cX11_alike 4 = .ok (.ifCond .ne 10, 3) := by decide +kernel
theorem dX11_alike_7 : decode cX11_alike 7 = .ok (.aload_n 0, 1) := by decide +kernel
theorem dX11_alike_8 : decode cX11_alike 8 = .ok (.ldc 74, 2) := by decide +kernel
theorem dX11_alike_10 : decode cX11_alike 10 = .ok (.invokevirtual 75, 3) := by decide +kernel
theorem dX11_alike_13 : decode cX11_alike 13 = .ok (.ireturn, 1) := by decide +kernel
theorem dX11_alike_14 : decode cX11_alike 14 = .ok (.aload_n 0, 1) := by decide +kernel
theorem dX11_alike_15 : decode cX11_alike 15 = .ok (.getfield 9, 3) := by decide +kernel
theorem dX11_alike_18 : decode cX11_alike 18 = .ok (.aload_n 0, 1) := by decide +kernel
theorem dX11_alike_19 : decode cX11_alike 19 = .ok (.getfield 16, 3) := by decide +kernel
theorem dX11_alike_22 : decode cX11_alike 22 = .ok (.invokestatic 66, 3) := by decide +kernel
theorem dX11_alike_25 : decode cX11_alike 25 = .ok (.aload_n 0, 1) := by decide +kernel
theorem dX11_alike_26 : decode cX11_alike 26 = .ok (.iload_n 1, 1) := by decide +kernel
theorem dX11_alike_27 : decode cX11_alike 27 = .ok (.invokevirtual 240, 3) := by decide +kernel
theorem dX11_alike_30 : decode cX11_alike 30 = .ok (.aload_n 0, 1) := by decide +kernel
theorem dX11_alike_31 : decode cX11_alike 31 = .ok (.aload_n 0, 1) := by decide +kernel
theorem dX11_alike_32 : decode cX11_alike 32 = .ok (.invokevirtual 285, 3) := by decide +kernel
theorem dX11_alike_35 : decode cX11_alike 35 = .ok (.invokevirtual 253, 3) := by decide +kernel
theorem dX11_alike_38 : decode cX11_alike 38 = .ok (.ireturn, 1) := by decide +kernel
theorem dX11_furthest_0 : decode cX11_furthest 0 = .ok (.iload_n 1, 1) := by decide +kernel
theorem dX11_furthest_1 : decode cX11_furthest 1 = .ok (.invokestatic 250, 3) := by decide +kernel
theorem dX11_furthest_4 : decode cX11_furthest 4 = .ok (.ifCond .eq 12, 3) := by decide +kernel
theorem dX11_furthest_7 : decode cX11_furthest 7 = .ok (.iload_n 2, 1) := by decide +kernel
theorem dX11_furthest_8 : decode cX11_furthest 8 = .ok (.iconst 0, 1) := by decide +kernel
theorem dX11_furthest_9 : decode cX11_furthest 9 = .ok (.iconst 1, 1) := by decide +kernel
theorem dX11_furthest_10 : decode cX11_furthest 10 = .ok (.invokestatic 70, 3) := by decide +kernel
theorem dX11_furthest_13 : decode cX11_furthest 13 = .ok (.ifCond .ne 10, 3) := by decide +kernel
theorem dX11_furthest_16 : decode cX11_furthest 16 = .ok (.aload_n 0, 1) := by decide +kernel
theorem dX11_furthest_17 : decode cX11_furthest 17 = .ok (.ldc 74, 2) := by decide +kernel
theorem dX11_furthest_19 : decode cX11_furthest 19 = .ok (.invokevirtual 75, 3) := by decide +kernel
theorem dX11_furthest_22 : decode cX11_furthest 22 = .ok (.ireturn, 1) := by decide +kernel
theorem dX11_furthest_23 : decode cX11_furthest 23 = .ok (.aload_n 0, 1) := by decide +kernel
theorem dX11_furthest_24 : decode cX11_furthest 24 = .ok (.getfield 9, 3) := by decide +kernel
theorem dX11_furthest_27 : decode cX11_furthest 27 = .ok (.iconst 3, 1) := by decide +kernel
theorem dX11_furthest_28 : decode cX11_furthest 28 = .ok (.iaload, 1) := by decide +kernel
theorem dX11_furthest_29 : decode cX11_furthest 29 = .ok (.ifCond .ne 11, 3) := by decide +kernel
theorem dX11_furthest_32 : decode cX11_furthest 32 = .ok (.aload_n 0, 1) := by decide +kernel
theorem dX11_furthest_33 : decode cX11_furthest 33 = .ok (.ldc_w 259, 3) := by decide +kernel
theorem dX11_furthest_36 : decode cX11_furthest 36 = .ok (.invokevirtual 75, 3) := by decide +kernel
theorem dX11_furthest_39 : decode cX11_furthest 39 = .ok (.ireturn, 1) := by decide +kernel
theorem dX11_furthest_40 : decode cX11_furthest 40 = .ok (.aload_n 0, 1) := by decide +kernel
theorem dX11_furthest_41 : decode cX11_furthest 41 = .ok (.getfield 9, 3) := by decide +kernel
theorem dX11_furthest_44 : decode cX11_furthest 44 = .ok (.aload_n 0, 1) := by decide +kernel
theorem dX11_furthest_45 : decode cX11_furthest 45 = .ok (.getfield 16, 3) := by decide +kernel
theorem dX11_furthest_48 : decode cX11_furthest 48 = .ok (.invokestatic 66, 3) := by decide +kernel
theorem dX11_furthest_51 : decode cX11_furthest 51 = .ok (.aload_n 0, 1) := by decide +kernel
theorem dX11_furthest_52 : decode cX11_furthest 52 = .ok (.iload_n 1, 1) := by decide +kernel
theorem dX11_furthest_53 : decode cX11_furthest 53 = .ok (.invokevirtual 240, 3) := by decide +kernel
theorem dX11_furthest_56 : decode cX11_furthest 56 = .ok (.iconst 0, 1) := by decide +kernel
theorem dX11_furthest_57 : decode cX11_furthest 57 = .ok (.istore_n 3, 1) := by decide +kernel
theorem dX11_furthest_58 : decode cX11_furthest 58 = .ok (.iconst 1, 1) := by decide +kernel
theorem dX11_furthest_59 : decode cX11_furthest 59 = .ok (.istore 4, 2) := by decide +kernel
theorem dX11_furthest_61 : decode cX11_furthest 61 = .ok (.iload 4, 2) := by decide +kernel
theorem dX11_furthest_63 : decode cX11_furthest 63 = .ok (.aload_n 0, 1) := by decide +kernel
theorem dX11_furthest_64 : decode cX11_furthest 64 = .ok (.getfield 9, 3) := by decide +kernel
theorem dX11_furthest_67 : decode cX11_furthest 67 = .ok (.iconst 3, 1) := by decide +kernel
theorem dX11_furthest_68 : decode cX11_furthest 68 = .ok (.iaload, 1) := by decide +kernel
theorem dX11_furthest_69 : decode cX11_furthest 69 = .ok (.if_icmp .ge 36, 3) := by decide +kernel
theorem dX11_furthest_72 : decode cX11_furthest 72 = .ok (.aload_n 0, 1) := by decide +kernel
theorem dX11_furthest_73 : decode cX11_furthest 73 = .ok (.iload 4, 2) := by decide +kernel
theorem dX11_furthest_75 : decode cX11_furthest 75 = .ok (.invokevirtual 209, 3) := by decide +kernel
theorem dX11_furthest_78 : decode cX11_furthest 78 = .ok (.invokestatic 266, 3) := by decide +kernel
theorem dX11_furthest_81 : decode cX11_furthest 81 = .ok (.aload_n 0, 1) := by decide +kernel
theorem dX11_furthest_82 : decode cX11_furthest 82 = .ok (.iload_n 3, 1) := by decide +kernel
theorem dX11_furthest_83 : decode cX11_furthest 83 = .ok (.invokevirtual 209, 3) := by decide +kernel
theorem dX11_furthest_86 : decode cX11_furthest 86 = .ok (.invokestatic 266, 3) := by decide +kernel
theorem dX11_furthest_89 : decode cX11_furthest 89 = .ok (.if_icmp .le 8, 3) := by decide +kernel
theorem dX11_furthest_92 : decode cX11_furthest 92 = .ok (.iload 4, 2) := by decide +kernel
theorem dX11_furthest_94 : decode cX11_furthest 94 = .ok (.goto 4, 3) := by decide +kernel
theorem dX11_furthest_97 : decode cX11_furthest 97 = .ok (.iload_n 3, 1) := by decide +kernel
theorem dX11_furthest_98 : decode cX11_furthest 98 = .ok (.istore_n 3, 1) := by decide +kernel
theorem dX11_furthest_99 : decode cX11_furthest 99 = .ok (.iinc 4 1, 3) := by decide +kernel
theorem dX11_furthest_102 : decode cX11_furthest 102 = .ok (.goto (-41), 3) := by decide +kernel
theorem dX11_furthest_105 : decode cX11_furthest 105 = .ok (.aload_n 0, 1) := by decide +kernel
theorem dX11_furthest_106 : decode cX11_furthest 106 = .ok (.iload_n 2, 1) := by decide +kernel
theorem dX11_furthest_107 : decode cX11_furthest 107 = .ok (.ifCond .ne 7, 3) := by decide +kernel
theorem dX11_furthest_110 : decode cX11_furthest 110 = .ok (.iload_n 3, 1) := by decide +kernel
theorem dX11_furthest_111 : decode cX11_furthest 111 = .ok (.goto 11, 3) := by decide +kernel
theorem dX11_furthest_114 : decode cX11_furthest 114 = .ok (.aload_n 0, 1) := by decide +kernel
theorem dX11_furthest_115 : decode cX11_furthest 115 = .ok (.iload_n 3, 1) := by decide +kernel
theorem dX11_furthest_116 : decode cX11_furthest 116 = .ok (.invokevirtual 209, 3) := by decide +kernel
theorem dX11_furthest_119 : decode cX11_furthest 119 = .ok (.invokestatic 266, 3) := by decide +kernel
theorem dX11_furthest_122 : decode cX11_furthest 122 = .ok (.invokevirtual 253, 3) := by decide +kernel
theorem dX11_furthest_125 : decode cX11_furthest 125 = .ok (.ireturn, 1) := by decide +kernel
theorem dX11_odds_0 : decode cX11_odds 0 = .ok (.aload_n 0, 1) := by decide +kernel
theorem dX11_odds_1 : decode cX11_odds 1 = .ok (.iload_n 1, 1) := by decide +kernel
theorem dX11_odds_2 : decode cX11_odds 2 = .ok (.invokevirtual 228, 3) := by decide +kernel
theorem dX11_odds_5 : decode cX11_odds 5 = .ok (.ifCond .eq 28, 3) := by decide +kernel
theorem dX11_odds_8 : decode cX11_odds 8 = .ok (.aload_n 0, 1) := by decide +kernel
theorem dX11_odds_9 : decode cX11_odds 9 = .ok (.iload_n 2, 1) := by decide +kernel
theorem dX11_odds_10 : decode cX11_odds 10 = .ok (.invokevirtual 215, 3) := by decide +kernel
theorem dX11_odds_13 : decode cX11_odds 13 = .ok (.ifCond .eq 20, 3) := by decide +kernel
theorem dX11_odds_16 : decode cX11_odds 16 = .ok (.iload_n 3, 1) := by decide +kernel
theorem dX11_odds_17 : decode cX11_odds 17 = .ok (.invokestatic 250, 3) := by decide +kernel
theorem dX11_odds_20 : decode cX11_odds 20 = .ok (.ifCond .eq 13, 3) := by decide +kernel
theorem dX11_odds_23 : decode cX11_odds 23 = .ok (.iload 4, 2) := by decide +kernel
theorem dX11_odds_25 : decode cX11_odds 25 = .ok (.iconst 0, 1) := by decide +kernel
theorem dX11_odds_26 : decode cX11_odds 26 = .ok (.iconst 1, 1) := by decide +kernel
theorem dX11_odds_27 : decode cX11_odds 27 = .ok (.invokestatic 70, 3) := by decide +kernel
theorem dX11_odds_30 : decode cX11_odds 30 = .ok (.ifCond .ne 10, 3) := by decide +kernel
theorem dX11_odds_33 : decode cX11_odds 33 = .ok (.aload_n 0, 1) := by decide +kernel
theorem dX11_odds_34 : decode cX11_odds 34 = .ok (.ldc 74, 2) := by decide +kernel
theorem dX11_odds_36 : decode cX11_odds 36 = .ok (.invokevirtual 75, 3) := by decide +kernel
theorem dX11_odds_39 : decode cX11_odds 39 = .ok (.ireturn, 1) := by decide +kernel
theorem dX11_odds_40 : decode cX11_odds 40 = .ok (.aload_n 0, 1) := by decide +kernel
theorem dX11_odds_41 : decode cX11_odds 41 = .ok (.getfield 9, 3) := by decide +kernel
theorem dX11_odds_44 : decode cX11_odds 44 = .ok (.aload_n 0, 1) := by decide +kernel
theorem dX11_odds_45 : decode cX11_odds 45 = .ok (.getfield 16, 3) := by decide +kernel
theorem dX11_odds_48 : decode cX11_odds 48 = .ok (.invokestatic 66, 3) := by decide +kernel
theorem dX11_odds_51 : decode cX11_odds 51 = .ok (.iconst 0, 1) := by decide +kernel
theorem dX11_odds_52 : decode cX11_odds 52 = .ok (.istore 5, 2) := by decide +kernel
theorem dX11_odds_54 : decode cX11_odds 54 = .ok (.iconst 0, 1) := by decide +kernel
theorem dX11_odds_55 : decode cX11_odds 55 = .ok (.istore 6, 2) := by decide +kernel
theorem dX11_odds_57 : decode cX11_odds 57 = .ok (.iload 6, 2) := by decide +kernel
theorem dX11_odds_59 : decode cX11_odds 59 = .ok (.bipush 10, 2) := by decide +kernel
theorem dX11_odds_61 : decode cX11_odds 61 = .ok (.if_icmp .ge 40, 3) := by decide +kernel
theorem dX11_odds_64 : decode cX11_odds 64 = .ok (.aload_n 0, 1) := by decide +kernel
theorem dX11_odds_65 : decode cX11_odds 65 = .ok (.getfield 9, 3) := by decide +kernel
theorem dX11_odds_68 : decode cX11_odds 68 = .ok (.iconst 5, 1) := by decide +kernel
theorem dX11_odds_69 : decode cX11_odds 69 = .ok (.iload 6, 2) := by decide +kernel
theorem dX11_odds_71 : decode cX11_odds 71 = .ok (.iastore, 1) := by decide +kernel
theorem dX11_odds_72 : decode cX11_odds 72 = .ok (.iload 5, 2) := by decide +kernel
theorem dX11_odds_74 : decode cX11_odds 74 = .ok (.aload_n 0, 1) := by decide +kernel
theorem dX11_odds_75 : decode cX11_odds 75 = .ok (.iload_n 2, 1) := by decide +kernel
theorem dX11_odds_76 : decode cX11_odds 76 = .ok (.iload_n 3, 1) := by decide +kernel
theorem dX11_odds_77 : decode cX11_odds 77 = .ok (.invokevirtual 263, 3) := by decide +kernel
theorem dX11_odds_80 : decode cX11_odds 80 = .ok (.iload_n 1, 1) := by decide +kernel
theorem dX11_odds_81 : decode cX11_odds 81 = .ok (.invokestatic 199, 3) := by decide +kernel
theorem dX11_odds_84 : decode cX11_odds 84 = .ok (.ifCond .eq 7, 3) := by decide +kernel
theorem dX11_odds_87 : decode cX11_odds 87 = .ok (.iconst 1, 1) := by decide +kernel
theorem dX11_odds_88 : decode cX11_odds 88 = .ok (.goto 4, 3) := by decide +kernel
theorem dX11_odds_91 : decode cX11_odds 91 = .ok (.iconst 0, 1) := by decide +kernel
theorem dX11_odds_92 : decode cX11_odds 92 = .ok (.iadd, 1) := by decide +kernel
theorem dX11_odds_93 : decode cX11_odds 93 = .ok (.istore 5, 2) := by decide +kernel
theorem dX11_odds_95 : decode cX11_odds 95 = .ok (.iinc 6 1, 3) := by decide +kernel
theorem dX11_odds_98 : decode cX11_odds 98 = .ok (.goto (-41), 3) := by decide +kernel
theorem dX11_odds_101 : decode cX11_odds 101 = .ok (.bipush 10, 2) := by decide +kernel
theorem dX11_odds_103 : decode cX11_odds 103 = .ok (.istore 6, 2) := by decide +kernel
theorem dX11_odds_105 : decode cX11_odds 105 = .ok (.iload 5, 2) := by decide +kernel
theorem dX11_odds_107 : decode cX11_odds 107 = .ok (.istore 7, 2) := by decide +kernel
theorem dX11_odds_109 : decode cX11_odds 109 = .ok (.iload 7, 2) := by decide +kernel
theorem dX11_odds_111 : decode cX11_odds 111 = .ok (.ifCond .eq 21, 3) := by decide +kernel
theorem dX11_odds_114 : decode cX11_odds 114 = .ok (.iload 6, 2) := by decide +kernel
theorem dX11_odds_116 : decode cX11_odds 116 = .ok (.iload 7, 2) := by decide +kernel
theorem dX11_odds_118 : decode cX11_odds 118 = .ok (.irem, 1) := by decide +kernel
theorem dX11_odds_119 : decode cX11_odds 119 = .ok (.istore 8, 2) := by decide +kernel
theorem dX11_odds_121 : decode cX11_odds 121 = .ok (.iload 7, 2) := by decide +kernel
theorem dX11_odds_123 : decode cX11_odds 123 = .ok (.istore 6, 2) := by decide +kernel
theorem dX11_odds_125 : decode cX11_odds 125 = .ok (.iload 8, 2) := by decide +kernel
theorem dX11_odds_127 : decode cX11_odds 127 = .ok (.istore 7, 2) := by decide +kernel
theorem dX11_odds_129 : decode cX11_odds 129 = .ok (.goto (-20), 3) := by decide +kernel
theorem dX11_odds_132 : decode cX11_odds 132 = .ok (.iload 4, 2) := by decide +kernel
theorem dX11_odds_134 : decode cX11_odds 134 = .ok (.ifCond .ne 8, 3) := by decide +kernel
theorem dX11_odds_137 : decode cX11_odds 137 = .ok (.iload 5, 2) := by decide +kernel
theorem dX11_odds_139 : decode cX11_odds 139 = .ok (.goto 5, 3) := by decide +kernel
theorem dX11_odds_142 : decode cX11_odds 142 = .ok (.bipush 10, 2) := by decide +kernel
theorem dX11_odds_144 : decode cX11_odds 144 = .ok (.iload 6, 2) := by decide +kernel
theorem dX11_odds_146 : decode cX11_odds 146 = .ok (.idiv, 1) := by decide +kernel
theorem dX11_odds_147 : decode cX11_odds 147 = .ok (.ireturn, 1) := by decide +kernel
theorem dX11_seed_0 : decode cX11_seed 0 = .ok (.aload_n 0, 1) := by decide +kernel
theorem dX11_seed_1 : decode cX11_seed 1 = .ok (.bipush 6, 2) := by decide +kernel
theorem dX11_seed_3 : decode cX11_seed 3 = .ok (.iload_n 1, 1) := by decide +kernel
theorem dX11_seed_4 : decode cX11_seed 4 = .ok (.invokevirtual 166, 3) := by decide +kernel
theorem dX11_seed_7 : decode cX11_seed 7 = .ok (.ireturn, 1) := by decide +kernel
theorem dX11_ran_0 : decode cX11_ran 0 = .ok (.aload_n 0, 1) := by decide +kernel
theorem dX11_ran_1 : decode cX11_ran 1 = .ok (.getfield 288, 3) := by decide +kernel
theorem dX11_ran_4 : decode cX11_ran 4 = .ok (.bipush 40, 2) := by decide +kernel
theorem dX11_ran_6 : decode cX11_ran 6 = .ok (.if_icmp .ge 23, 3) := by decide +kernel
theorem dX11_ran_9 : decode cX11_ran 9 = .ok (.aload_n 0, 1) := by decide +kernel
theorem dX11_ran_10 : decode cX11_ran 10 = .ok (.getfield 41, 3) := by decide +kernel
theorem dX11_ran_13 : decode cX11_ran 13 = .ok (.aload_n 0, 1) := by decide +kernel
theorem dX11_ran_14 : decode cX11_ran 14 = .ok (.getfield 288, 3) := by decide +kernel
theorem dX11_ran_17 : decode cX11_ran 17 = .ok (.iload_n 1, 1) := by decide +kernel
theorem dX11_ran_18 : decode cX11_ran 18 = .ok (.iastore, 1) := by decide +kernel
theorem dX11_ran_19 : decode cX11_ran 19 = .ok (.aload_n 0, 1) := by decide +kernel
theorem dX11_ran_20 : decode cX11_ran 20 = .ok (.dup, 1) := by decide +kernel
theorem dX11_ran_21 : decode cX11_ran 21 = .ok (.getfield 288, 3) := by decide +kernel
theorem dX11_ran_24 : decode cX11_ran 24 = .ok (.iconst 1, 1) := by decide +kernel
theorem dX11_ran_25 : decode cX11_ran 25 = .ok (.iadd, 1) := by decide +kernel
theorem dX11_ran_26 : decode cX11_ran 26 = .ok (.putfield 288, 3) := by decide +kernel
theorem dX11_ran_29 : decode cX11_ran 29 = .ok (.return_, 1) := by decide +kernel
theorem dX11_callsOf_0 : decode cX11_callsOf 0 = .ok (.aload_n 0, 1) := by decide +kernel
theorem dX11_callsOf_1 : decode cX11_callsOf 1 = .ok (.getfield 291, 3) := by decide +kernel
theorem dX11_callsOf_4 : decode cX11_callsOf 4 = .ok (.iconst 1, 1) := by decide +kernel
theorem dX11_callsOf_5 : decode cX11_callsOf 5 = .ok (.invokestatic 212, 3) := by decide +kernel
theorem dX11_callsOf_8 : decode cX11_callsOf 8 = .ok (.istore_n 2, 1) := by decide +kernel
theorem dX11_callsOf_9 : decode cX11_callsOf 9 = .ok (.iload_n 2, 1) := by decide +kernel
theorem dX11_callsOf_10 : decode cX11_callsOf 10 = .ok (.ifCond .eq 9, 3) := by decide +kernel
theorem dX11_callsOf_13 : decode cX11_callsOf 13 = .ok (.aload_n 0, 1) := by decide +kernel
theorem dX11_callsOf_14 : decode cX11_callsOf 14 = .ok (.bipush 20, 2) := by decide +kernel
theorem dX11_callsOf_16 : decode cX11_callsOf 16 = .ok (.invokevirtual 294, 3) := by decide +kernel
theorem dX11_callsOf_19 : decode cX11_callsOf 19 = .ok (.aload_n 0, 1) := by decide +kernel
theorem dX11_callsOf_20 : decode cX11_callsOf 20 = .ok (.bipush 10, 2) := by decide +kernel
theorem dX11_callsOf_22 : decode cX11_callsOf 22 = .ok (.invokevirtual 294, 3) := by decide +kernel
theorem dX11_callsOf_25 : decode cX11_callsOf 25 = .ok (.iload_n 2, 1) := by decide +kernel
theorem dX11_callsOf_26 : decode cX11_callsOf 26 = .ok (.ifCond .eq 14, 3) := by decide +kernel
theorem dX11_callsOf_29 : decode cX11_callsOf 29 = .ok (.iload_n 1, 1) := by decide +kernel
theorem dX11_callsOf_30 : decode cX11_callsOf 30 = .ok (.aload_n 0, 1) := by decide +kernel
theorem dX11_callsOf_31 : decode cX11_callsOf 31 = .ok (.getfield 297, 3) := by decide +kernel
theorem dX11_callsOf_34 : decode cX11_callsOf 34 = .ok (.iadd, 1) := by decide +kernel
theorem dX11_callsOf_35 : decode cX11_callsOf 35 = .ok (.iconst 3, 1) := by decide +kernel
theorem dX11_callsOf_36 : decode cX11_callsOf 36 = .ok (.imul, 1) := by decide +kernel
theorem dX11_callsOf_37 : decode cX11_callsOf 37 = .ok (.goto 9, 3) := by decide +kernel
theorem dX11_callsOf_40 : decode cX11_callsOf 40 = .ok (.iload_n 1, 1) := by decide +kernel
theorem dX11_callsOf_41 : decode cX11_callsOf 41 = .ok (.aload_n 0, 1) := by decide +kernel
theorem dX11_callsOf_42 : decode cX11_callsOf 42 = .ok (.getfield 297, 3) := by decide +kernel
theorem dX11_callsOf_45 : decode cX11_callsOf 45 = .ok (.iadd, 1) := by decide +kernel
theorem dX11_callsOf_46 : decode cX11_callsOf 46 = .ok (.ireturn, 1) := by decide +kernel
theorem dX11_echoesOf_0 : decode cX11_echoesOf 0 = .ok (.iload_n 1, 1) := by decide +kernel
theorem dX11_echoesOf_1 : decode cX11_echoesOf 1 = .ok (.istore_n 2, 1) := by decide +kernel
theorem dX11_echoesOf_2 : decode cX11_echoesOf 2 = .ok (.aload_n 0, 1) := by decide +kernel
theorem dX11_echoesOf_3 : decode cX11_echoesOf 3 = .ok (.getfield 291, 3) := by decide +kernel
theorem dX11_echoesOf_6 : decode cX11_echoesOf 6 = .ok (.iconst 5, 1) := by decide +kernel
theorem dX11_echoesOf_7 : decode cX11_echoesOf 7 = .ok (.if_icmp .ne 12, 3) := by decide +kernel
theorem dX11_echoesOf_10 : decode cX11_echoesOf 10 = .ok (.aload_n 0, 1) := by decide +kernel
theorem dX11_echoesOf_11 : decode cX11_echoesOf 11 = .ok (.bipush 60, 2) := by decide +kernel
theorem dX11_echoesOf_13 : decode cX11_echoesOf 13 = .ok (.invokevirtual 294, 3) := by decide +kernel
theorem dX11_echoesOf_16 : decode cX11_echoesOf 16 = .ok (.iinc 2 1, 3) := by decide +kernel
theorem dX11_echoesOf_19 : decode cX11_echoesOf 19 = .ok (.aload_n 0, 1) := by decide +kernel
theorem dX11_echoesOf_20 : decode cX11_echoesOf 20 = .ok (.getfield 291, 3) := by decide +kernel
theorem dX11_echoesOf_23 : decode cX11_echoesOf 23 = .ok (.iconst 2, 1) := by decide +kernel
theorem dX11_echoesOf_24 : decode cX11_echoesOf 24 = .ok (.invokestatic 212, 3) := by decide +kernel
theorem dX11_echoesOf_27 : decode cX11_echoesOf 27 = .ok (.istore_n 3, 1) := by decide +kernel
theorem dX11_echoesOf_28 : decode cX11_echoesOf 28 = .ok (.iload_n 3, 1) := by decide +kernel
theorem dX11_echoesOf_29 : decode cX11_echoesOf 29 = .ok (.ifCond .eq 9, 3) := by decide +kernel
theorem dX11_echoesOf_32 : decode cX11_echoesOf 32 = .ok (.aload_n 0, 1) := by decide +kernel
theorem dX11_echoesOf_33 : decode cX11_echoesOf 33 = .ok (.bipush 30, 2) := by decide +kernel
theorem dX11_echoesOf_35 : decode cX11_echoesOf 35 = .ok (.invokevirtual 294, 3) := by decide +kernel
theorem dX11_echoesOf_38 : decode cX11_echoesOf 38 = .ok (.aload_n 0, 1) := by decide +kernel
theorem dX11_echoesOf_39 : decode cX11_echoesOf 39 = .ok (.bipush 11, 2) := by decide +kernel
theorem dX11_echoesOf_41 : decode cX11_echoesOf 41 = .ok (.invokevirtual 294, 3) := by decide +kernel
theorem dX11_echoesOf_44 : decode cX11_echoesOf 44 = .ok (.aload_n 0, 1) := by decide +kernel
theorem dX11_echoesOf_45 : decode cX11_echoesOf 45 = .ok (.iload_n 2, 1) := by decide +kernel
theorem dX11_echoesOf_46 : decode cX11_echoesOf 46 = .ok (.invokevirtual 300, 3) := by decide +kernel
theorem dX11_echoesOf_49 : decode cX11_echoesOf 49 = .ok (.iconst 2, 1) := by decide +kernel
theorem dX11_echoesOf_50 : decode cX11_echoesOf 50 = .ok (.imul, 1) := by decide +kernel
theorem dX11_echoesOf_51 : decode cX11_echoesOf 51 = .ok (.istore 4, 2) := by decide +kernel
theorem dX11_echoesOf_53 : decode cX11_echoesOf 53 = .ok (.iload_n 3, 1) := by decide +kernel
theorem dX11_echoesOf_54 : decode cX11_echoesOf 54 = .ok (.ifCond .eq 14, 3) := by decide +kernel
theorem dX11_echoesOf_57 : decode cX11_echoesOf 57 = .ok (.iload 4, 2) := by decide +kernel
theorem dX11_echoesOf_59 : decode cX11_echoesOf 59 = .ok (.aload_n 0, 1) := by decide +kernel
theorem dX11_echoesOf_60 : decode cX11_echoesOf 60 = .ok (.iconst 1, 1) := by decide +kernel
theorem dX11_echoesOf_61 : decode cX11_echoesOf 61 = .ok (.invokevirtual 303, 3) := by decide +kernel
theorem dX11_echoesOf_64 : decode cX11_echoesOf 64 = .ok (.isub, 1) := by decide +kernel
theorem dX11_echoesOf_65 : decode cX11_echoesOf 65 = .ok (.goto 5, 3) := by decide +kernel
theorem dX11_echoesOf_68 : decode cX11_echoesOf 68 = .ok (.iload 4, 2) := by decide +kernel
theorem dX11_echoesOf_70 : decode cX11_echoesOf 70 = .ok (.ireturn, 1) := by decide +kernel
theorem dX11_clearsOf_0 : decode cX11_clearsOf 0 = .ok (.aload_n 0, 1) := by decide +kernel
theorem dX11_clearsOf_1 : decode cX11_clearsOf 1 = .ok (.getfield 291, 3) := by decide +kernel
theorem dX11_clearsOf_4 : decode cX11_clearsOf 4 = .ok (.bipush 6, 2) := by decide +kernel
theorem dX11_clearsOf_6 : decode cX11_clearsOf 6 = .ok (.if_icmp .ne 9, 3) := by decide +kernel
theorem dX11_clearsOf_9 : decode cX11_clearsOf 9 = .ok (.aload_n 0, 1) := by decide +kernel
theorem dX11_clearsOf_10 : decode cX11_clearsOf 10 = .ok (.bipush 70, 2) := by decide +kernel
theorem dX11_clearsOf_12 : decode cX11_clearsOf 12 = .ok (.invokevirtual 294, 3) := by decide +kernel
theorem dX11_clearsOf_15 : decode cX11_clearsOf 15 = .ok (.aload_n 0, 1) := by decide +kernel
theorem dX11_clearsOf_16 : decode cX11_clearsOf 16 = .ok (.getfield 291, 3) := by decide +kernel
theorem dX11_clearsOf_19 : decode cX11_clearsOf 19 = .ok (.iconst 3, 1) := by decide +kernel
theorem dX11_clearsOf_20 : decode cX11_clearsOf 20 = .ok (.invokestatic 212, 3) := by decide +kernel
theorem dX11_clearsOf_23 : decode cX11_clearsOf 23 = .ok (.istore_n 2, 1) := by decide +kernel
theorem dX11_clearsOf_24 : decode cX11_clearsOf 24 = .ok (.iload_n 2, 1) := by decide +kernel
theorem dX11_clearsOf_25 : decode cX11_clearsOf 25 = .ok (.ifCond .eq 9, 3) := by decide +kernel
theorem dX11_clearsOf_28 : decode cX11_clearsOf 28 = .ok (.aload_n 0, 1) := by decide +kernel
theorem dX11_clearsOf_29 : decode cX11_clearsOf 29 = .ok (.bipush 40, 2) := by decide +kernel
theorem dX11_clearsOf_31 : decode cX11_clearsOf 31 = .ok (.invokevirtual 294, 3) := by decide +kernel
theorem dX11_clearsOf_34 : decode cX11_clearsOf 34 = .ok (.aload_n 0, 1) := by decide +kernel
theorem dX11_clearsOf_35 : decode cX11_clearsOf 35 = .ok (.bipush 12, 2) := by decide +kernel
theorem dX11_clearsOf_37 : decode cX11_clearsOf 37 = .ok (.invokevirtual 294, 3) := by decide +kernel
theorem dX11_clearsOf_40 : decode cX11_clearsOf 40 = .ok (.iload_n 2, 1) := by decide +kernel
theorem dX11_clearsOf_41 : decode cX11_clearsOf 41 = .ok (.ifCond .eq 13, 3) := by decide +kernel
theorem dX11_clearsOf_44 : decode cX11_clearsOf 44 = .ok (.iload_n 1, 1) := by decide +kernel
theorem dX11_clearsOf_45 : decode cX11_clearsOf 45 = .ok (.aload_n 0, 1) := by decide +kernel
theorem dX11_clearsOf_46 : decode cX11_clearsOf 46 = .ok (.getfield 306, 3) := by decide +kernel
theorem dX11_clearsOf_49 : decode cX11_clearsOf 49 = .ok (.isub, 1) := by decide +kernel
theorem dX11_clearsOf_50 : decode cX11_clearsOf 50 = .ok (.ineg, 1) := by decide +kernel
theorem dX11_clearsOf_51 : decode cX11_clearsOf 51 = .ok (.goto 9, 3) := by decide +kernel
theorem dX11_clearsOf_54 : decode cX11_clearsOf 54 = .ok (.iload_n 1, 1) := by decide +kernel
theorem dX11_clearsOf_55 : decode cX11_clearsOf 55 = .ok (.aload_n 0, 1) := by decide +kernel
theorem dX11_clearsOf_56 : decode cX11_clearsOf 56 = .ok (.getfield 306, 3) := by decide +kernel
theorem dX11_clearsOf_59 : decode cX11_clearsOf 59 = .ok (.isub, 1) := by decide +kernel
theorem dX11_clearsOf_60 : decode cX11_clearsOf 60 = .ok (.istore_n 3, 1) := by decide +kernel
theorem dX11_clearsOf_61 : decode cX11_clearsOf 61 = .ok (.aload_n 0, 1) := by decide +kernel
theorem dX11_clearsOf_62 : decode cX11_clearsOf 62 = .ok (.getfield 291, 3) := by decide +kernel
theorem dX11_clearsOf_65 : decode cX11_clearsOf 65 = .ok (.bipush 6, 2) := by decide +kernel
theorem dX11_clearsOf_67 : decode cX11_clearsOf 67 = .ok (.if_icmp .ne 12, 3) := by decide +kernel
theorem dX11_clearsOf_70 : decode cX11_clearsOf 70 = .ok (.iload_n 3, 1) := by decide +kernel
theorem dX11_clearsOf_71 : decode cX11_clearsOf 71 = .ok (.aload_n 0, 1) := by decide +kernel
theorem dX11_clearsOf_72 : decode cX11_clearsOf 72 = .ok (.getfield 297, 3) := by decide +kernel
theorem dX11_clearsOf_75 : decode cX11_clearsOf 75 = .ok (.ixor, 1) := by decide +kernel
theorem dX11_clearsOf_76 : decode cX11_clearsOf 76 = .ok (.goto 4, 3) := by decide +kernel
theorem dX11_clearsOf_79 : decode cX11_clearsOf 79 = .ok (.iload_n 3, 1) := by decide +kernel
theorem dX11_clearsOf_80 : decode cX11_clearsOf 80 = .ok (.ireturn, 1) := by decide +kernel
theorem dX11_plainTastes_0 : decode cX11_plainTastes 0 = .ok (.aload_n 0, 1) := by decide +kernel
theorem dX11_plainTastes_1 : decode cX11_plainTastes 1 = .ok (.bipush 13, 2) := by decide +kernel
theorem dX11_plainTastes_3 : decode cX11_plainTastes 3 = .ok (.invokevirtual 294, 3) := by decide +kernel
theorem dX11_plainTastes_6 : decode cX11_plainTastes 6 = .ok (.aload_n 0, 1) := by decide +kernel
theorem dX11_plainTastes_7 : decode cX11_plainTastes 7 = .ok (.iload_n 1, 1) := by decide +kernel
theorem dX11_plainTastes_8 : decode cX11_plainTastes 8 = .ok (.invokevirtual 309, 3) := by decide +kernel
theorem dX11_plainTastes_11 : decode cX11_plainTastes 11 = .ok (.istore_n 2, 1) := by decide +kernel
theorem dX11_plainTastes_12 : decode cX11_plainTastes 12 = .ok (.iload_n 2, 1) := by decide +kernel
theorem dX11_plainTastes_13 : decode cX11_plainTastes 13 = .ok (.aload_n 0, 1) := by decide +kernel
theorem dX11_plainTastes_14 : decode cX11_plainTastes 14 = .ok (.iload_n 1, 1) := by decide +kernel
theorem dX11_plainTastes_15 : decode cX11_plainTastes 15 = .ok (.invokevirtual 303, 3) := by decide +kernel
theorem dX11_plainTastes_18 : decode cX11_plainTastes 18 = .ok (.ixor, 1) := by decide +kernel
theorem dX11_plainTastes_19 : decode cX11_plainTastes 19 = .ok (.ireturn, 1) := by decide +kernel
theorem dX11_tastesOf_0 : decode cX11_tastesOf 0 = .ok (.aload_n 0, 1) := by decide +kernel
theorem dX11_tastesOf_1 : decode cX11_tastesOf 1 = .ok (.getfield 291, 3) := by decide +kernel
theorem dX11_tastesOf_4 : decode cX11_tastesOf 4 = .ok (.bipush 6, 2) := by decide +kernel
theorem dX11_tastesOf_6 : decode cX11_tastesOf 6 = .ok (.if_icmp .ne 23, 3) := by decide +kernel
theorem dX11_tastesOf_9 : decode cX11_tastesOf 9 = .ok (.aload_n 0, 1) := by decide +kernel
theorem dX11_tastesOf_10 : decode cX11_tastesOf 10 = .ok (.bipush 71, 2) := by decide +kernel
theorem dX11_tastesOf_12 : decode cX11_tastesOf 12 = .ok (.invokevirtual 294, 3) := by decide +kernel
theorem dX11_tastesOf_15 : decode cX11_tastesOf 15 = .ok (.aload_n 0, 1) := by decide +kernel
theorem dX11_tastesOf_16 : decode cX11_tastesOf 16 = .ok (.iload_n 1, 1) := by decide +kernel
theorem dX11_tastesOf_17 : decode cX11_tastesOf 17 = .ok (.invokevirtual 309, 3) := by decide +kernel
theorem dX11_tastesOf_20 : decode cX11_tastesOf 20 = .ok (.istore_n 2, 1) := by decide +kernel
theorem dX11_tastesOf_21 : decode cX11_tastesOf 21 = .ok (.iload_n 2, 1) := by decide +kernel
theorem dX11_tastesOf_22 : decode cX11_tastesOf 22 = .ok (.aload_n 0, 1) := by decide +kernel
theorem dX11_tastesOf_23 : decode cX11_tastesOf 23 = .ok (.iload_n 1, 1) := by decide +kernel
theorem dX11_tastesOf_24 : decode cX11_tastesOf 24 = .ok (.invokevirtual 312, 3) := by decide +kernel
theorem dX11_tastesOf_27 : decode cX11_tastesOf 27 = .ok (.isub, 1) := by decide +kernel
theorem dX11_tastesOf_28 : decode cX11_tastesOf 28 = .ok (.ireturn, 1) := by decide +kernel
theorem dX11_tastesOf_29 : decode cX11_tastesOf 29 = .ok (.aload_n 0, 1) := by decide +kernel
theorem dX11_tastesOf_30 : decode cX11_tastesOf 30 = .ok (.getfield 291, 3) := by decide +kernel
theorem dX11_tastesOf_33 : decode cX11_tastesOf 33 = .ok (.iconst 4, 1) := by decide +kernel
theorem dX11_tastesOf_34 : decode cX11_tastesOf 34 = .ok (.if_icmp .ne 23, 3) := by decide +kernel
theorem dX11_tastesOf_37 : decode cX11_tastesOf 37 = .ok (.aload_n 0, 1) := by decide +kernel
theorem dX11_tastesOf_38 : decode cX11_tastesOf 38 = .ok (.bipush 50, 2) := by decide +kernel
theorem dX11_tastesOf_40 : decode cX11_tastesOf 40 = .ok (.invokevirtual 294, 3) := by decide +kernel
theorem dX11_tastesOf_43 : decode cX11_tastesOf 43 = .ok (.aload_n 0, 1) := by decide +kernel
theorem dX11_tastesOf_44 : decode cX11_tastesOf 44 = .ok (.iload_n 1, 1) := by decide +kernel
theorem dX11_tastesOf_45 : decode cX11_tastesOf 45 = .ok (.invokevirtual 312, 3) := by decide +kernel
theorem dX11_tastesOf_48 : decode cX11_tastesOf 48 = .ok (.istore_n 2, 1) := by decide +kernel
theorem dX11_tastesOf_49 : decode cX11_tastesOf 49 = .ok (.iload_n 2, 1) := by decide +kernel
theorem dX11_tastesOf_50 : decode cX11_tastesOf 50 = .ok (.aload_n 0, 1) := by decide +kernel
theorem dX11_tastesOf_51 : decode cX11_tastesOf 51 = .ok (.iconst 2, 1) := by decide +kernel
theorem dX11_tastesOf_52 : decode cX11_tastesOf 52 = .ok (.invokevirtual 300, 3) := by decide +kernel
theorem dX11_tastesOf_55 : decode cX11_tastesOf 55 = .ok (.isub, 1) := by decide +kernel
theorem dX11_tastesOf_56 : decode cX11_tastesOf 56 = .ok (.ireturn, 1) := by decide +kernel
theorem dX11_tastesOf_57 : decode cX11_tastesOf 57 = .ok (.aload_n 0, 1) := by decide +kernel
theorem dX11_tastesOf_58 : decode cX11_tastesOf 58 = .ok (.iload_n 1, 1) := by decide +kernel
theorem dX11_tastesOf_59 : decode cX11_tastesOf 59 = .ok (.invokevirtual 312, 3) := by decide +kernel
theorem dX11_tastesOf_62 : decode cX11_tastesOf 62 = .ok (.ireturn, 1) := by decide +kernel
theorem dX11_voice_0 : decode cX11_voice 0 = .ok (.aload_n 0, 1) := by decide +kernel
theorem dX11_voice_1 : decode cX11_voice 1 = .ok (.iload_n 1, 1) := by decide +kernel
theorem dX11_voice_2 : decode cX11_voice 2 = .ok (.invokevirtual 215, 3) := by decide +kernel
theorem dX11_voice_5 : decode cX11_voice 5 = .ok (.ifCond .eq 12, 3) := by decide +kernel
theorem dX11_voice_8 : decode cX11_voice 8 = .ok (.iload_n 2, 1) := by decide +kernel
theorem dX11_voice_9 : decode cX11_voice 9 = .ok (.iconst 0, 1) := by decide +kernel
theorem dX11_voice_10 : decode cX11_voice 10 = .ok (.iconst 3, 1) := by decide +kernel
theorem dX11_voice_11 : decode cX11_voice 11 = .ok (.invokestatic 70, 3) := by decide +kernel
theorem dX11_voice_14 : decode cX11_voice 14 = .ok (.ifCond .ne 10, 3) := by decide +kernel
theorem dX11_voice_17 : decode cX11_voice 17 = .ok (.aload_n 0, 1) := by decide +kernel
theorem dX11_voice_18 : decode cX11_voice 18 = .ok (.ldc 74, 2) := by decide +kernel
theorem dX11_voice_20 : decode cX11_voice 20 = .ok (.invokevirtual 75, 3) := by decide +kernel
theorem dX11_voice_23 : decode cX11_voice 23 = .ok (.ireturn, 1) := by decide +kernel
theorem dX11_voice_24 : decode cX11_voice 24 = .ok (.aload_n 0, 1) := by decide +kernel
theorem dX11_voice_25 : decode cX11_voice 25 = .ok (.iconst 0, 1) := by decide +kernel
theorem dX11_voice_26 : decode cX11_voice 26 = .ok (.putfield 288, 3) := by decide +kernel
theorem dX11_voice_29 : decode cX11_voice 29 = .ok (.aload_n 0, 1) := by decide +kernel
theorem dX11_voice_30 : decode cX11_voice 30 = .ok (.aload_n 0, 1) := by decide +kernel
theorem dX11_voice_31 : decode cX11_voice 31 = .ok (.iload_n 1, 1) := by decide +kernel
theorem dX11_voice_32 : decode cX11_voice 32 = .ok (.iconst 0, 1) := by decide +kernel
theorem dX11_voice_33 : decode cX11_voice 33 = .ok (.invokevirtual 193, 3) := by decide +kernel
theorem dX11_voice_36 : decode cX11_voice 36 = .ok (.putfield 291, 3) := by decide +kernel
theorem dX11_voice_39 : decode cX11_voice 39 = .ok (.aload_n 0, 1) := by decide +kernel
theorem dX11_voice_40 : decode cX11_voice 40 = .ok (.iload_n 1, 1) := by decide +kernel
theorem dX11_voice_41 : decode cX11_voice 41 = .ok (.putfield 297, 3) := by decide +kernel
theorem dX11_voice_44 : decode cX11_voice 44 = .ok (.aload_n 0, 1) := by decide +kernel
theorem dX11_voice_45 : decode cX11_voice 45 = .ok (.aload_n 0, 1) := by decide +kernel
theorem dX11_voice_46 : decode cX11_voice 46 = .ok (.iload_n 1, 1) := by decide +kernel
theorem dX11_voice_47 : decode cX11_voice 47 = .ok (.iconst 1, 1) := by decide +kernel
theorem dX11_voice_48 : decode cX11_voice 48 = .ok (.invokevirtual 193, 3) := by decide +kernel
theorem dX11_voice_51 : decode cX11_voice 51 = .ok (.putfield 306, 3) := by decide +kernel
theorem dX11_voice_54 : decode cX11_voice 54 = .ok (.iload_n 2, 1) := by decide +kernel
theorem dX11_voice_55 : decode cX11_voice 55 = .ok (.ifCond .ne 11, 3) := by decide +kernel
theorem dX11_voice_58 : decode cX11_voice 58 = .ok (.aload_n 0, 1) := by decide +kernel
theorem dX11_voice_59 : decode cX11_voice 59 = .ok (.iload_n 3, 1) := by decide +kernel
theorem dX11_voice_60 : decode cX11_voice 60 = .ok (.invokevirtual 300, 3) := by decide +kernel
theorem dX11_voice_63 : decode cX11_voice 63 = .ok (.goto 34, 3) := by decide +kernel
theorem dX11_voice_66 : decode cX11_voice 66 = .ok (.iload_n 2, 1) := by decide +kernel
theorem dX11_voice_67 : decode cX11_voice 67 = .ok (.iconst 1, 1) := by decide +kernel
theorem dX11_voice_68 : decode cX11_voice 68 = .ok (.if_icmp .ne 11, 3) := by decide +kernel
theorem dX11_voice_71 : decode cX11_voice 71 = .ok (.aload_n 0, 1) := by decide +kernel
theorem dX11_voice_72 : decode cX11_voice 72 = .ok (.iload_n 3, 1) := by decide +kernel
theorem dX11_voice_73 : decode cX11_voice 73 = .ok (.invokevirtual 309, 3) := by decide +kernel
theorem dX11_voice_76 : decode cX11_voice 76 = .ok (.goto 21, 3) := by decide +kernel
theorem dX11_voice_79 : decode cX11_voice 79 = .ok (.iload_n 2, 1) := by decide +kernel
theorem dX11_voice_80 : decode cX11_voice 80 = .ok (.iconst 2, 1) := by decide +kernel
theorem dX11_voice_81 : decode cX11_voice 81 = .ok (.if_icmp .ne 11, 3) := by decide +kernel
theorem dX11_voice_84 : decode cX11_voice 84 = .ok (.aload_n 0, 1) := by decide +kernel
theorem dX11_voice_85 : decode cX11_voice 85 = .ok (.iload_n 3, 1) := by decide +kernel
theorem dX11_voice_86 : decode cX11_voice 86 = .ok (.invokevirtual 303, 3) := by decide +kernel
theorem dX11_voice_89 : decode cX11_voice 89 = .ok (.goto 8, 3) := by decide +kernel
theorem dX11_voice_92 : decode cX11_voice 92 = .ok (.aload_n 0, 1) := by decide +kernel
theorem dX11_voice_93 : decode cX11_voice 93 = .ok (.iload_n 3, 1) := by decide +kernel
theorem dX11_voice_94 : decode cX11_voice 94 = .ok (.invokevirtual 315, 3) := by decide +kernel
theorem dX11_voice_97 : decode cX11_voice 97 = .ok (.ireturn, 1) := by decide +kernel
theorem dX11_trace_0 : decode cX11_trace 0 = .ok (.iload_n 1, 1) := by decide +kernel
theorem dX11_trace_1 : decode cX11_trace 1 = .ok (.iconst 0, 1) := by decide +kernel
theorem dX11_trace_2 : decode cX11_trace 2 = .ok (.aload_n 0, 1) := by decide +kernel
theorem dX11_trace_3 : decode cX11_trace 3 = .ok (.getfield 288, 3) := by decide +kernel
theorem dX11_trace_6 : decode cX11_trace 6 = .ok (.iconst 1, 1) := by decide +kernel
theorem dX11_trace_7 : decode cX11_trace 7 = .ok (.isub, 1) := by decide +kernel
theorem dX11_trace_8 : decode cX11_trace 8 = .ok (.invokestatic 70, 3) := by decide +kernel
theorem dX11_trace_11 : decode cX11_trace 11 = .ok (.ifCond .eq 12, 3) := by decide +kernel
theorem dX11_trace_14 : decode cX11_trace 14 = .ok (.aload_n 0, 1) := by decide +kernel
theorem dX11_trace_15 : decode cX11_trace 15 = .ok (.getfield 41, 3) := by decide +kernel
theorem dX11_trace_18 : decode cX11_trace 18 = .ok (.iload_n 1, 1) := by decide +kernel
theorem dX11_trace_19 : decode cX11_trace 19 = .ok (.iaload, 1) := by decide +kernel
theorem dX11_trace_20 : decode cX11_trace 20 = .ok (.goto 10, 3) := by decide +kernel
theorem dX11_trace_23 : decode cX11_trace 23 = .ok (.aload_n 0, 1) := by decide +kernel
theorem dX11_trace_24 : decode cX11_trace 24 = .ok (.ldc_w 259, 3) := by decide +kernel
theorem dX11_trace_27 : decode cX11_trace 27 = .ok (.invokevirtual 75, 3) := by decide +kernel
theorem dX11_trace_30 : decode cX11_trace 30 = .ok (.ireturn, 1) := by decide +kernel
theorem dX11_isSheet_0 : decode cX11_isSheet 0 = .ok (.iload_n 0, 1) := by decide +kernel
theorem dX11_isSheet_1 : decode cX11_isSheet 1 = .ok (.iconst 0, 1) := by decide +kernel
theorem dX11_isSheet_2 : decode cX11_isSheet 2 = .ok (.iconst 3, 1) := by decide +kernel
theorem dX11_isSheet_3 : decode cX11_isSheet 3 = .ok (.invokestatic 70, 3) := by decide +kernel
theorem dX11_isSheet_6 : decode cX11_isSheet 6 = .ok (.ireturn, 1) := by decide +kernel
theorem dX11_sheet_0 : decode cX11_sheet 0 = .ok (.iload_n 1, 1) := by decide +kernel
theorem dX11_sheet_1 : decode cX11_sheet 1 = .ok (.invokestatic 276, 3) := by decide +kernel
theorem dX11_sheet_4 : decode cX11_sheet 4 = .ok (.ifCond .eq 25, 3) := by decide +kernel
theorem dX11_sheet_7 : decode cX11_sheet 7 = .ok (.iload_n 2, 1) := by decide +kernel
theorem dX11_sheet_8 : decode cX11_sheet 8 = .ok (.ifCond .eq 28, 3) := by decide +kernel
theorem dX11_sheet_11 : decode cX11_sheet 11 = .ok (.iload_n 2, 1) := by decide +kernel
theorem dX11_sheet_12 : decode cX11_sheet 12 = .ok (.bipush 8, 2) := by decide +kernel
theorem dX11_sheet_14 : decode cX11_sheet 14 = .ok (.if_icmp .eq 22, 3) := by decide +kernel
theorem dX11_sheet_17 : decode cX11_sheet 17 = .ok (.iload_n 2, 1) := by decide +kernel
theorem dX11_sheet_18 : decode cX11_sheet 18 = .ok (.bipush 16, 2) := by decide +kernel
theorem dX11_sheet_20 : decode cX11_sheet 20 = .ok (.if_icmp .eq 16, 3) := by decide +kernel
theorem dX11_sheet_23 : decode cX11_sheet 23 = .ok (.iload_n 2, 1) := by decide +kernel
theorem dX11_sheet_24 : decode cX11_sheet 24 = .ok (.bipush 32, 2) := by decide +kernel
theorem dX11_sheet_26 : decode cX11_sheet 26 = .ok (.if_icmp .eq 10, 3) := by decide +kernel
theorem dX11_sheet_29 : decode cX11_sheet 29 = .ok (.aload_n 0, 1) := by decide +kernel
theorem dX11_sheet_30 : decode cX11_sheet 30 = .ok (.ldc 74, 2) := by decide +kernel
theorem dX11_sheet_32 : decode cX11_sheet 32 = .ok (.invokevirtual 75, 3) := by decide +kernel
theorem dX11_sheet_35 : decode cX11_sheet 35 = .ok (.ireturn, 1) := by decide +kernel
theorem dX11_sheet_36 : decode cX11_sheet 36 = .ok (.iload_n 2, 1) := by decide +kernel
theorem dX11_sheet_37 : decode cX11_sheet 37 = .ok (.ifCond .eq 14, 3) := by decide +kernel
theorem dX11_sheet_40 : decode cX11_sheet 40 = .ok (.iload_n 3, 1) := by decide +kernel
theorem dX11_sheet_41 : decode cX11_sheet 41 = .ok (.ifCond .ge 10, 3) := by decide +kernel
theorem dX11_sheet_44 : decode cX11_sheet 44 = .ok (.aload_n 0, 1) := by decide +kernel
theorem dX11_sheet_45 : decode cX11_sheet 45 = .ok (.ldc 165, 2) := by decide +kernel
theorem dX11_sheet_47 : decode cX11_sheet 47 = .ok (.invokevirtual 75, 3) := by decide +kernel
theorem dX11_sheet_50 : decode cX11_sheet 50 = .ok (.ireturn, 1) := by decide +kernel
theorem dX11_sheet_51 : decode cX11_sheet 51 = .ok (.iload_n 2, 1) := by decide +kernel
theorem dX11_sheet_52 : decode cX11_sheet 52 = .ok (.ifCond .eq 16, 3) := by decide +kernel
theorem dX11_sheet_55 : decode cX11_sheet 55 = .ok (.iload_n 3, 1) := by decide +kernel
theorem dX11_sheet_56 : decode cX11_sheet 56 = .ok (.bipush 40, 2) := by decide +kernel
theorem dX11_sheet_58 : decode cX11_sheet 58 = .ok (.if_icmp .le 10, 3) := by decide +kernel
theorem dX11_sheet_61 : decode cX11_sheet 61 = .ok (.aload_n 0, 1) := by decide +kernel
theorem dX11_sheet_62 : decode cX11_sheet 62 = .ok (.ldc 74, 2) := by decide +kernel
theorem dX11_sheet_64 : decode cX11_sheet 64 = .ok (.invokevirtual 75, 3) := by decide +kernel
theorem dX11_sheet_67 : decode cX11_sheet 67 = .ok (.ireturn, 1) := by decide +kernel
theorem dX11_sheet_68 : decode cX11_sheet 68 = .ok (.aload_n 0, 1) := by decide +kernel
theorem dX11_sheet_69 : decode cX11_sheet 69 = .ok (.getfield 44, 3) := by decide +kernel
theorem dX11_sheet_72 : decode cX11_sheet 72 = .ok (.iload_n 1, 1) := by decide +kernel
theorem dX11_sheet_73 : decode cX11_sheet 73 = .ok (.iload_n 2, 1) := by decide +kernel
theorem dX11_sheet_74 : decode cX11_sheet 74 = .ok (.iastore, 1) := by decide +kernel
theorem dX11_sheet_75 : decode cX11_sheet 75 = .ok (.aload_n 0, 1) := by decide +kernel
theorem dX11_sheet_76 : decode cX11_sheet 76 = .ok (.getfield 47, 3) := by decide +kernel
theorem dX11_sheet_79 : decode cX11_sheet 79 = .ok (.iload_n 1, 1) := by decide +kernel
theorem dX11_sheet_80 : decode cX11_sheet 80 = .ok (.iload_n 2, 1) := by decide +kernel
theorem dX11_sheet_81 : decode cX11_sheet 81 = .ok (.ifCond .ne 7, 3) := by decide +kernel
theorem dX11_sheet_84 : decode cX11_sheet 84 = .ok (.iconst 0, 1) := by decide +kernel
theorem dX11_sheet_85 : decode cX11_sheet 85 = .ok (.goto 4, 3) := by decide +kernel
theorem dX11_sheet_88 : decode cX11_sheet 88 = .ok (.iload_n 3, 1) := by decide +kernel
theorem dX11_sheet_89 : decode cX11_sheet 89 = .ok (.iastore, 1) := by decide +kernel
theorem dX11_sheet_90 : decode cX11_sheet 90 = .ok (.iconst 0, 1) := by decide +kernel
theorem dX11_sheet_91 : decode cX11_sheet 91 = .ok (.istore 4, 2) := by decide +kernel
theorem dX11_sheet_93 : decode cX11_sheet 93 = .ok (.iload 4, 2) := by decide +kernel
theorem dX11_sheet_95 : decode cX11_sheet 95 = .ok (.bipush 40, 2) := by decide +kernel
theorem dX11_sheet_97 : decode cX11_sheet 97 = .ok (.if_icmp .ge 22, 3) := by decide +kernel
theorem dX11_sheet_100 : decode cX11_sheet 100 = .ok (.aload_n 0, 1) := by decide +kernel
theorem dX11_sheet_101 : decode cX11_sheet 101 = .ok (.getfield 50, 3) := by decide +kernel
theorem dX11_sheet_104 : decode cX11_sheet 104 = .ok (.bipush 40, 2) := by decide +kernel
theorem dX11_sheet_106 : decode cX11_sheet 106 = .ok (.iload_n 1, 1) := by decide +kernel
theorem dX11_sheet_107 : decode cX11_sheet 107 = .ok (.imul, 1) := by decide +kernel
theorem dX11_sheet_108 : decode cX11_sheet 108 = .ok (.iload 4, 2) := by decide +kernel
theorem dX11_sheet_110 : decode cX11_sheet 110 = .ok (.iadd, 1) := by decide +kernel
theorem dX11_sheet_111 : decode cX11_sheet 111 = .ok (.iconst 0, 1) := by decide +kernel
theorem dX11_sheet_112 : decode cX11_sheet 112 = .ok (.iastore, 1) := by decide +kernel
theorem dX11_sheet_113 : decode cX11_sheet 113 = .ok (.iinc 4 1, 3) := by decide +kernel
theorem dX11_sheet_116 : decode cX11_sheet 116 = .ok (.goto (-23), 3) := by decide +kernel
theorem dX11_sheet_119 : decode cX11_sheet 119 = .ok (.iconst 1, 1) := by decide +kernel
theorem dX11_sheet_120 : decode cX11_sheet 120 = .ok (.ireturn, 1) := by decide +kernel
theorem dX11_put_0 : decode cX11_put 0 = .ok (.iload_n 1, 1) := by decide +kernel
theorem dX11_put_1 : decode cX11_put 1 = .ok (.invokestatic 276, 3) := by decide +kernel
theorem dX11_put_4 : decode cX11_put 4 = .ok (.ifCond .ne 10, 3) := by decide +kernel
theorem dX11_put_7 : decode cX11_put 7 = .ok (.aload_n 0, 1) := by decide +kernel
theorem dX11_put_8 : decode cX11_put 8 = .ok (.ldc 74, 2) := by decide +kernel
theorem dX11_put_10 : decode cX11_put 10 = .ok (.invokevirtual 75, 3) := by decide +kernel
theorem dX11_put_13 : decode cX11_put 13 = .ok (.ireturn, 1) := by decide +kernel
theorem dX11_put_14 : decode cX11_put 14 = .ok (.aload_n 0, 1) := by decide +kernel
theorem dX11_put_15 : decode cX11_put 15 = .ok (.getfield 44, 3) := by decide +kernel
theorem dX11_put_18 : decode cX11_put 18 = .ok (.iload_n 1, 1) := by decide +kernel
theorem dX11_put_19 : decode cX11_put 19 = .ok (.iaload, 1) := by decide +kernel
theorem dX11_put_20 : decode cX11_put 20 = .ok (.ifCond .ne 11, 3) := by decide +kernel
theorem dX11_put_23 : decode cX11_put 23 = .ok (.aload_n 0, 1) := by decide +kernel
theorem dX11_put_24 : decode cX11_put 24 = .ok (.ldc_w 259, 3) := by decide +kernel
theorem dX11_put_27 : decode cX11_put 27 = .ok (.invokevirtual 75, 3) := by decide +kernel
theorem dX11_put_30 : decode cX11_put 30 = .ok (.ireturn, 1) := by decide +kernel
theorem dX11_put_31 : decode cX11_put 31 = .ok (.iload_n 2, 1) := by decide +kernel
theorem dX11_put_32 : decode cX11_put 32 = .ok (.iconst 0, 1) := by decide +kernel
theorem dX11_put_33 : decode cX11_put 33 = .ok (.aload_n 0, 1) := by decide +kernel
theorem dX11_put_34 : decode cX11_put 34 = .ok (.getfield 47, 3) := by decide +kernel
theorem dX11_put_37 : decode cX11_put 37 = .ok (.iload_n 1, 1) := by decide +kernel
theorem dX11_put_38 : decode cX11_put 38 = .ok (.iaload, 1) := by decide +kernel
theorem dX11_put_39 : decode cX11_put 39 = .ok (.iconst 1, 1) := by decide +kernel
theorem dX11_put_40 : decode cX11_put 40 = .ok (.isub, 1) := by decide +kernel
theorem dX11_put_41 : decode cX11_put 41 = .ok (.invokestatic 70, 3) := by decide +kernel
theorem dX11_put_44 : decode cX11_put 44 = .ok (.ifCond .ne 10, 3) := by decide +kernel
theorem dX11_put_47 : decode cX11_put 47 = .ok (.aload_n 0, 1) := by decide +kernel
theorem dX11_put_48 : decode cX11_put 48 = .ok (.ldc 74, 2) := by decide +kernel
theorem dX11_put_50 : decode cX11_put 50 = .ok (.invokevirtual 75, 3) := by decide +kernel
theorem dX11_put_53 : decode cX11_put 53 = .ok (.ireturn, 1) := by decide +kernel
theorem dX11_put_54 : decode cX11_put 54 = .ok (.aload_n 0, 1) := by decide +kernel
theorem dX11_put_55 : decode cX11_put 55 = .ok (.getfield 50, 3) := by decide +kernel
theorem dX11_put_58 : decode cX11_put 58 = .ok (.bipush 40, 2) := by decide +kernel
theorem dX11_put_60 : decode cX11_put 60 = .ok (.iload_n 1, 1) := by decide +kernel
theorem dX11_put_61 : decode cX11_put 61 = .ok (.imul, 1) := by decide +kernel
theorem dX11_put_62 : decode cX11_put 62 = .ok (.iload_n 2, 1) := by decide +kernel
theorem dX11_put_63 : decode cX11_put 63 = .ok (.iadd, 1) := by decide +kernel
theorem dX11_put_64 : decode cX11_put 64 = .ok (.aload_n 0, 1) := by decide +kernel
theorem dX11_put_65 : decode cX11_put 65 = .ok (.getfield 44, 3) := by decide +kernel
theorem dX11_put_68 : decode cX11_put 68 = .ok (.iload_n 1, 1) := by decide +kernel
theorem dX11_put_69 : decode cX11_put 69 = .ok (.iaload, 1) := by decide +kernel
theorem dX11_put_70 : decode cX11_put 70 = .ok (.bipush 8, 2) := by decide +kernel
theorem dX11_put_72 : decode cX11_put 72 = .ok (.if_icmp .ne 8, 3) := by decide +kernel
theorem dX11_put_75 : decode cX11_put 75 = .ok (.iload_n 3, 1) := by decide +kernel
theorem dX11_put_76 : decode cX11_put 76 = .ok (.i2b, 1) := by decide +kernel
theorem dX11_put_77 : decode cX11_put 77 = .ok (.goto 20, 3) := by decide +kernel
theorem dX11_put_80 : decode cX11_put 80 = .ok (.aload_n 0, 1) := by decide +kernel
theorem dX11_put_81 : decode cX11_put 81 = .ok (.getfield 44, 3) := by decide +kernel
theorem dX11_put_84 : decode cX11_put 84 = .ok (.iload_n 1, 1) := by decide +kernel
theorem dX11_put_85 : decode cX11_put 85 = .ok (.iaload, 1) := by decide +kernel
theorem dX11_put_86 : decode cX11_put 86 = .ok (.bipush 16, 2) := by decide +kernel
theorem dX11_put_88 : decode cX11_put 88 = .ok (.if_icmp .ne 8, 3) := by decide +kernel
theorem dX11_put_91 : decode cX11_put 91 = .ok (.iload_n 3, 1) := by decide +kernel
theorem dX11_put_92 : decode cX11_put 92 = .ok (.i2s, 1) := by decide +kernel
theorem dX11_put_93 : decode cX11_put 93 = .ok (.goto 4, 3) := by decide +kernel
theorem dX11_put_96 : decode cX11_put 96 = .ok (.iload_n 3, 1) := by decide +kernel
theorem dX11_put_97 : decode cX11_put 97 = .ok (.iastore, 1) := by decide +kernel
theorem dX11_put_98 : decode cX11_put 98 = .ok (.iconst 1, 1) := by decide +kernel
theorem dX11_put_99 : decode cX11_put 99 = .ok (.ireturn, 1) := by decide +kernel
theorem dX11_move_0 : decode cX11_move 0 = .ok (.iload_n 1, 1) := by decide +kernel
theorem dX11_move_1 : decode cX11_move 1 = .ok (.invokestatic 276, 3) := by decide +kernel
theorem dX11_move_4 : decode cX11_move 4 = .ok (.ifCond .eq 10, 3) := by decide +kernel
theorem dX11_move_7 : decode cX11_move 7 = .ok (.iload_n 3, 1) := by decide +kernel
theorem dX11_move_8 : decode cX11_move 8 = .ok (.invokestatic 276, 3) := by decide +kernel
theorem dX11_move_11 : decode cX11_move 11 = .ok (.ifCond .ne 10, 3) := by decide +kernel
theorem dX11_move_14 : decode cX11_move 14 = .ok (.aload_n 0, 1) := by decide +kernel
theorem dX11_move_15 : decode cX11_move 15 = .ok (.ldc 74, 2) := by decide +kernel
theorem dX11_move_17 : decode cX11_move 17 = .ok (.invokevirtual 75, 3) := by decide +kernel
theorem dX11_move_20 : decode cX11_move 20 = .ok (.ireturn, 1) := by decide +kernel
theorem dX11_move_21 : decode cX11_move 21 = .ok (.aload_n 0, 1) := by decide +kernel
theorem dX11_move_22 : decode cX11_move 22 = .ok (.getfield 44, 3) := by decide +kernel
theorem dX11_move_25 : decode cX11_move 25 = .ok (.iload_n 1, 1) := by decide +kernel
theorem dX11_move_26 : decode cX11_move 26 = .ok (.iaload, 1) := by decide +kernel
theorem dX11_move_27 : decode cX11_move 27 = .ok (.ifCond .eq 12, 3) := by decide +kernel
theorem dX11_move_30 : decode cX11_move 30 = .ok (.aload_n 0, 1) := by decide +kernel
theorem dX11_move_31 : decode cX11_move 31 = .ok (.getfield 44, 3) := by decide +kernel
theorem dX11_move_34 : decode cX11_move 34 = .ok (.iload_n 3, 1) := by decide +kernel
theorem dX11_move_35 : decode cX11_move 35 = .ok (.iaload, 1) := by decide +kernel
theorem dX11_move_36 : decode cX11_move 36 = .ok (.ifCond .ne 11, 3) := by decide +kernel
theorem dX11_move_39 : decode cX11_move 39 = .ok (.aload_n 0, 1) := by decide +kernel
theorem dX11_move_40 : decode cX11_move 40 = .ok (.ldc_w 259, 3) := by decide +kernel
theorem dX11_move_43 : decode cX11_move 43 = .ok (.invokevirtual 75, 3) := by decide +kernel
theorem dX11_move_46 : decode cX11_move 46 = .ok (.ireturn, 1) := by decide +kernel
theorem dX11_move_47 : decode cX11_move 47 = .ok (.aload_n 0, 1) := by decide +kernel
theorem dX11_move_48 : decode cX11_move 48 = .ok (.getfield 44, 3) := by decide +kernel
theorem dX11_move_51 : decode cX11_move 51 = .ok (.iload_n 1, 1) := by decide +kernel
theorem dX11_move_52 : decode cX11_move 52 = .ok (.iaload, 1) := by decide +kernel
theorem dX11_move_53 : decode cX11_move 53 = .ok (.aload_n 0, 1) := by decide +kernel
theorem dX11_move_54 : decode cX11_move 54 = .ok (.getfield 44, 3) := by decide +kernel
theorem dX11_move_57 : decode cX11_move 57 = .ok (.iload_n 3, 1) := by decide +kernel
theorem dX11_move_58 : decode cX11_move 58 = .ok (.iaload, 1) := by decide +kernel
theorem dX11_move_59 : decode cX11_move 59 = .ok (.if_icmp .eq 10, 3) := by decide +kernel
theorem dX11_move_62 : decode cX11_move 62 = .ok (.aload_n 0, 1) := by decide +kernel
theorem dX11_move_63 : decode cX11_move 63 = .ok (.ldc 224, 2) := by decide +kernel
theorem dX11_move_65 : decode cX11_move 65 = .ok (.invokevirtual 75, 3) := by decide +kernel
theorem dX11_move_68 : decode cX11_move 68 = .ok (.ireturn, 1) := by decide +kernel
theorem dX11_move_69 : decode cX11_move 69 = .ok (.iload 5, 2) := by decide +kernel
theorem dX11_move_71 : decode cX11_move 71 = .ok (.ifCond .lt 47, 3) := by decide +kernel
theorem dX11_move_74 : decode cX11_move 74 = .ok (.iload_n 2, 1) := by decide +kernel
theorem dX11_move_75 : decode cX11_move 75 = .ok (.ifCond .lt 43, 3) := by decide +kernel
theorem dX11_move_78 : decode cX11_move 78 = .ok (.iload 4, 2) := by decide +kernel
theorem dX11_move_80 : decode cX11_move 80 = .ok (.ifCond .lt 38, 3) := by decide +kernel
theorem dX11_move_83 : decode cX11_move 83 = .ok (.iload_n 2, 1) := by decide +kernel
theorem dX11_move_84 : decode cX11_move 84 = .ok (.i2l, 1) := by decide +kernel
theorem dX11_move_85 : decode cX11_move 85 = .ok (.iload 5, 2) := by decide +kernel
theorem dX11_move_87 : decode cX11_move 87 = .ok (.i2l, 1) := by decide +kernel
theorem dX11_move_88 : decode cX11_move 88 = .ok (.ladd, 1) := by decide +kernel
theorem dX11_move_89 : decode cX11_move 89 = .ok (.aload_n 0, 1) := by decide +kernel
theorem dX11_move_90 : decode cX11_move 90 = .ok (.getfield 47, 3) := by decide +kernel
theorem dX11_move_93 : decode cX11_move 93 = .ok (.iload_n 1, 1) := by decide +kernel
theorem dX11_move_94 : decode cX11_move 94 = .ok (.iaload, 1) := by decide +kernel
theorem dX11_move_95 : decode cX11_move 95 = .ok (.i2l, 1) := by decide +kernel
theorem dX11_move_96 : decode cX11_move 96 = .ok (.lcmp, 1) := by decide +kernel
theorem dX11_move_97 : decode cX11_move 97 = .ok (.ifCond .gt 21, 3) := by decide +kernel
theorem dX11_move_100 : decode cX11_move 100 = .ok (.iload 4, 2) := by decide +kernel
theorem dX11_move_102 : decode cX11_move 102 = .ok (.i2l, 1) := by decide +kernel
theorem dX11_move_103 : decode cX11_move 103 = .ok (.iload 5, 2) := by decide +kernel
theorem dX11_move_105 : decode cX11_move 105 = .ok (.i2l, 1) := by decide +kernel
theorem dX11_move_106 : decode cX11_move 106 = .ok (.ladd, 1) := by decide +kernel
theorem dX11_move_107 : decode cX11_move 107 = .ok (.aload_n 0, 1) := by decide +kernel
theorem dX11_move_108 : decode cX11_move 108 = .ok (.getfield 47, 3) := by decide +kernel
theorem dX11_move_111 : decode cX11_move 111 = .ok (.iload_n 3, 1) := by decide +kernel
theorem dX11_move_112 : decode cX11_move 112 = .ok (.iaload, 1) := by decide +kernel
theorem dX11_move_113 : decode cX11_move 113 = .ok (.i2l, 1) := by decide +kernel
theorem dX11_move_114 : decode cX11_move 114 = .ok (.lcmp, 1) := by decide +kernel
theorem dX11_move_115 : decode cX11_move 115 = .ok (.ifCond .le 10, 3) := by decide +kernel
theorem dX11_move_118 : decode cX11_move 118 = .ok (.aload_n 0, 1) := by decide +kernel
theorem dX11_move_119 : decode cX11_move 119 = .ok (.ldc 74, 2) := by decide +kernel
theorem dX11_move_121 : decode cX11_move 121 = .ok (.invokevirtual 75, 3) := by decide +kernel
theorem dX11_move_124 : decode cX11_move 124 = .ok (.ireturn, 1) := by decide +kernel
theorem dX11_move_125 : decode cX11_move 125 = .ok (.iconst 0, 1) := by decide +kernel
theorem dX11_move_126 : decode cX11_move 126 = .ok (.istore 6, 2) := by decide +kernel
theorem dX11_move_128 : decode cX11_move 128 = .ok (.iload 6, 2) := by decide +kernel
theorem dX11_move_130 : decode cX11_move 130 = .ok (.iload 5, 2) := by decide +kernel
theorem dX11_move_132 : decode cX11_move 132 = .ok (.if_icmp .ge 30, 3) := by decide +kernel
theorem dX11_move_135 : decode cX11_move 135 = .ok (.aload_n 0, 1) := by decide +kernel
theorem dX11_move_136 : decode cX11_move 136 = .ok (.getfield 53, 3) := by decide +kernel
theorem dX11_move_139 : decode cX11_move 139 = .ok (.iload 6, 2) := by decide +kernel
theorem dX11_move_141 : decode cX11_move 141 = .ok (.aload_n 0, 1) := by decide +kernel
theorem dX11_move_142 : decode cX11_move 142 = .ok (.getfield 50, 3) := by decide +kernel
theorem dX11_move_145 : decode cX11_move 145 = .ok (.bipush 40, 2) := by decide +kernel
theorem dX11_move_147 : decode cX11_move 147 = .ok (.iload_n 1, 1) := by decide +kernel
theorem dX11_move_148 : decode cX11_move 148 = .ok (.imul, 1) := by decide +kernel
theorem dX11_move_149 : decode cX11_move 149 = .ok (.iload_n 2, 1) := by decide +kernel
theorem dX11_move_150 : decode cX11_move 150 = .ok (.iadd, 1) := by decide +kernel
theorem dX11_move_151 : decode cX11_move 151 = .ok (.iload 6, 2) := by decide +kernel
theorem dX11_move_153 : decode cX11_move 153 = .ok (.iadd, 1) := by decide +kernel
theorem dX11_move_154 : decode cX11_move 154 = .ok (.iaload, 1) := by decide +kernel
theorem dX11_move_155 : decode cX11_move 155 = .ok (.iastore, 1) := by decide +kernel
theorem dX11_move_156 : decode cX11_move 156 = .ok (.iinc 6 1, 3) := by decide +kernel
theorem dX11_move_159 : decode cX11_move 159 = .ok (.goto (-31), 3) := by decide +kernel
theorem dX11_move_162 : decode cX11_move 162 = .ok (.iconst 0, 1) := by decide +kernel
theorem dX11_move_163 : decode cX11_move 163 = .ok (.istore 6, 2) := by decide +kernel
theorem dX11_move_165 : decode cX11_move 165 = .ok (.iload 6, 2) := by decide +kernel
theorem dX11_move_167 : decode cX11_move 167 = .ok (.iload 5, 2) := by decide +kernel
theorem dX11_move_169 : decode cX11_move 169 = .ok (.if_icmp .ge 31, 3) := by decide +kernel
theorem dX11_move_172 : decode cX11_move 172 = .ok (.aload_n 0, 1) := by decide +kernel
theorem dX11_move_173 : decode cX11_move 173 = .ok (.getfield 50, 3) := by decide +kernel
theorem dX11_move_176 : decode cX11_move 176 = .ok (.bipush 40, 2) := by decide +kernel
theorem dX11_move_178 : decode cX11_move 178 = .ok (.iload_n 3, 1) := by decide +kernel
theorem dX11_move_179 : decode cX11_move 179 = .ok (.imul, 1) := by decide +kernel
theorem dX11_move_180 : decode cX11_move 180 = .ok (.iload 4, 2) := by decide +kernel
theorem dX11_move_182 : decode cX11_move 182 = .ok (.iadd, 1) := by decide +kernel
theorem dX11_move_183 : decode cX11_move 183 = .ok (.iload 6, 2) := by decide +kernel
theorem dX11_move_185 : decode cX11_move 185 = .ok (.iadd, 1) := by decide +kernel
theorem dX11_move_186 : decode cX11_move 186 = .ok (.aload_n 0, 1) := by decide +kernel
theorem dX11_move_187 : decode cX11_move 187 = .ok (.getfield 53, 3) := by decide +kernel
theorem dX11_move_190 : decode cX11_move 190 = .ok (.iload 6, 2) := by decide +kernel
theorem dX11_move_192 : decode cX11_move 192 = .ok (.iaload, 1) := by decide +kernel
theorem dX11_move_193 : decode cX11_move 193 = .ok (.iastore, 1) := by decide +kernel
theorem dX11_move_194 : decode cX11_move 194 = .ok (.iinc 6 1, 3) := by decide +kernel
theorem dX11_move_197 : decode cX11_move 197 = .ok (.goto (-32), 3) := by decide +kernel
theorem dX11_move_200 : decode cX11_move 200 = .ok (.iload 5, 2) := by decide +kernel
theorem dX11_move_202 : decode cX11_move 202 = .ok (.ireturn, 1) := by decide +kernel
theorem dX11_palates_0 : decode cX11_palates 0 = .ok (.iload_n 1, 1) := by decide +kernel
theorem dX11_palates_1 : decode cX11_palates 1 = .ok (.invokestatic 276, 3) := by decide +kernel
theorem dX11_palates_4 : decode cX11_palates 4 = .ok (.ifCond .ne 10, 3) := by decide +kernel
theorem dX11_palates_7 : decode cX11_palates 7 = .ok (.aload_n 0, 1) := by decide +kernel
theorem dX11_palates_8 : decode cX11_palates 8 = .ok (.ldc 74, 2) := by decide +kernel
theorem dX11_palates_10 : decode cX11_palates 10 = .ok (.invokevirtual 75, 3) := by decide +kernel
theorem dX11_palates_13 : decode cX11_palates 13 = .ok (.ireturn, 1) := by decide +kernel
theorem dX11_palates_14 : decode cX11_palates 14 = .ok (.aload_n 0, 1) := by decide +kernel
theorem dX11_palates_15 : decode cX11_palates 15 = .ok (.getfield 44, 3) := by decide +kernel
theorem dX11_palates_18 : decode cX11_palates 18 = .ok (.iload_n 1, 1) := by decide +kernel
theorem dX11_palates_19 : decode cX11_palates 19 = .ok (.iaload, 1) := by decide +kernel
theorem dX11_palates_20 : decode cX11_palates 20 = .ok (.ifCond .ne 11, 3) := by decide +kernel
theorem dX11_palates_23 : decode cX11_palates 23 = .ok (.aload_n 0, 1) := by decide +kernel
theorem dX11_palates_24 : decode cX11_palates 24 = .ok (.ldc_w 259, 3) := by decide +kernel
theorem dX11_palates_27 : decode cX11_palates 27 = .ok (.invokevirtual 75, 3) := by decide +kernel
theorem dX11_palates_30 : decode cX11_palates 30 = .ok (.ireturn, 1) := by decide +kernel
theorem dX11_palates_31 : decode cX11_palates 31 = .ok (.iconst 0, 1) := by decide +kernel
theorem dX11_palates_32 : decode cX11_palates 32 = .ok (.istore_n 2, 1) := by decide +kernel
theorem dX11_palates_33 : decode cX11_palates 33 = .ok (.iload_n 2, 1) := by decide +kernel
theorem dX11_palates_34 : decode cX11_palates 34 = .ok (.aload_n 0, 1) := by decide +kernel
theorem dX11_palates_35 : decode cX11_palates 35 = .ok (.getfield 47, 3) := by decide +kernel
theorem dX11_palates_38 : decode cX11_palates 38 = .ok (.iload_n 1, 1) := by decide +kernel
theorem dX11_palates_39 : decode cX11_palates 39 = .ok (.iaload, 1) := by decide +kernel
theorem dX11_palates_40 : decode cX11_palates 40 = .ok (.if_icmp .ge 55, 3) := by decide +kernel
theorem dX11_palates_43 : decode cX11_palates 43 = .ok (.aload_n 0, 1) := by decide +kernel
theorem dX11_palates_44 : decode cX11_palates 44 = .ok (.iload_n 2, 1) := by decide +kernel
theorem dX11_palates_45 : decode cX11_palates 45 = .ok (.invokevirtual 228, 3) := by decide +kernel
theorem dX11_palates_48 : decode cX11_palates 48 = .ok (.ifCond .eq 47, 3) := by decide +kernel
theorem dX11_palates_51 : decode cX11_palates 51 = .ok (.aload_n 0, 1) := by decide +kernel
theorem dX11_palates_52 : decode cX11_palates 52 = .ok (.getfield 50, 3) := by decide +kernel
theorem dX11_palates_55 : decode cX11_palates 55 = .ok (.bipush 40, 2) := by decide +kernel
theorem dX11_palates_57 : decode cX11_palates 57 = .ok (.iload_n 1, 1) := by decide +kernel
theorem dX11_palates_58 : decode cX11_palates 58 = .ok (.imul, 1) := by decide +kernel
theorem dX11_palates_59 : decode cX11_palates 59 = .ok (.iload_n 2, 1) := by decide +kernel
theorem dX11_palates_60 : decode cX11_palates 60 = .ok (.iadd, 1) := by decide +kernel
theorem dX11_palates_61 : decode cX11_palates 61 = .ok (.iaload, 1) := by decide +kernel
theorem dX11_palates_62 : decode cX11_palates 62 = .ok (.invokestatic 184, 3) := by decide +kernel
theorem dX11_palates_65 : decode cX11_palates 65 = .ok (.ifCond .eq 30, 3) := by decide +kernel
theorem dX11_palates_68 : decode cX11_palates 68 = .ok (.aload_n 0, 1) := by decide +kernel
theorem dX11_palates_69 : decode cX11_palates 69 = .ok (.getfield 9, 3) := by decide +kernel
theorem dX11_palates_72 : decode cX11_palates 72 = .ok (.iload_n 2, 1) := by decide +kernel
theorem dX11_palates_73 : decode cX11_palates 73 = .ok (.iconst 1, 1) := by decide +kernel
theorem dX11_palates_74 : decode cX11_palates 74 = .ok (.invokestatic 162, 3) := by decide +kernel
theorem dX11_palates_77 : decode cX11_palates 77 = .ok (.aload_n 0, 1) := by decide +kernel
theorem dX11_palates_78 : decode cX11_palates 78 = .ok (.getfield 50, 3) := by decide +kernel
theorem dX11_palates_81 : decode cX11_palates 81 = .ok (.bipush 40, 2) := by decide +kernel
theorem dX11_palates_83 : decode cX11_palates 83 = .ok (.iload_n 1, 1) := by decide +kernel
theorem dX11_palates_84 : decode cX11_palates 84 = .ok (.imul, 1) := by decide +kernel
theorem dX11_palates_85 : decode cX11_palates 85 = .ok (.iload_n 2, 1) := by decide +kernel
theorem dX11_palates_86 : decode cX11_palates 86 = .ok (.iadd, 1) := by decide +kernel
theorem dX11_palates_87 : decode cX11_palates 87 = .ok (.iaload, 1) := by decide +kernel
theorem dX11_palates_88 : decode cX11_palates 88 = .ok (.iastore, 1) := by decide +kernel
theorem dX11_palates_89 : decode cX11_palates 89 = .ok (.iinc 2 1, 3) := by decide +kernel
theorem dX11_palates_92 : decode cX11_palates 92 = .ok (.goto (-59), 3) := by decide +kernel
theorem dX11_palates_95 : decode cX11_palates 95 = .ok (.iload_n 2, 1) := by decide +kernel
theorem dX11_palates_96 : decode cX11_palates 96 = .ok (.ireturn, 1) := by decide +kernel
theorem dX11_judge_0 : decode cX11_judge 0 = .ok (.iload_n 1, 1) := by decide +kernel
theorem dX11_judge_1 : decode cX11_judge 1 = .ok (.invokestatic 276, 3) := by decide +kernel
theorem dX11_judge_4 : decode cX11_judge 4 = .ok (.ifCond .ne 10, 3) := by decide +kernel
theorem dX11_judge_7 : decode cX11_judge 7 = .ok (.aload_n 0, 1) := by decide +kernel
theorem dX11_judge_8 : decode cX11_judge 8 = .ok (.ldc 74, 2) := by decide +kernel
theorem dX11_judge_10 : decode cX11_judge 10 = .ok (.invokevirtual 75, 3) := by decide +kernel
theorem dX11_judge_13 : decode cX11_judge 13 = .ok (.ireturn, 1) := by decide +kernel
theorem dX11_judge_14 : decode cX11_judge 14 = .ok (.aload_n 0, 1) := by decide +kernel
theorem dX11_judge_15 : decode cX11_judge 15 = .ok (.getfield 44, 3) := by decide +kernel
theorem dX11_judge_18 : decode cX11_judge 18 = .ok (.iload_n 1, 1) := by decide +kernel
theorem dX11_judge_19 : decode cX11_judge 19 = .ok (.iaload, 1) := by decide +kernel
theorem dX11_judge_20 : decode cX11_judge 20 = .ok (.ifCond .ne 11, 3) := by decide +kernel
theorem dX11_judge_23 : decode cX11_judge 23 = .ok (.aload_n 0, 1) := by decide +kernel
theorem dX11_judge_24 : decode cX11_judge 24 = .ok (.ldc_w 259, 3) := by decide +kernel
theorem dX11_judge_27 : decode cX11_judge 27 = .ok (.invokevirtual 75, 3) := by decide +kernel
theorem dX11_judge_30 : decode cX11_judge 30 = .ok (.ireturn, 1) := by decide +kernel
theorem dX11_judge_31 : decode cX11_judge 31 = .ok (.iconst 0, 1) := by decide +kernel
theorem dX11_judge_32 : decode cX11_judge 32 = .ok (.istore_n 2, 1) := by decide +kernel
theorem dX11_judge_33 : decode cX11_judge 33 = .ok (.iload_n 2, 1) := by decide +kernel
theorem dX11_judge_34 : decode cX11_judge 34 = .ok (.aload_n 0, 1) := by decide +kernel
theorem dX11_judge_35 : decode cX11_judge 35 = .ok (.getfield 47, 3) := by decide +kernel
theorem dX11_judge_38 : decode cX11_judge 38 = .ok (.iload_n 1, 1) := by decide +kernel
theorem dX11_judge_39 : decode cX11_judge 39 = .ok (.iaload, 1) := by decide +kernel
theorem dX11_judge_40 : decode cX11_judge 40 = .ok (.if_icmp .ge 37, 3) := by decide +kernel
theorem dX11_judge_43 : decode cX11_judge 43 = .ok (.aload_n 0, 1) := by decide +kernel
theorem dX11_judge_44 : decode cX11_judge 44 = .ok (.iload_n 2, 1) := by decide +kernel
theorem dX11_judge_45 : decode cX11_judge 45 = .ok (.invokevirtual 215, 3) := by decide +kernel
theorem dX11_judge_48 : decode cX11_judge 48 = .ok (.ifCond .eq 29, 3) := by decide +kernel
theorem dX11_judge_51 : decode cX11_judge 51 = .ok (.aload_n 0, 1) := by decide +kernel
theorem dX11_judge_52 : decode cX11_judge 52 = .ok (.getfield 50, 3) := by decide +kernel
theorem dX11_judge_55 : decode cX11_judge 55 = .ok (.bipush 40, 2) := by decide +kernel
theorem dX11_judge_57 : decode cX11_judge 57 = .ok (.iload_n 1, 1) := by decide +kernel
theorem dX11_judge_58 : decode cX11_judge 58 = .ok (.imul, 1) := by decide +kernel
end
section
theorem dX11_judge_59 : decode cX11_judge 59 = .ok (.iload_n 2, 1) := by decide +kernel
theorem dX11_judge_60 : decode cX11_judge 60 = .ok (.iadd, 1) := by decide +kernel
theorem dX11_judge_61 : decode cX11_judge 61 = .ok (.iaload, 1) := by decide +kernel
theorem dX11_judge_62 : decode cX11_judge 62 = .ok (.aload_n 0, 1) := by decide +kernel
theorem dX11_judge_63 : decode cX11_judge 63 = .ok (.iload_n 2, 1) := by decide +kernel
theorem dX11_judge_64 : decode cX11_judge 64 = .ok (.iconst 3, 1) := by decide +kernel
theorem dX11_judge_65 : decode cX11_judge 65 = .ok (.invokevirtual 193, 3) := by decide +kernel
theorem dX11_judge_68 : decode cX11_judge 68 = .ok (.if_icmp .ne 9, 3) := by decide +kernel
theorem dX11_judge_71 : decode cX11_judge 71 = .ok (.iinc 2 1, 3) := by decide +kernel
theorem dX11_judge_74 : decode cX11_judge 74 = .ok (.goto (-41), 3) := by decide +kernel
theorem dX11_judge_77 : decode cX11_judge 77 = .ok (.iload_n 2, 1) := by decide +kernel
theorem dX11_judge_78 : decode cX11_judge 78 = .ok (.aload_n 0, 1) := by decide +kernel
theorem dX11_judge_79 : decode cX11_judge 79 = .ok (.getfield 47, 3) := by decide +kernel
theorem dX11_judge_82 : decode cX11_judge 82 = .ok (.iload_n 1, 1) := by decide +kernel
theorem dX11_judge_83 : decode cX11_judge 83 = .ok (.iaload, 1) := by decide +kernel
theorem dX11_judge_84 : decode cX11_judge 84 = .ok (.if_icmp .ne 17, 3) := by decide +kernel
theorem dX11_judge_87 : decode cX11_judge 87 = .ok (.iload_n 2, 1) := by decide +kernel
theorem dX11_judge_88 : decode cX11_judge 88 = .ok (.aload_n 0, 1) := by decide +kernel
theorem dX11_judge_89 : decode cX11_judge 89 = .ok (.getfield 9, 3) := by decide +kernel
theorem dX11_judge_92 : decode cX11_judge 92 = .ok (.iconst 3, 1) := by decide +kernel
theorem dX11_judge_93 : decode cX11_judge 93 = .ok (.iaload, 1) := by decide +kernel
theorem dX11_judge_94 : decode cX11_judge 94 = .ok (.if_icmp .ne 7, 3) := by decide +kernel
theorem dX11_judge_97 : decode cX11_judge 97 = .ok (.iconst (-1), 1) := by decide +kernel
theorem dX11_judge_98 : decode cX11_judge 98 = .ok (.goto 4, 3) := by decide +kernel
theorem dX11_judge_101 : decode cX11_judge 101 = .ok (.iload_n 2, 1) := by decide +kernel
theorem dX11_judge_102 : decode cX11_judge 102 = .ok (.ireturn, 1) := by decide +kernel
theorem dX11_image_0 : decode cX11_image 0 = .ok (.aload_n 0, 1) := by decide +kernel
theorem dX11_image_1 : decode cX11_image 1 = .ok (.getfield 9, 3) := by decide +kernel
theorem dX11_image_4 : decode cX11_image 4 = .ok (.aload_n 0, 1) := by decide +kernel
theorem dX11_image_5 : decode cX11_image 5 = .ok (.getfield 13, 3) := by decide +kernel
theorem dX11_image_8 : decode cX11_image 8 = .ok (.invokestatic 66, 3) := by decide +kernel
theorem dX11_image_11 : decode cX11_image 11 = .ok (.aload_n 0, 1) := by decide +kernel
theorem dX11_image_12 : decode cX11_image 12 = .ok (.dup, 1) := by decide +kernel
theorem dX11_image_13 : decode cX11_image 13 = .ok (.getfield 318, 3) := by decide +kernel
theorem dX11_image_16 : decode cX11_image 16 = .ok (.iconst 1, 1) := by decide +kernel
theorem dX11_image_17 : decode cX11_image 17 = .ok (.iadd, 1) := by decide +kernel
theorem dX11_image_18 : decode cX11_image 18 = .ok (.putfield 318, 3) := by decide +kernel
theorem dX11_image_21 : decode cX11_image 21 = .ok (.aload_n 0, 1) := by decide +kernel
theorem dX11_image_22 : decode cX11_image 22 = .ok (.getfield 318, 3) := by decide +kernel
theorem dX11_image_25 : decode cX11_image 25 = .ok (.ireturn, 1) := by decide +kernel
theorem dX11_restore_0 : decode cX11_restore 0 = .ok (.aload_n 0, 1) := by decide +kernel
theorem dX11_restore_1 : decode cX11_restore 1 = .ok (.getfield 318, 3) := by decide +kernel
theorem dX11_restore_4 : decode cX11_restore 4 = .ok (.ifCond .ne 11, 3) := by decide +kernel
theorem dX11_restore_7 : decode cX11_restore 7 = .ok (.aload_n 0, 1) := by decide +kernel
theorem dX11_restore_8 : decode cX11_restore 8 = .ok (.ldc_w 259, 3) := by decide +kernel
theorem dX11_restore_11 : decode cX11_restore 11 = .ok (.invokevirtual 75, 3) := by decide +kernel
theorem dX11_restore_14 : decode cX11_restore 14 = .ok (.ireturn, 1) := by decide +kernel
theorem dX11_restore_15 : decode cX11_restore 15 = .ok (.aload_n 0, 1) := by decide +kernel
theorem dX11_restore_16 : decode cX11_restore 16 = .ok (.getfield 13, 3) := by decide +kernel
theorem dX11_restore_19 : decode cX11_restore 19 = .ok (.aload_n 0, 1) := by decide +kernel
theorem dX11_restore_20 : decode cX11_restore 20 = .ok (.getfield 9, 3) := by decide +kernel
theorem dX11_restore_23 : decode cX11_restore 23 = .ok (.invokestatic 66, 3) := by decide +kernel
theorem dX11_restore_26 : decode cX11_restore 26 = .ok (.aload_n 0, 1) := by decide +kernel
theorem dX11_restore_27 : decode cX11_restore 27 = .ok (.getfield 9, 3) := by decide +kernel
theorem dX11_restore_30 : decode cX11_restore 30 = .ok (.iconst 0, 1) := by decide +kernel
theorem dX11_restore_31 : decode cX11_restore 31 = .ok (.iaload, 1) := by decide +kernel
theorem dX11_restore_32 : decode cX11_restore 32 = .ok (.ireturn, 1) := by decide +kernel
theorem dX11_tell_0 : decode cX11_tell 0 = .ok (.aload_n 0, 1) := by decide +kernel
theorem dX11_tell_1 : decode cX11_tell 1 = .ok (.getfield 9, 3) := by decide +kernel
theorem dX11_tell_4 : decode cX11_tell 4 = .ok (.bipush 8, 2) := by decide +kernel
theorem dX11_tell_6 : decode cX11_tell 6 = .ok (.iaload, 1) := by decide +kernel
theorem dX11_tell_7 : decode cX11_tell 7 = .ok (.bipush 20, 2) := by decide +kernel
theorem dX11_tell_9 : decode cX11_tell 9 = .ok (.if_icmp .ne 10, 3) := by decide +kernel
theorem dX11_tell_12 : decode cX11_tell 12 = .ok (.aload_n 0, 1) := by decide +kernel
theorem dX11_tell_13 : decode cX11_tell 13 = .ok (.ldc 79, 2) := by decide +kernel
theorem dX11_tell_15 : decode cX11_tell 15 = .ok (.invokevirtual 75, 3) := by decide +kernel
theorem dX11_tell_18 : decode cX11_tell 18 = .ok (.ireturn, 1) := by decide +kernel
theorem dX11_tell_19 : decode cX11_tell 19 = .ok (.aload_n 0, 1) := by decide +kernel
theorem dX11_tell_20 : decode cX11_tell 20 = .ok (.getfield 9, 3) := by decide +kernel
theorem dX11_tell_23 : decode cX11_tell 23 = .ok (.sipush 149, 3) := by decide +kernel
theorem dX11_tell_26 : decode cX11_tell 26 = .ok (.aload_n 0, 1) := by decide +kernel
theorem dX11_tell_27 : decode cX11_tell 27 = .ok (.getfield 9, 3) := by decide +kernel
theorem dX11_tell_30 : decode cX11_tell 30 = .ok (.bipush 8, 2) := by decide +kernel
theorem dX11_tell_32 : decode cX11_tell 32 = .ok (.iaload, 1) := by decide +kernel
theorem dX11_tell_33 : decode cX11_tell 33 = .ok (.iadd, 1) := by decide +kernel
theorem dX11_tell_34 : decode cX11_tell 34 = .ok (.iload_n 1, 1) := by decide +kernel
theorem dX11_tell_35 : decode cX11_tell 35 = .ok (.iastore, 1) := by decide +kernel
theorem dX11_tell_36 : decode cX11_tell 36 = .ok (.aload_n 0, 1) := by decide +kernel
theorem dX11_tell_37 : decode cX11_tell 37 = .ok (.getfield 9, 3) := by decide +kernel
theorem dX11_tell_40 : decode cX11_tell 40 = .ok (.bipush 8, 2) := by decide +kernel
theorem dX11_tell_42 : decode cX11_tell 42 = .ok (.dup2, 1) := by decide +kernel
theorem dX11_tell_43 : decode cX11_tell 43 = .ok (.iaload, 1) := by decide +kernel
theorem dX11_tell_44 : decode cX11_tell 44 = .ok (.iconst 1, 1) := by decide +kernel
theorem dX11_tell_45 : decode cX11_tell 45 = .ok (.iadd, 1) := by decide +kernel
theorem dX11_tell_46 : decode cX11_tell 46 = .ok (.iastore, 1) := by decide +kernel
theorem dX11_tell_47 : decode cX11_tell 47 = .ok (.aload_n 0, 1) := by decide +kernel
theorem dX11_tell_48 : decode cX11_tell 48 = .ok (.getfield 9, 3) := by decide +kernel
theorem dX11_tell_51 : decode cX11_tell 51 = .ok (.bipush 8, 2) := by decide +kernel
theorem dX11_tell_53 : decode cX11_tell 53 = .ok (.iaload, 1) := by decide +kernel
theorem dX11_tell_54 : decode cX11_tell 54 = .ok (.ireturn, 1) := by decide +kernel
theorem dX11_strengths_0 : decode cX11_strengths 0 = .ok (.iconst 0, 1) := by decide +kernel
theorem dX11_strengths_1 : decode cX11_strengths 1 = .ok (.istore_n 1, 1) := by decide +kernel
theorem dX11_strengths_2 : decode cX11_strengths 2 = .ok (.iconst 0, 1) := by decide +kernel
theorem dX11_strengths_3 : decode cX11_strengths 3 = .ok (.istore_n 2, 1) := by decide +kernel
theorem dX11_strengths_4 : decode cX11_strengths 4 = .ok (.iload_n 2, 1) := by decide +kernel
theorem dX11_strengths_5 : decode cX11_strengths 5 = .ok (.aload_n 0, 1) := by decide +kernel
theorem dX11_strengths_6 : decode cX11_strengths 6 = .ok (.getfield 9, 3) := by decide +kernel
theorem dX11_strengths_9 : decode cX11_strengths 9 = .ok (.iconst 3, 1) := by decide +kernel
theorem dX11_strengths_10 : decode cX11_strengths 10 = .ok (.iaload, 1) := by decide +kernel
theorem dX11_strengths_11 : decode cX11_strengths 11 = .ok (.if_icmp .ge 18, 3) := by decide +kernel
theorem dX11_strengths_14 : decode cX11_strengths 14 = .ok (.iload_n 1, 1) := by decide +kernel
theorem dX11_strengths_15 : decode cX11_strengths 15 = .ok (.aload_n 0, 1) := by decide +kernel
theorem dX11_strengths_16 : decode cX11_strengths 16 = .ok (.iload_n 2, 1) := by decide +kernel
theorem dX11_strengths_17 : decode cX11_strengths 17 = .ok (.iconst 3, 1) := by decide +kernel
theorem dX11_strengths_18 : decode cX11_strengths 18 = .ok (.invokevirtual 193, 3) := by decide +kernel
theorem dX11_strengths_21 : decode cX11_strengths 21 = .ok (.iadd, 1) := by decide +kernel
theorem dX11_strengths_22 : decode cX11_strengths 22 = .ok (.istore_n 1, 1) := by decide +kernel
theorem dX11_strengths_23 : decode cX11_strengths 23 = .ok (.iinc 2 1, 3) := by decide +kernel
theorem dX11_strengths_26 : decode cX11_strengths 26 = .ok (.goto (-22), 3) := by decide +kernel
theorem dX11_strengths_29 : decode cX11_strengths 29 = .ok (.iload_n 1, 1) := by decide +kernel
theorem dX11_strengths_30 : decode cX11_strengths 30 = .ok (.ireturn, 1) := by decide +kernel
theorem dX11_check_0 : decode cX11_check 0 = .ok (.aload_n 0, 1) := by decide +kernel
theorem dX11_check_1 : decode cX11_check 1 = .ok (.getfield 9, 3) := by decide +kernel
theorem dX11_check_4 : decode cX11_check 4 = .ok (.bipush 8, 2) := by decide +kernel
theorem dX11_check_6 : decode cX11_check 6 = .ok (.iaload, 1) := by decide +kernel
theorem dX11_check_7 : decode cX11_check 7 = .ok (.istore_n 1, 1) := by decide +kernel
theorem dX11_check_8 : decode cX11_check 8 = .ok (.aload_n 0, 1) := by decide +kernel
theorem dX11_check_9 : decode cX11_check 9 = .ok (.getfield 9, 3) := by decide +kernel
theorem dX11_check_12 : decode cX11_check 12 = .ok (.bipush 8, 2) := by decide +kernel
theorem dX11_check_14 : decode cX11_check 14 = .ok (.iconst 0, 1) := by decide +kernel
theorem dX11_check_15 : decode cX11_check 15 = .ok (.iastore, 1) := by decide +kernel
theorem dX11_check_16 : decode cX11_check 16 = .ok (.aload_n 0, 1) := by decide +kernel
theorem dX11_check_17 : decode cX11_check 17 = .ok (.getfield 9, 3) := by decide +kernel
theorem dX11_check_20 : decode cX11_check 20 = .ok (.aload_n 0, 1) := by decide +kernel
theorem dX11_check_21 : decode cX11_check 21 = .ok (.getfield 16, 3) := by decide +kernel
theorem dX11_check_24 : decode cX11_check 24 = .ok (.invokestatic 66, 3) := by decide +kernel
theorem dX11_check_27 : decode cX11_check 27 = .ok (.iconst 0, 1) := by decide +kernel
theorem dX11_check_28 : decode cX11_check 28 = .ok (.istore_n 2, 1) := by decide +kernel
theorem dX11_check_29 : decode cX11_check 29 = .ok (.iconst 0, 1) := by decide +kernel
theorem dX11_check_30 : decode cX11_check 30 = .ok (.istore_n 3, 1) := by decide +kernel
theorem dX11_check_31 : decode cX11_check 31 = .ok (.iload_n 3, 1) := by decide +kernel
theorem dX11_check_32 : decode cX11_check 32 = .ok (.iload_n 1, 1) := by decide +kernel
theorem dX11_check_33 : decode cX11_check 33 = .ok (.if_icmp .ge 42, 3) := by decide +kernel
theorem dX11_check_36 : decode cX11_check 36 = .ok (.iload_n 2, 1) := by decide +kernel
theorem dX11_check_37 : decode cX11_check 37 = .ok (.ifCond .ne 38, 3) := by decide +kernel
theorem dX11_check_40 : decode cX11_check 40 = .ok (.aload_n 0, 1) := by decide +kernel
theorem dX11_check_41 : decode cX11_check 41 = .ok (.invokevirtual 237, 3) := by decide +kernel
theorem dX11_check_44 : decode cX11_check 44 = .ok (.aload_n 0, 1) := by decide +kernel
theorem dX11_check_45 : decode cX11_check 45 = .ok (.getfield 9, 3) := by decide +kernel
theorem dX11_check_48 : decode cX11_check 48 = .ok (.sipush 149, 3) := by decide +kernel
theorem dX11_check_51 : decode cX11_check 51 = .ok (.iload_n 3, 1) := by decide +kernel
theorem dX11_check_52 : decode cX11_check 52 = .ok (.iadd, 1) := by decide +kernel
theorem dX11_check_53 : decode cX11_check 53 = .ok (.iaload, 1) := by decide +kernel
theorem dX11_check_54 : decode cX11_check 54 = .ok (.aload_n 0, 1) := by decide +kernel
theorem dX11_check_55 : decode cX11_check 55 = .ok (.invokevirtual 321, 3) := by decide +kernel
theorem dX11_check_58 : decode cX11_check 58 = .ok (.if_icmp .ne 7, 3) := by decide +kernel
theorem dX11_check_61 : decode cX11_check 61 = .ok (.iconst 0, 1) := by decide +kernel
theorem dX11_check_62 : decode cX11_check 62 = .ok (.goto 6, 3) := by decide +kernel
theorem dX11_check_65 : decode cX11_check 65 = .ok (.iconst 1, 1) := by decide +kernel
theorem dX11_check_66 : decode cX11_check 66 = .ok (.iload_n 3, 1) := by decide +kernel
theorem dX11_check_67 : decode cX11_check 67 = .ok (.iadd, 1) := by decide +kernel
theorem dX11_check_68 : decode cX11_check 68 = .ok (.istore_n 2, 1) := by decide +kernel
theorem dX11_check_69 : decode cX11_check 69 = .ok (.iinc 3 1, 3) := by decide +kernel
theorem dX11_check_72 : decode cX11_check 72 = .ok (.goto (-41), 3) := by decide +kernel
theorem dX11_check_75 : decode cX11_check 75 = .ok (.aload_n 0, 1) := by decide +kernel
theorem dX11_check_76 : decode cX11_check 76 = .ok (.iload_n 2, 1) := by decide +kernel
theorem dX11_check_77 : decode cX11_check 77 = .ok (.invokevirtual 253, 3) := by decide +kernel
theorem dX11_check_80 : decode cX11_check 80 = .ok (.ireturn, 1) := by decide +kernel
theorem dX11_stopped_0 : decode cX11_stopped 0 = .ok (.iconst 0, 1) := by decide +kernel
theorem dX11_stopped_1 : decode cX11_stopped 1 = .ok (.istore_n 1, 1) := by decide +kernel
theorem dX11_stopped_2 : decode cX11_stopped 2 = .ok (.iconst 0, 1) := by decide +kernel
theorem dX11_stopped_3 : decode cX11_stopped 3 = .ok (.istore_n 2, 1) := by decide +kernel
theorem dX11_stopped_4 : decode cX11_stopped 4 = .ok (.iload_n 2, 1) := by decide +kernel
theorem dX11_stopped_5 : decode cX11_stopped 5 = .ok (.aload_n 0, 1) := by decide +kernel
theorem dX11_stopped_6 : decode cX11_stopped 6 = .ok (.getfield 9, 3) := by decide +kernel
theorem dX11_stopped_9 : decode cX11_stopped 9 = .ok (.iconst 2, 1) := by decide +kernel
theorem dX11_stopped_10 : decode cX11_stopped 10 = .ok (.iaload, 1) := by decide +kernel
theorem dX11_stopped_11 : decode cX11_stopped 11 = .ok (.if_icmp .ge 20, 3) := by decide +kernel
theorem dX11_stopped_14 : decode cX11_stopped 14 = .ok (.iload_n 1, 1) := by decide +kernel
theorem dX11_stopped_15 : decode cX11_stopped 15 = .ok (.aload_n 0, 1) := by decide +kernel
theorem dX11_stopped_16 : decode cX11_stopped 16 = .ok (.iload_n 2, 1) := by decide +kernel
theorem dX11_stopped_17 : decode cX11_stopped 17 = .ok (.iconst 3, 1) := by decide +kernel
theorem dX11_stopped_18 : decode cX11_stopped 18 = .ok (.invokevirtual 178, 3) := by decide +kernel
theorem dX11_stopped_21 : decode cX11_stopped 21 = .ok (.iload_n 2, 1) := by decide +kernel
theorem dX11_stopped_22 : decode cX11_stopped 22 = .ok (.ishl, 1) := by decide +kernel
theorem dX11_stopped_23 : decode cX11_stopped 23 = .ok (.ior, 1) := by decide +kernel
theorem dX11_stopped_24 : decode cX11_stopped 24 = .ok (.istore_n 1, 1) := by decide +kernel
theorem dX11_stopped_25 : decode cX11_stopped 25 = .ok (.iinc 2 1, 3) := by decide +kernel
theorem dX11_stopped_28 : decode cX11_stopped 28 = .ok (.goto (-24), 3) := by decide +kernel
theorem dX11_stopped_31 : decode cX11_stopped 31 = .ok (.iload_n 1, 1) := by decide +kernel
theorem dX11_stopped_32 : decode cX11_stopped 32 = .ok (.ireturn, 1) := by decide +kernel
theorem dX11_count_0 : decode cX11_count 0 = .ok (.iload_n 1, 1) := by decide +kernel
theorem dX11_count_1 : decode cX11_count 1 = .ok (.tableswitch 153 0 12 #[67, 74, 81, 88, 95, 102, 109, 114, 119, 124, 132, 140, 145], 67) := by decide +kernel
theorem dX11_count_68 : decode cX11_count 68 = .ok (.aload_n 0, 1) := by decide +kernel
theorem dX11_count_69 : decode cX11_count 69 = .ok (.getfield 9, 3) := by decide +kernel
theorem dX11_count_72 : decode cX11_count 72 = .ok (.iconst 1, 1) := by decide +kernel
theorem dX11_count_73 : decode cX11_count 73 = .ok (.iaload, 1) := by decide +kernel
theorem dX11_count_74 : decode cX11_count 74 = .ok (.ireturn, 1) := by decide +kernel
theorem dX11_count_75 : decode cX11_count 75 = .ok (.aload_n 0, 1) := by decide +kernel
theorem dX11_count_76 : decode cX11_count 76 = .ok (.getfield 9, 3) := by decide +kernel
theorem dX11_count_79 : decode cX11_count 79 = .ok (.iconst 2, 1) := by decide +kernel
theorem dX11_count_80 : decode cX11_count 80 = .ok (.iaload, 1) := by decide +kernel
theorem dX11_count_81 : decode cX11_count 81 = .ok (.ireturn, 1) := by decide +kernel
theorem dX11_count_82 : decode cX11_count 82 = .ok (.aload_n 0, 1) := by decide +kernel
theorem dX11_count_83 : decode cX11_count 83 = .ok (.getfield 9, 3) := by decide +kernel
theorem dX11_count_86 : decode cX11_count 86 = .ok (.iconst 3, 1) := by decide +kernel
theorem dX11_count_87 : decode cX11_count 87 = .ok (.iaload, 1) := by decide +kernel
theorem dX11_count_88 : decode cX11_count 88 = .ok (.ireturn, 1) := by decide +kernel
theorem dX11_count_89 : decode cX11_count 89 = .ok (.aload_n 0, 1) := by decide +kernel
theorem dX11_count_90 : decode cX11_count 90 = .ok (.getfield 9, 3) := by decide +kernel
theorem dX11_count_93 : decode cX11_count 93 = .ok (.iconst 4, 1) := by decide +kernel
theorem dX11_count_94 : decode cX11_count 94 = .ok (.iaload, 1) := by decide +kernel
theorem dX11_count_95 : decode cX11_count 95 = .ok (.ireturn, 1) := by decide +kernel
theorem dX11_count_96 : decode cX11_count 96 = .ok (.aload_n 0, 1) := by decide +kernel
theorem dX11_count_97 : decode cX11_count 97 = .ok (.getfield 9, 3) := by decide +kernel
theorem dX11_count_100 : decode cX11_count 100 = .ok (.iconst 0, 1) := by decide +kernel
theorem dX11_count_101 : decode cX11_count 101 = .ok (.iaload, 1) := by decide +kernel
theorem dX11_count_102 : decode cX11_count 102 = .ok (.ireturn, 1) := by decide +kernel
theorem dX11_count_103 : decode cX11_count 103 = .ok (.aload_n 0, 1) := by decide +kernel
theorem dX11_count_104 : decode cX11_count 104 = .ok (.getfield 9, 3) := by decide +kernel
theorem dX11_count_107 : decode cX11_count 107 = .ok (.iconst 5, 1) := by decide +kernel
theorem dX11_count_108 : decode cX11_count 108 = .ok (.iaload, 1) := by decide +kernel
theorem dX11_count_109 : decode cX11_count 109 = .ok (.ireturn, 1) := by decide +kernel
theorem dX11_count_110 : decode cX11_count 110 = .ok (.aload_n 0, 1) := by decide +kernel
theorem dX11_count_111 : decode cX11_count 111 = .ok (.invokevirtual 324, 3) := by decide +kernel
theorem dX11_count_114 : decode cX11_count 114 = .ok (.ireturn, 1) := by decide +kernel
theorem dX11_count_115 : decode cX11_count 115 = .ok (.aload_n 0, 1) := by decide +kernel
theorem dX11_count_116 : decode cX11_count 116 = .ok (.invokevirtual 321, 3) := by decide +kernel
theorem dX11_count_119 : decode cX11_count 119 = .ok (.ireturn, 1) := by decide +kernel
theorem dX11_count_120 : decode cX11_count 120 = .ok (.aload_n 0, 1) := by decide +kernel
theorem dX11_count_121 : decode cX11_count 121 = .ok (.invokevirtual 243, 3) := by decide +kernel
theorem dX11_count_124 : decode cX11_count 124 = .ok (.ireturn, 1) := by decide +kernel
theorem dX11_count_125 : decode cX11_count 125 = .ok (.aload_n 0, 1) := by decide +kernel
theorem dX11_count_126 : decode cX11_count 126 = .ok (.getfield 9, 3) := by decide +kernel
theorem dX11_count_129 : decode cX11_count 129 = .ok (.bipush 7, 2) := by decide +kernel
theorem dX11_count_131 : decode cX11_count 131 = .ok (.iaload, 1) := by decide +kernel
theorem dX11_count_132 : decode cX11_count 132 = .ok (.ireturn, 1) := by decide +kernel
theorem dX11_count_133 : decode cX11_count 133 = .ok (.aload_n 0, 1) := by decide +kernel
theorem dX11_count_134 : decode cX11_count 134 = .ok (.getfield 9, 3) := by decide +kernel
theorem dX11_count_137 : decode cX11_count 137 = .ok (.bipush 8, 2) := by decide +kernel
theorem dX11_count_139 : decode cX11_count 139 = .ok (.iaload, 1) := by decide +kernel
theorem dX11_count_140 : decode cX11_count 140 = .ok (.ireturn, 1) := by decide +kernel
theorem dX11_count_141 : decode cX11_count 141 = .ok (.aload_n 0, 1) := by decide +kernel
theorem dX11_count_142 : decode cX11_count 142 = .ok (.getfield 288, 3) := by decide +kernel
theorem dX11_count_145 : decode cX11_count 145 = .ok (.ireturn, 1) := by decide +kernel
theorem dX11_count_146 : decode cX11_count 146 = .ok (.aload_n 0, 1) := by decide +kernel
theorem dX11_count_147 : decode cX11_count 147 = .ok (.getfield 9, 3) := by decide +kernel
theorem dX11_count_150 : decode cX11_count 150 = .ok (.bipush 6, 2) := by decide +kernel
theorem dX11_count_152 : decode cX11_count 152 = .ok (.iaload, 1) := by decide +kernel
theorem dX11_count_153 : decode cX11_count 153 = .ok (.ireturn, 1) := by decide +kernel
theorem dX11_count_154 : decode cX11_count 154 = .ok (.aload_n 0, 1) := by decide +kernel
theorem dX11_count_155 : decode cX11_count 155 = .ok (.ldc 74, 2) := by decide +kernel
theorem dX11_count_157 : decode cX11_count 157 = .ok (.invokevirtual 75, 3) := by decide +kernel
theorem dX11_count_160 : decode cX11_count 160 = .ok (.ireturn, 1) := by decide +kernel
theorem dX11_told_0 : decode cX11_told 0 = .ok (.iload_n 1, 1) := by decide +kernel
theorem dX11_told_1 : decode cX11_told 1 = .ok (.iconst 1, 1) := by decide +kernel
theorem dX11_told_2 : decode cX11_told 2 = .ok (.iconst 5, 1) := by decide +kernel
theorem dX11_told_3 : decode cX11_told 3 = .ok (.invokestatic 70, 3) := by decide +kernel
theorem dX11_told_6 : decode cX11_told 6 = .ok (.ifCond .eq 12, 3) := by decide +kernel
theorem dX11_told_9 : decode cX11_told 9 = .ok (.aload_n 0, 1) := by decide +kernel
theorem dX11_told_10 : decode cX11_told 10 = .ok (.getfield 19, 3) := by decide +kernel
theorem dX11_told_13 : decode cX11_told 13 = .ok (.iload_n 1, 1) := by decide +kernel
theorem dX11_told_14 : decode cX11_told 14 = .ok (.iaload, 1) := by decide +kernel
theorem dX11_told_15 : decode cX11_told 15 = .ok (.goto 9, 3) := by decide +kernel
theorem dX11_told_18 : decode cX11_told 18 = .ok (.aload_n 0, 1) := by decide +kernel
theorem dX11_told_19 : decode cX11_told 19 = .ok (.ldc 74, 2) := by decide +kernel
theorem dX11_told_21 : decode cX11_told 21 = .ok (.invokevirtual 75, 3) := by decide +kernel
theorem dX11_told_24 : decode cX11_told 24 = .ok (.ireturn, 1) := by decide +kernel
theorem dJ11_isValidCodePoint_9a6ad_0 : decode cJ11_isValidCodePoint_9a6ad 0 = .ok (.iload_n 0, 1) := by decide +kernel
theorem dJ11_isValidCodePoint_9a6ad_1 : decode cJ11_isValidCodePoint_9a6ad 1 = .ok (.bipush 16, 2) := by decide +kernel
theorem dJ11_isValidCodePoint_9a6ad_3 : decode cJ11_isValidCodePoint_9a6ad 3 = .ok (.iushr, 1) := by decide +kernel
theorem dJ11_isValidCodePoint_9a6ad_4 : decode cJ11_isValidCodePoint_9a6ad 4 = .ok (.istore_n 1, 1) := by decide +kernel
theorem dJ11_isValidCodePoint_9a6ad_5 : decode cJ11_isValidCodePoint_9a6ad 5 = .ok (.iload_n 1, 1) := by decide +kernel
theorem dJ11_isValidCodePoint_9a6ad_6 : decode cJ11_isValidCodePoint_9a6ad 6 = .ok (.bipush 17, 2) := by decide +kernel
theorem dJ11_isValidCodePoint_9a6ad_8 : decode cJ11_isValidCodePoint_9a6ad 8 = .ok (.if_icmp .ge 7, 3) := by decide +kernel
theorem dJ11_isValidCodePoint_9a6ad_11 : decode cJ11_isValidCodePoint_9a6ad 11 = .ok (.iconst 1, 1) := by decide +kernel
theorem dJ11_isValidCodePoint_9a6ad_12 : decode cJ11_isValidCodePoint_9a6ad 12 = .ok (.goto 4, 3) := by decide +kernel
theorem dJ11_isValidCodePoint_9a6ad_15 : decode cJ11_isValidCodePoint_9a6ad 15 = .ok (.iconst 0, 1) := by decide +kernel
theorem dJ11_isValidCodePoint_9a6ad_16 : decode cJ11_isValidCodePoint_9a6ad 16 = .ok (.ireturn, 1) := by decide +kernel
theorem dJ11_highSurrogate_5068e_0 : decode cJ11_highSurrogate_5068e 0 = .ok (.iload_n 0, 1) := by decide +kernel
theorem dJ11_highSurrogate_5068e_1 : decode cJ11_highSurrogate_5068e 1 = .ok (.bipush 10, 2) := by decide +kernel
theorem dJ11_highSurrogate_5068e_3 : decode cJ11_highSurrogate_5068e 3 = .ok (.iushr, 1) := by decide +kernel
theorem dJ11_highSurrogate_5068e_4 : decode cJ11_highSurrogate_5068e 4 = .ok (.ldc 110, 2) := by decide +kernel
theorem dJ11_highSurrogate_5068e_6 : decode cJ11_highSurrogate_5068e 6 = .ok (.iadd, 1) := by decide +kernel
theorem dJ11_highSurrogate_5068e_7 : decode cJ11_highSurrogate_5068e 7 = .ok (.i2c, 1) := by decide +kernel
theorem dJ11_highSurrogate_5068e_8 : decode cJ11_highSurrogate_5068e 8 = .ok (.ireturn, 1) := by decide +kernel
theorem dJ11_lowSurrogate_5068e_0 : decode cJ11_lowSurrogate_5068e 0 = .ok (.iload_n 0, 1) := by decide +kernel
theorem dJ11_lowSurrogate_5068e_1 : decode cJ11_lowSurrogate_5068e 1 = .ok (.sipush 1023, 3) := by decide +kernel
theorem dJ11_lowSurrogate_5068e_4 : decode cJ11_lowSurrogate_5068e 4 = .ok (.iand, 1) := by decide +kernel
theorem dJ11_lowSurrogate_5068e_5 : decode cJ11_lowSurrogate_5068e 5 = .ok (.ldc 76, 2) := by decide +kernel
theorem dJ11_lowSurrogate_5068e_7 : decode cJ11_lowSurrogate_5068e 7 = .ok (.iadd, 1) := by decide +kernel
theorem dJ11_lowSurrogate_5068e_8 : decode cJ11_lowSurrogate_5068e 8 = .ok (.i2c, 1) := by decide +kernel
theorem dJ11_lowSurrogate_5068e_9 : decode cJ11_lowSurrogate_5068e 9 = .ok (.ireturn, 1) := by decide +kernel
theorem dJ6_bitCount_0f7a4_0 : decode cJ6_bitCount_0f7a4 0 = .ok (.iload_n 0, 1) := by decide +kernel
theorem dJ6_bitCount_0f7a4_1 : decode cJ6_bitCount_0f7a4 1 = .ok (.iload_n 0, 1) := by decide +kernel
theorem dJ6_bitCount_0f7a4_2 : decode cJ6_bitCount_0f7a4 2 = .ok (.iconst 1, 1) := by decide +kernel
theorem dJ6_bitCount_0f7a4_3 : decode cJ6_bitCount_0f7a4 3 = .ok (.iushr, 1) := by decide +kernel
theorem dJ6_bitCount_0f7a4_4 : decode cJ6_bitCount_0f7a4 4 = .ok (.ldc_w 265, 3) := by decide +kernel
theorem dJ6_bitCount_0f7a4_7 : decode cJ6_bitCount_0f7a4 7 = .ok (.iand, 1) := by decide +kernel
theorem dJ6_bitCount_0f7a4_8 : decode cJ6_bitCount_0f7a4 8 = .ok (.isub, 1) := by decide +kernel
theorem dJ6_bitCount_0f7a4_9 : decode cJ6_bitCount_0f7a4 9 = .ok (.istore_n 0, 1) := by decide +kernel
theorem dJ6_bitCount_0f7a4_10 : decode cJ6_bitCount_0f7a4 10 = .ok (.iload_n 0, 1) := by decide +kernel
theorem dJ6_bitCount_0f7a4_11 : decode cJ6_bitCount_0f7a4 11 = .ok (.ldc_w 266, 3) := by decide +kernel
theorem dJ6_bitCount_0f7a4_14 : decode cJ6_bitCount_0f7a4 14 = .ok (.iand, 1) := by decide +kernel
theorem dJ6_bitCount_0f7a4_15 : decode cJ6_bitCount_0f7a4 15 = .ok (.iload_n 0, 1) := by decide +kernel
theorem dJ6_bitCount_0f7a4_16 : decode cJ6_bitCount_0f7a4 16 = .ok (.iconst 2, 1) := by decide +kernel
theorem dJ6_bitCount_0f7a4_17 : decode cJ6_bitCount_0f7a4 17 = .ok (.iushr, 1) := by decide +kernel
theorem dJ6_bitCount_0f7a4_18 : decode cJ6_bitCount_0f7a4 18 = .ok (.ldc_w 266, 3) := by decide +kernel
theorem dJ6_bitCount_0f7a4_21 : decode cJ6_bitCount_0f7a4 21 = .ok (.iand, 1) := by decide +kernel
theorem dJ6_bitCount_0f7a4_22 : decode cJ6_bitCount_0f7a4 22 = .ok (.iadd, 1) := by decide +kernel
theorem dJ6_bitCount_0f7a4_23 : decode cJ6_bitCount_0f7a4 23 = .ok (.istore_n 0, 1) := by decide +kernel
theorem dJ6_bitCount_0f7a4_24 : decode cJ6_bitCount_0f7a4 24 = .ok (.iload_n 0, 1) := by decide +kernel
theorem dJ6_bitCount_0f7a4_25 : decode cJ6_bitCount_0f7a4 25 = .ok (.iload_n 0, 1) := by decide +kernel
theorem dJ6_bitCount_0f7a4_26 : decode cJ6_bitCount_0f7a4 26 = .ok (.iconst 4, 1) := by decide +kernel
theorem dJ6_bitCount_0f7a4_27 : decode cJ6_bitCount_0f7a4 27 = .ok (.iushr, 1) := by decide +kernel
theorem dJ6_bitCount_0f7a4_28 : decode cJ6_bitCount_0f7a4 28 = .ok (.iadd, 1) := by decide +kernel
theorem dJ6_bitCount_0f7a4_29 : decode cJ6_bitCount_0f7a4 29 = .ok (.ldc_w 267, 3) := by decide +kernel
theorem dJ6_bitCount_0f7a4_32 : decode cJ6_bitCount_0f7a4 32 = .ok (.iand, 1) := by decide +kernel
theorem dJ6_bitCount_0f7a4_33 : decode cJ6_bitCount_0f7a4 33 = .ok (.istore_n 0, 1) := by decide +kernel
theorem dJ6_bitCount_0f7a4_34 : decode cJ6_bitCount_0f7a4 34 = .ok (.iload_n 0, 1) := by decide +kernel
theorem dJ6_bitCount_0f7a4_35 : decode cJ6_bitCount_0f7a4 35 = .ok (.iload_n 0, 1) := by decide +kernel
theorem dJ6_bitCount_0f7a4_36 : decode cJ6_bitCount_0f7a4 36 = .ok (.bipush 8, 2) := by decide +kernel
theorem dJ6_bitCount_0f7a4_38 : decode cJ6_bitCount_0f7a4 38 = .ok (.iushr, 1) := by decide +kernel
theorem dJ6_bitCount_0f7a4_39 : decode cJ6_bitCount_0f7a4 39 = .ok (.iadd, 1) := by decide +kernel
theorem dJ6_bitCount_0f7a4_40 : decode cJ6_bitCount_0f7a4 40 = .ok (.istore_n 0, 1) := by decide +kernel
theorem dJ6_bitCount_0f7a4_41 : decode cJ6_bitCount_0f7a4 41 = .ok (.iload_n 0, 1) := by decide +kernel
theorem dJ6_bitCount_0f7a4_42 : decode cJ6_bitCount_0f7a4 42 = .ok (.iload_n 0, 1) := by decide +kernel
theorem dJ6_bitCount_0f7a4_43 : decode cJ6_bitCount_0f7a4 43 = .ok (.bipush 16, 2) := by decide +kernel
theorem dJ6_bitCount_0f7a4_45 : decode cJ6_bitCount_0f7a4 45 = .ok (.iushr, 1) := by decide +kernel
theorem dJ6_bitCount_0f7a4_46 : decode cJ6_bitCount_0f7a4 46 = .ok (.iadd, 1) := by decide +kernel
theorem dJ6_bitCount_0f7a4_47 : decode cJ6_bitCount_0f7a4 47 = .ok (.istore_n 0, 1) := by decide +kernel
theorem dJ6_bitCount_0f7a4_48 : decode cJ6_bitCount_0f7a4 48 = .ok (.iload_n 0, 1) := by decide +kernel
theorem dJ6_bitCount_0f7a4_49 : decode cJ6_bitCount_0f7a4 49 = .ok (.bipush 63, 2) := by decide +kernel
theorem dJ6_bitCount_0f7a4_51 : decode cJ6_bitCount_0f7a4 51 = .ok (.iand, 1) := by decide +kernel
theorem dJ6_bitCount_0f7a4_52 : decode cJ6_bitCount_0f7a4 52 = .ok (.ireturn, 1) := by decide +kernel
theorem dJ9_max_7cf53_0 : decode cJ9_max_7cf53 0 = .ok (.iload_n 0, 1) := by decide +kernel
theorem dJ9_max_7cf53_1 : decode cJ9_max_7cf53 1 = .ok (.iload_n 1, 1) := by decide +kernel
theorem dJ9_max_7cf53_2 : decode cJ9_max_7cf53 2 = .ok (.if_icmp .lt 7, 3) := by decide +kernel
theorem dJ9_max_7cf53_5 : decode cJ9_max_7cf53 5 = .ok (.iload_n 0, 1) := by decide +kernel
theorem dJ9_max_7cf53_6 : decode cJ9_max_7cf53 6 = .ok (.goto 4, 3) := by decide +kernel
theorem dJ9_max_7cf53_9 : decode cJ9_max_7cf53 9 = .ok (.iload_n 1, 1) := by decide +kernel
theorem dJ9_max_7cf53_10 : decode cJ9_max_7cf53 10 = .ok (.ireturn, 1) := by decide +kernel
theorem dJ9_min_7cf53_0 : decode cJ9_min_7cf53 0 = .ok (.iload_n 0, 1) := by decide +kernel
theorem dJ9_min_7cf53_1 : decode cJ9_min_7cf53 1 = .ok (.iload_n 1, 1) := by decide +kernel
theorem dJ9_min_7cf53_2 : decode cJ9_min_7cf53 2 = .ok (.if_icmp .gt 7, 3) := by decide +kernel
theorem dJ9_min_7cf53_5 : decode cJ9_min_7cf53 5 = .ok (.iload_n 0, 1) := by decide +kernel
theorem dJ9_min_7cf53_6 : decode cJ9_min_7cf53 6 = .ok (.goto 4, 3) := by decide +kernel
theorem dJ9_min_7cf53_9 : decode cJ9_min_7cf53 9 = .ok (.iload_n 1, 1) := by decide +kernel
theorem dJ9_min_7cf53_10 : decode cJ9_min_7cf53 10 = .ok (.ireturn, 1) := by decide +kernel
theorem dJ0_length_8abf5_0 : decode cJ0_length_8abf5 0 = .ok (.aload_n 0, 1) := by decide +kernel
theorem dJ0_length_8abf5_1 : decode cJ0_length_8abf5 1 = .ok (.getfield 9, 3) := by decide +kernel
theorem dJ0_length_8abf5_4 : decode cJ0_length_8abf5 4 = .ok (.arraylength, 1) := by decide +kernel
theorem dJ0_length_8abf5_5 : decode cJ0_length_8abf5 5 = .ok (.aload_n 0, 1) := by decide +kernel
theorem dJ0_length_8abf5_6 : decode cJ0_length_8abf5 6 = .ok (.invokevirtual 335, 3) := by decide +kernel
theorem dJ0_length_8abf5_9 : decode cJ0_length_8abf5 9 = .ok (.ishr, 1) := by decide +kernel
theorem dJ0_length_8abf5_10 : decode cJ0_length_8abf5 10 = .ok (.ireturn, 1) := by decide +kernel
theorem dJ0_charAt_5068e_0 : decode cJ0_charAt_5068e 0 = .ok (.aload_n 0, 1) := by decide +kernel
theorem dJ0_charAt_5068e_1 : decode cJ0_charAt_5068e 1 = .ok (.invokevirtual 492, 3) := by decide +kernel
theorem dJ0_charAt_5068e_4 : decode cJ0_charAt_5068e 4 = .ok (.ifCond .eq 12, 3) := by decide +kernel
theorem dJ0_charAt_5068e_7 : decode cJ0_charAt_5068e 7 = .ok (.aload_n 0, 1) := by decide +kernel
theorem dJ0_charAt_5068e_8 : decode cJ0_charAt_5068e 8 = .ok (.getfield 9, 3) := by decide +kernel
theorem dJ0_charAt_5068e_11 : decode cJ0_charAt_5068e 11 = .ok (.iload_n 1, 1) := by decide +kernel
theorem dJ0_charAt_5068e_12 : decode cJ0_charAt_5068e 12 = .ok (.invokestatic 495, 3) := by decide +kernel
theorem dJ0_charAt_5068e_15 : decode cJ0_charAt_5068e 15 = .ok (.ireturn, 1) := by decide +kernel
theorem dJ0_charAt_5068e_16 : decode cJ0_charAt_5068e 16 = .ok (.aload_n 0, 1) := by decide +kernel
theorem dJ0_charAt_5068e_17 : decode cJ0_charAt_5068e 17 = .ok (.getfield 9, 3) := by decide +kernel
theorem dJ0_charAt_5068e_20 : decode cJ0_charAt_5068e 20 = .ok (.iload_n 1, 1) := by decide +kernel
theorem dJ0_charAt_5068e_21 : decode cJ0_charAt_5068e 21 = .ok (.invokestatic 498, 3) := by decide +kernel
theorem dJ0_charAt_5068e_24 : decode cJ0_charAt_5068e 24 = .ok (.ireturn, 1) := by decide +kernel
theorem dJ0_indexOf_0f7a4_0 : decode cJ0_indexOf_0f7a4 0 = .ok (.aload_n 0, 1) := by decide +kernel
theorem dJ0_indexOf_0f7a4_1 : decode cJ0_indexOf_0f7a4 1 = .ok (.iload_n 1, 1) := by decide +kernel
theorem dJ0_indexOf_0f7a4_2 : decode cJ0_indexOf_0f7a4 2 = .ok (.iconst 0, 1) := by decide +kernel
theorem dJ0_indexOf_0f7a4_3 : decode cJ0_indexOf_0f7a4 3 = .ok (.invokevirtual 633, 3) := by decide +kernel
theorem dJ0_indexOf_0f7a4_6 : decode cJ0_indexOf_0f7a4 6 = .ok (.ireturn, 1) := by decide +kernel
theorem dJ0_indexOf_7cf53_0 : decode cJ0_indexOf_7cf53 0 = .ok (.aload_n 0, 1) := by decide +kernel
theorem dJ0_indexOf_7cf53_1 : decode cJ0_indexOf_7cf53 1 = .ok (.invokevirtual 492, 3) := by decide +kernel
theorem dJ0_indexOf_7cf53_4 : decode cJ0_indexOf_7cf53 4 = .ok (.ifCond .eq 19, 3) := by decide +kernel
theorem dJ0_indexOf_7cf53_7 : decode cJ0_indexOf_7cf53 7 = .ok (.aload_n 0, 1) := by decide +kernel
theorem dJ0_indexOf_7cf53_8 : decode cJ0_indexOf_7cf53 8 = .ok (.getfield 9, 3) := by decide +kernel
theorem dJ0_indexOf_7cf53_11 : decode cJ0_indexOf_7cf53 11 = .ok (.iload_n 1, 1) := by decide +kernel
theorem dJ0_indexOf_7cf53_12 : decode cJ0_indexOf_7cf53 12 = .ok (.iload_n 2, 1) := by decide +kernel
theorem dJ0_indexOf_7cf53_13 : decode cJ0_indexOf_7cf53 13 = .ok (.aload_n 0, 1) := by decide +kernel
theorem dJ0_indexOf_7cf53_14 : decode cJ0_indexOf_7cf53 14 = .ok (.invokevirtual 505, 3) := by decide +kernel
theorem dJ0_indexOf_7cf53_17 : decode cJ0_indexOf_7cf53 17 = .ok (.invokestatic 637, 3) := by decide +kernel
theorem dJ0_indexOf_7cf53_20 : decode cJ0_indexOf_7cf53 20 = .ok (.goto 16, 3) := by decide +kernel
theorem dJ0_indexOf_7cf53_23 : decode cJ0_indexOf_7cf53 23 = .ok (.aload_n 0, 1) := by decide +kernel
theorem dJ0_indexOf_7cf53_24 : decode cJ0_indexOf_7cf53 24 = .ok (.getfield 9, 3) := by decide +kernel
theorem dJ0_indexOf_7cf53_27 : decode cJ0_indexOf_7cf53 27 = .ok (.iload_n 1, 1) := by decide +kernel
theorem dJ0_indexOf_7cf53_28 : decode cJ0_indexOf_7cf53 28 = .ok (.iload_n 2, 1) := by decide +kernel
theorem dJ0_indexOf_7cf53_29 : decode cJ0_indexOf_7cf53 29 = .ok (.aload_n 0, 1) := by decide +kernel
theorem dJ0_indexOf_7cf53_30 : decode cJ0_indexOf_7cf53 30 = .ok (.invokevirtual 505, 3) := by decide +kernel
theorem dJ0_indexOf_7cf53_33 : decode cJ0_indexOf_7cf53 33 = .ok (.invokestatic 640, 3) := by decide +kernel
theorem dJ0_indexOf_7cf53_36 : decode cJ0_indexOf_7cf53 36 = .ok (.ireturn, 1) := by decide +kernel
theorem dJ0_coder_7d493_0 : decode cJ0_coder_7d493 0 = .ok (.getstatic 38, 3) := by decide +kernel
theorem dJ0_coder_7d493_3 : decode cJ0_coder_7d493 3 = .ok (.ifCond .eq 10, 3) := by decide +kernel
theorem dJ0_coder_7d493_6 : decode cJ0_coder_7d493 6 = .ok (.aload_n 0, 1) := by decide +kernel
theorem dJ0_coder_7d493_7 : decode cJ0_coder_7d493 7 = .ok (.getfield 15, 3) := by decide +kernel
theorem dJ0_coder_7d493_10 : decode cJ0_coder_7d493 10 = .ok (.goto 4, 3) := by decide +kernel
theorem dJ0_coder_7d493_13 : decode cJ0_coder_7d493 13 = .ok (.iconst 1, 1) := by decide +kernel
theorem dJ0_coder_7d493_14 : decode cJ0_coder_7d493 14 = .ok (.ireturn, 1) := by decide +kernel
theorem dJ0_isLatin1_aae02_0 : decode cJ0_isLatin1_aae02 0 = .ok (.getstatic 38, 3) := by decide +kernel
theorem dJ0_isLatin1_aae02_3 : decode cJ0_isLatin1_aae02 3 = .ok (.ifCond .eq 14, 3) := by decide +kernel
theorem dJ0_isLatin1_aae02_6 : decode cJ0_isLatin1_aae02 6 = .ok (.aload_n 0, 1) := by decide +kernel
theorem dJ0_isLatin1_aae02_7 : decode cJ0_isLatin1_aae02 7 = .ok (.getfield 15, 3) := by decide +kernel
theorem dJ0_isLatin1_aae02_10 : decode cJ0_isLatin1_aae02 10 = .ok (.ifCond .ne 7, 3) := by decide +kernel
theorem dJ0_isLatin1_aae02_13 : decode cJ0_isLatin1_aae02 13 = .ok (.iconst 1, 1) := by decide +kernel
theorem dJ0_isLatin1_aae02_14 : decode cJ0_isLatin1_aae02 14 = .ok (.goto 4, 3) := by decide +kernel
theorem dJ0_isLatin1_aae02_17 : decode cJ0_isLatin1_aae02 17 = .ok (.iconst 0, 1) := by decide +kernel
theorem dJ0_isLatin1_aae02_18 : decode cJ0_isLatin1_aae02 18 = .ok (.ireturn, 1) := by decide +kernel
theorem dJ0_checkIndex_df160_0 : decode cJ0_checkIndex_df160 0 = .ok (.iload_n 0, 1) := by decide +kernel
theorem dJ0_checkIndex_df160_1 : decode cJ0_checkIndex_df160 1 = .ok (.iload_n 1, 1) := by decide +kernel
theorem dJ0_checkIndex_df160_2 : decode cJ0_checkIndex_df160 2 = .ok (.getstatic 1053, 3) := by decide +kernel
theorem dJ0_checkIndex_df160_5 : decode cJ0_checkIndex_df160 5 = .ok (.invokestatic 1059, 3) := by decide +kernel
theorem dJ0_checkIndex_df160_8 : decode cJ0_checkIndex_df160 8 = .ok (.pop, 1) := by decide +kernel
theorem dJ0_checkIndex_df160_9 : decode cJ0_checkIndex_df160 9 = .ok (.return_, 1) := by decide +kernel
theorem dJ0_checkBoundsBeginEnd_23922_0 : decode cJ0_checkBoundsBeginEnd_23922 0 = .ok (.iload_n 0, 1) := by decide +kernel
theorem dJ0_checkBoundsBeginEnd_23922_1 : decode cJ0_checkBoundsBeginEnd_23922 1 = .ok (.iload_n 1, 1) := by decide +kernel
theorem dJ0_checkBoundsBeginEnd_23922_2 : decode cJ0_checkBoundsBeginEnd_23922 2 = .ok (.iload_n 2, 1) := by decide +kernel
theorem dJ0_checkBoundsBeginEnd_23922_3 : decode cJ0_checkBoundsBeginEnd_23922 3 = .ok (.getstatic 1053, 3) := by decide +kernel
theorem dJ0_checkBoundsBeginEnd_23922_6 : decode cJ0_checkBoundsBeginEnd_23922 6 = .ok (.invokestatic 1062, 3) := by decide +kernel
theorem dJ0_checkBoundsBeginEnd_23922_9 : decode cJ0_checkBoundsBeginEnd_23922 9 = .ok (.pop, 1) := by decide +kernel
theorem dJ0_checkBoundsBeginEnd_23922_10 : decode cJ0_checkBoundsBeginEnd_23922 10 = .ok (.return_, 1) := by decide +kernel
theorem dJ1_charAt_3b067_0 : decode cJ1_charAt_3b067 0 = .ok (.iload_n 1, 1) := by decide +kernel
theorem dJ1_charAt_3b067_1 : decode cJ1_charAt_3b067 1 = .ok (.aload_n 0, 1) := by decide +kernel
theorem dJ1_charAt_3b067_2 : decode cJ1_charAt_3b067 2 = .ok (.arraylength, 1) := by decide +kernel
theorem dJ1_charAt_3b067_3 : decode cJ1_charAt_3b067 3 = .ok (.invokestatic 9, 3) := by decide +kernel
theorem dJ1_charAt_3b067_6 : decode cJ1_charAt_3b067 6 = .ok (.aload_n 0, 1) := by decide +kernel
theorem dJ1_charAt_3b067_7 : decode cJ1_charAt_3b067 7 = .ok (.iload_n 1, 1) := by decide +kernel
theorem dJ1_charAt_3b067_8 : decode cJ1_charAt_3b067 8 = .ok (.baload, 1) := by decide +kernel
theorem dJ1_charAt_3b067_9 : decode cJ1_charAt_3b067 9 = .ok (.sipush 255, 3) := by decide +kernel
theorem dJ1_charAt_3b067_12 : decode cJ1_charAt_3b067 12 = .ok (.iand, 1) := by decide +kernel
theorem dJ1_charAt_3b067_13 : decode cJ1_charAt_3b067 13 = .ok (.i2c, 1) := by decide +kernel
theorem dJ1_charAt_3b067_14 : decode cJ1_charAt_3b067 14 = .ok (.ireturn, 1) := by decide +kernel
theorem dJ1_canEncode_9a6ad_0 : decode cJ1_canEncode_9a6ad 0 = .ok (.iload_n 0, 1) := by decide +kernel
theorem dJ1_canEncode_9a6ad_1 : decode cJ1_canEncode_9a6ad 1 = .ok (.ifCond .lt 14, 3) := by decide +kernel
theorem dJ1_canEncode_9a6ad_4 : decode cJ1_canEncode_9a6ad 4 = .ok (.iload_n 0, 1) := by decide +kernel
theorem dJ1_canEncode_9a6ad_5 : decode cJ1_canEncode_9a6ad 5 = .ok (.sipush 255, 3) := by decide +kernel
theorem dJ1_canEncode_9a6ad_8 : decode cJ1_canEncode_9a6ad 8 = .ok (.if_icmp .gt 7, 3) := by decide +kernel
theorem dJ1_canEncode_9a6ad_11 : decode cJ1_canEncode_9a6ad 11 = .ok (.iconst 1, 1) := by decide +kernel
theorem dJ1_canEncode_9a6ad_12 : decode cJ1_canEncode_9a6ad 12 = .ok (.goto 4, 3) := by decide +kernel
theorem dJ1_canEncode_9a6ad_15 : decode cJ1_canEncode_9a6ad 15 = .ok (.iconst 0, 1) := by decide +kernel
theorem dJ1_canEncode_9a6ad_16 : decode cJ1_canEncode_9a6ad 16 = .ok (.ireturn, 1) := by decide +kernel
theorem dJ1_indexOf_4cfef_0 : decode cJ1_indexOf_4cfef 0 = .ok (.iload_n 1, 1) := by decide +kernel
theorem dJ1_indexOf_4cfef_1 : decode cJ1_indexOf_4cfef 1 = .ok (.invokestatic 88, 3) := by decide +kernel
theorem dJ1_indexOf_4cfef_4 : decode cJ1_indexOf_4cfef 4 = .ok (.ifCond .ne 5, 3) := by decide +kernel
theorem dJ1_indexOf_4cfef_7 : decode cJ1_indexOf_4cfef 7 = .ok (.iconst (-1), 1) := by decide +kernel
theorem dJ1_indexOf_4cfef_8 : decode cJ1_indexOf_4cfef 8 = .ok (.ireturn, 1) := by decide +kernel
theorem dJ1_indexOf_4cfef_9 : decode cJ1_indexOf_4cfef 9 = .ok (.iload_n 2, 1) := by decide +kernel
theorem dJ1_indexOf_4cfef_10 : decode cJ1_indexOf_4cfef 10 = .ok (.iconst 0, 1) := by decide +kernel
theorem dJ1_indexOf_4cfef_11 : decode cJ1_indexOf_4cfef 11 = .ok (.invokestatic 92, 3) := by decide +kernel
theorem dJ1_indexOf_4cfef_14 : decode cJ1_indexOf_4cfef 14 = .ok (.istore_n 2, 1) := by decide +kernel
theorem dJ1_indexOf_4cfef_15 : decode cJ1_indexOf_4cfef 15 = .ok (.iload_n 3, 1) := by decide +kernel
theorem dJ1_indexOf_4cfef_16 : decode cJ1_indexOf_4cfef 16 = .ok (.aload_n 0, 1) := by decide +kernel
theorem dJ1_indexOf_4cfef_17 : decode cJ1_indexOf_4cfef 17 = .ok (.arraylength, 1) := by decide +kernel
theorem dJ1_indexOf_4cfef_18 : decode cJ1_indexOf_4cfef 18 = .ok (.invokestatic 38, 3) := by decide +kernel
theorem dJ1_indexOf_4cfef_21 : decode cJ1_indexOf_4cfef 21 = .ok (.istore_n 3, 1) := by decide +kernel
theorem dJ1_indexOf_4cfef_22 : decode cJ1_indexOf_4cfef 22 = .ok (.iload_n 2, 1) := by decide +kernel
theorem dJ1_indexOf_4cfef_23 : decode cJ1_indexOf_4cfef 23 = .ok (.iload_n 3, 1) := by decide +kernel
theorem dJ1_indexOf_4cfef_24 : decode cJ1_indexOf_4cfef 24 = .ok (.if_icmp .lt 5, 3) := by decide +kernel
theorem dJ1_indexOf_4cfef_27 : decode cJ1_indexOf_4cfef 27 = .ok (.iconst (-1), 1) := by decide +kernel
theorem dJ1_indexOf_4cfef_28 : decode cJ1_indexOf_4cfef 28 = .ok (.ireturn, 1) := by decide +kernel
theorem dJ1_indexOf_4cfef_29 : decode cJ1_indexOf_4cfef 29 = .ok (.aload_n 0, 1) := by decide +kernel
theorem dJ1_indexOf_4cfef_30 : decode cJ1_indexOf_4cfef 30 = .ok (.iload_n 1, 1) := by decide +kernel
theorem dJ1_indexOf_4cfef_31 : decode cJ1_indexOf_4cfef 31 = .ok (.iload_n 2, 1) := by decide +kernel
theorem dJ1_indexOf_4cfef_32 : decode cJ1_indexOf_4cfef 32 = .ok (.iload_n 3, 1) := by decide +kernel
theorem dJ1_indexOf_4cfef_33 : decode cJ1_indexOf_4cfef 33 = .ok (.invokestatic 95, 3) := by decide +kernel
theorem dJ1_indexOf_4cfef_36 : decode cJ1_indexOf_4cfef 36 = .ok (.ireturn, 1) := by decide +kernel
theorem dJ1_indexOfChar_4cfef_0 : decode cJ1_indexOfChar_4cfef 0 = .ok (.iload_n 1, 1) := by decide +kernel
theorem dJ1_indexOfChar_4cfef_1 : decode cJ1_indexOfChar_4cfef 1 = .ok (.i2b, 1) := by decide +kernel
theorem dJ1_indexOfChar_4cfef_2 : decode cJ1_indexOfChar_4cfef 2 = .ok (.istore 4, 2) := by decide +kernel
theorem dJ1_indexOfChar_4cfef_4 : decode cJ1_indexOfChar_4cfef 4 = .ok (.iload_n 2, 1) := by decide +kernel
theorem dJ1_indexOfChar_4cfef_5 : decode cJ1_indexOfChar_4cfef 5 = .ok (.istore 5, 2) := by decide +kernel
theorem dJ1_indexOfChar_4cfef_7 : decode cJ1_indexOfChar_4cfef 7 = .ok (.iload 5, 2) := by decide +kernel
theorem dJ1_indexOfChar_4cfef_9 : decode cJ1_indexOfChar_4cfef 9 = .ok (.iload_n 3, 1) := by decide +kernel
theorem dJ1_indexOfChar_4cfef_10 : decode cJ1_indexOfChar_4cfef 10 = .ok (.if_icmp .ge 21, 3) := by decide +kernel
theorem dJ1_indexOfChar_4cfef_13 : decode cJ1_indexOfChar_4cfef 13 = .ok (.aload_n 0, 1) := by decide +kernel
theorem dJ1_indexOfChar_4cfef_14 : decode cJ1_indexOfChar_4cfef 14 = .ok (.iload 5, 2) := by decide +kernel
theorem dJ1_indexOfChar_4cfef_16 : decode cJ1_indexOfChar_4cfef 16 = .ok (.baload, 1) := by decide +kernel
theorem dJ1_indexOfChar_4cfef_17 : decode cJ1_indexOfChar_4cfef 17 = .ok (.iload 4, 2) := by decide +kernel
theorem dJ1_indexOfChar_4cfef_19 : decode cJ1_indexOfChar_4cfef 19 = .ok (.if_icmp .ne 6, 3) := by decide +kernel
theorem dJ1_indexOfChar_4cfef_22 : decode cJ1_indexOfChar_4cfef 22 = .ok (.iload 5, 2) := by decide +kernel
theorem dJ1_indexOfChar_4cfef_24 : decode cJ1_indexOfChar_4cfef 24 = .ok (.ireturn, 1) := by decide +kernel
theorem dJ1_indexOfChar_4cfef_25 : decode cJ1_indexOfChar_4cfef 25 = .ok (.iinc 5 1, 3) := by decide +kernel
theorem dJ1_indexOfChar_4cfef_28 : decode cJ1_indexOfChar_4cfef 28 = .ok (.goto (-21), 3) := by decide +kernel
theorem dJ1_indexOfChar_4cfef_31 : decode cJ1_indexOfChar_4cfef 31 = .ok (.iconst (-1), 1) := by decide +kernel
theorem dJ1_indexOfChar_4cfef_32 : decode cJ1_indexOfChar_4cfef 32 = .ok (.ireturn, 1) := by decide +kernel
theorem dJ2_getChar_3b067_0 : decode cJ2_getChar_3b067 0 = .ok (.getstatic 44, 3) := by decide +kernel
theorem dJ2_getChar_3b067_3 : decode cJ2_getChar_3b067 3 = .ok (.ifCond .ne 25, 3) := by decide +kernel
theorem dJ2_getChar_3b067_6 : decode cJ2_getChar_3b067 6 = .ok (.iload_n 1, 1) := by decide +kernel
theorem dJ2_getChar_3b067_7 : decode cJ2_getChar_3b067 7 = .ok (.ifCond .lt 11, 3) := by decide +kernel
theorem dJ2_getChar_3b067_10 : decode cJ2_getChar_3b067 10 = .ok (.iload_n 1, 1) := by decide +kernel
theorem dJ2_getChar_3b067_11 : decode cJ2_getChar_3b067 11 = .ok (.aload_n 0, 1) := by decide +kernel
theorem dJ2_getChar_3b067_12 : decode cJ2_getChar_3b067 12 = .ok (.invokestatic 48, 3) := by decide +kernel
theorem dJ2_getChar_3b067_15 : decode cJ2_getChar_3b067 15 = .ok (.if_icmp .lt 13, 3) := by decide +kernel
theorem dJ2_getChar_3b067_18 : decode cJ2_getChar_3b067 18 = .ok (.new 52, 3) := by decide +kernel
theorem dJ2_getChar_3b067_21 : decode cJ2_getChar_3b067 21 = .ok (.dup, 1) := by decide +kernel
theorem dJ2_getChar_3b067_22 : decode cJ2_getChar_3b067 22 = .ok (.ldc 54, 2) := by decide +kernel
theorem dJ2_getChar_3b067_24 : decode cJ2_getChar_3b067 24 = .ok (.invokespecial 56, 3) := by decide +kernel
theorem dJ2_getChar_3b067_27 : decode cJ2_getChar_3b067 27 = .ok (.athrow, 1) := by decide +kernel
theorem dJ2_getChar_3b067_28 : decode cJ2_getChar_3b067 28 = .ok (.iload_n 1, 1) := by decide +kernel
theorem dJ2_getChar_3b067_29 : decode cJ2_getChar_3b067 29 = .ok (.iconst 1, 1) := by decide +kernel
theorem dJ2_getChar_3b067_30 : decode cJ2_getChar_3b067 30 = .ok (.ishl, 1) := by decide +kernel
theorem dJ2_getChar_3b067_31 : decode cJ2_getChar_3b067 31 = .ok (.istore_n 1, 1) := by decide +kernel
theorem dJ2_getChar_3b067_32 : decode cJ2_getChar_3b067 32 = .ok (.aload_n 0, 1) := by decide +kernel
theorem dJ2_getChar_3b067_33 : decode cJ2_getChar_3b067 33 = .ok (.iload_n 1, 1) := by decide +kernel
theorem dJ2_getChar_3b067_34 : decode cJ2_getChar_3b067 34 = .ok (.iinc 1 1, 3) := by decide +kernel
theorem dJ2_getChar_3b067_37 : decode cJ2_getChar_3b067 37 = .ok (.baload, 1) := by decide +kernel
theorem dJ2_getChar_3b067_38 : decode cJ2_getChar_3b067 38 = .ok (.sipush 255, 3) := by decide +kernel
theorem dJ2_getChar_3b067_41 : decode cJ2_getChar_3b067 41 = .ok (.iand, 1) := by decide +kernel
theorem dJ2_getChar_3b067_42 : decode cJ2_getChar_3b067 42 = .ok (.getstatic 59, 3) := by decide +kernel
theorem dJ2_getChar_3b067_45 : decode cJ2_getChar_3b067 45 = .ok (.ishl, 1) := by decide +kernel
theorem dJ2_getChar_3b067_46 : decode cJ2_getChar_3b067 46 = .ok (.aload_n 0, 1) := by decide +kernel
theorem dJ2_getChar_3b067_47 : decode cJ2_getChar_3b067 47 = .ok (.iload_n 1, 1) := by decide +kernel
theorem dJ2_getChar_3b067_48 : decode cJ2_getChar_3b067 48 = .ok (.baload, 1) := by decide +kernel
theorem dJ2_getChar_3b067_49 : decode cJ2_getChar_3b067 49 = .ok (.sipush 255, 3) := by decide +kernel
theorem dJ2_getChar_3b067_52 : decode cJ2_getChar_3b067 52 = .ok (.iand, 1) := by decide +kernel
theorem dJ2_getChar_3b067_53 : decode cJ2_getChar_3b067 53 = .ok (.getstatic 63, 3) := by decide +kernel
theorem dJ2_getChar_3b067_56 : decode cJ2_getChar_3b067 56 = .ok (.ishl, 1) := by decide +kernel
theorem dJ2_getChar_3b067_57 : decode cJ2_getChar_3b067 57 = .ok (.ior, 1) := by decide +kernel
theorem dJ2_getChar_3b067_58 : decode cJ2_getChar_3b067 58 = .ok (.i2c, 1) := by decide +kernel
theorem dJ2_getChar_3b067_59 : decode cJ2_getChar_3b067 59 = .ok (.ireturn, 1) := by decide +kernel
theorem dJ2_length_9d52b_0 : decode cJ2_length_9d52b 0 = .ok (.aload_n 0, 1) := by decide +kernel
theorem dJ2_length_9d52b_1 : decode cJ2_length_9d52b 1 = .ok (.arraylength, 1) := by decide +kernel
theorem dJ2_length_9d52b_2 : decode cJ2_length_9d52b 2 = .ok (.iconst 1, 1) := by decide +kernel
theorem dJ2_length_9d52b_3 : decode cJ2_length_9d52b 3 = .ok (.ishr, 1) := by decide +kernel
theorem dJ2_length_9d52b_4 : decode cJ2_length_9d52b 4 = .ok (.ireturn, 1) := by decide +kernel
theorem dJ2_indexOf_4cfef_0 : decode cJ2_indexOf_4cfef 0 = .ok (.iload_n 2, 1) := by decide +kernel
theorem dJ2_indexOf_4cfef_1 : decode cJ2_indexOf_4cfef 1 = .ok (.iconst 0, 1) := by decide +kernel
theorem dJ2_indexOf_4cfef_2 : decode cJ2_indexOf_4cfef 2 = .ok (.invokestatic 224, 3) := by decide +kernel
theorem dJ2_indexOf_4cfef_5 : decode cJ2_indexOf_4cfef 5 = .ok (.istore_n 2, 1) := by decide +kernel
theorem dJ2_indexOf_4cfef_6 : decode cJ2_indexOf_4cfef 6 = .ok (.iload_n 3, 1) := by decide +kernel
theorem dJ2_indexOf_4cfef_7 : decode cJ2_indexOf_4cfef 7 = .ok (.aload_n 0, 1) := by decide +kernel
theorem dJ2_indexOf_4cfef_8 : decode cJ2_indexOf_4cfef 8 = .ok (.arraylength, 1) := by decide +kernel
theorem dJ2_indexOf_4cfef_9 : decode cJ2_indexOf_4cfef 9 = .ok (.iconst 1, 1) := by decide +kernel
theorem dJ2_indexOf_4cfef_10 : decode cJ2_indexOf_4cfef 10 = .ok (.ishr, 1) := by decide +kernel
theorem dJ2_indexOf_4cfef_11 : decode cJ2_indexOf_4cfef 11 = .ok (.invokestatic 183, 3) := by decide +kernel
theorem dJ2_indexOf_4cfef_14 : decode cJ2_indexOf_4cfef 14 = .ok (.istore_n 3, 1) := by decide +kernel
theorem dJ2_indexOf_4cfef_15 : decode cJ2_indexOf_4cfef 15 = .ok (.iload_n 2, 1) := by decide +kernel
theorem dJ2_indexOf_4cfef_16 : decode cJ2_indexOf_4cfef 16 = .ok (.iload_n 3, 1) := by decide +kernel
theorem dJ2_indexOf_4cfef_17 : decode cJ2_indexOf_4cfef 17 = .ok (.if_icmp .lt 5, 3) := by decide +kernel
theorem dJ2_indexOf_4cfef_20 : decode cJ2_indexOf_4cfef 20 = .ok (.iconst (-1), 1) := by decide +kernel
theorem dJ2_indexOf_4cfef_21 : decode cJ2_indexOf_4cfef 21 = .ok (.ireturn, 1) := by decide +kernel
theorem dJ2_indexOf_4cfef_22 : decode cJ2_indexOf_4cfef 22 = .ok (.iload_n 1, 1) := by decide +kernel
theorem dJ2_indexOf_4cfef_23 : decode cJ2_indexOf_4cfef 23 = .ok (.ldc 227, 2) := by decide +kernel
theorem dJ2_indexOf_4cfef_25 : decode cJ2_indexOf_4cfef 25 = .ok (.if_icmp .ge 11, 3) := by decide +kernel
theorem dJ2_indexOf_4cfef_28 : decode cJ2_indexOf_4cfef 28 = .ok (.aload_n 0, 1) := by decide +kernel
theorem dJ2_indexOf_4cfef_29 : decode cJ2_indexOf_4cfef 29 = .ok (.iload_n 1, 1) := by decide +kernel
theorem dJ2_indexOf_4cfef_30 : decode cJ2_indexOf_4cfef 30 = .ok (.iload_n 2, 1) := by decide +kernel
theorem dJ2_indexOf_4cfef_31 : decode cJ2_indexOf_4cfef 31 = .ok (.iload_n 3, 1) := by decide +kernel
theorem dJ2_indexOf_4cfef_32 : decode cJ2_indexOf_4cfef 32 = .ok (.invokestatic 228, 3) := by decide +kernel
theorem dJ2_indexOf_4cfef_35 : decode cJ2_indexOf_4cfef 35 = .ok (.ireturn, 1) := by decide +kernel
theorem dJ2_indexOf_4cfef_36 : decode cJ2_indexOf_4cfef 36 = .ok (.aload_n 0, 1) := by decide +kernel
theorem dJ2_indexOf_4cfef_37 : decode cJ2_indexOf_4cfef 37 = .ok (.iload_n 1, 1) := by decide +kernel
theorem dJ2_indexOf_4cfef_38 : decode cJ2_indexOf_4cfef 38 = .ok (.iload_n 2, 1) := by decide +kernel
theorem dJ2_indexOf_4cfef_39 : decode cJ2_indexOf_4cfef 39 = .ok (.iload_n 3, 1) := by decide +kernel
theorem dJ2_indexOf_4cfef_40 : decode cJ2_indexOf_4cfef 40 = .ok (.invokestatic 232, 3) := by decide +kernel
theorem dJ2_indexOf_4cfef_43 : decode cJ2_indexOf_4cfef 43 = .ok (.ireturn, 1) := by decide +kernel
theorem dJ2_indexOfChar_4cfef_0 : decode cJ2_indexOfChar_4cfef 0 = .ok (.iload_n 2, 1) := by decide +kernel
theorem dJ2_indexOfChar_4cfef_1 : decode cJ2_indexOfChar_4cfef 1 = .ok (.iload_n 3, 1) := by decide +kernel
theorem dJ2_indexOfChar_4cfef_2 : decode cJ2_indexOfChar_4cfef 2 = .ok (.aload_n 0, 1) := by decide +kernel
theorem dJ2_indexOfChar_4cfef_3 : decode cJ2_indexOfChar_4cfef 3 = .ok (.invokestatic 96, 3) := by decide +kernel
theorem dJ2_indexOfChar_4cfef_6 : decode cJ2_indexOfChar_4cfef 6 = .ok (.aload_n 0, 1) := by decide +kernel
theorem dJ2_indexOfChar_4cfef_7 : decode cJ2_indexOfChar_4cfef 7 = .ok (.iload_n 1, 1) := by decide +kernel
theorem dJ2_indexOfChar_4cfef_8 : decode cJ2_indexOfChar_4cfef 8 = .ok (.iload_n 2, 1) := by decide +kernel
theorem dJ2_indexOfChar_4cfef_9 : decode cJ2_indexOfChar_4cfef 9 = .ok (.iload_n 3, 1) := by decide +kernel
theorem dJ2_indexOfChar_4cfef_10 : decode cJ2_indexOfChar_4cfef 10 = .ok (.invokestatic 244, 3) := by decide +kernel
theorem dJ2_indexOfChar_4cfef_13 : decode cJ2_indexOfChar_4cfef 13 = .ok (.ireturn, 1) := by decide +kernel
theorem dJ2_indexOfCharUnsafe_4cfef_0 : decode cJ2_indexOfCharUnsafe_4cfef 0 = .ok (.iload_n 2, 1) := by decide +kernel
theorem dJ2_indexOfCharUnsafe_4cfef_1 : decode cJ2_indexOfCharUnsafe_4cfef 1 = .ok (.istore 4, 2) := by decide +kernel
theorem dJ2_indexOfCharUnsafe_4cfef_3 : decode cJ2_indexOfCharUnsafe_4cfef 3 = .ok (.iload 4, 2) := by decide +kernel
theorem dJ2_indexOfCharUnsafe_4cfef_5 : decode cJ2_indexOfCharUnsafe_4cfef 5 = .ok (.iload_n 3, 1) := by decide +kernel
theorem dJ2_indexOfCharUnsafe_4cfef_6 : decode cJ2_indexOfCharUnsafe_4cfef 6 = .ok (.if_icmp .ge 22, 3) := by decide +kernel
theorem dJ2_indexOfCharUnsafe_4cfef_9 : decode cJ2_indexOfCharUnsafe_4cfef 9 = .ok (.aload_n 0, 1) := by decide +kernel
theorem dJ2_indexOfCharUnsafe_4cfef_10 : decode cJ2_indexOfCharUnsafe_4cfef 10 = .ok (.iload 4, 2) := by decide +kernel
theorem dJ2_indexOfCharUnsafe_4cfef_12 : decode cJ2_indexOfCharUnsafe_4cfef 12 = .ok (.invokestatic 71, 3) := by decide +kernel
theorem dJ2_indexOfCharUnsafe_4cfef_15 : decode cJ2_indexOfCharUnsafe_4cfef 15 = .ok (.iload_n 1, 1) := by decide +kernel
theorem dJ2_indexOfCharUnsafe_4cfef_16 : decode cJ2_indexOfCharUnsafe_4cfef 16 = .ok (.if_icmp .ne 6, 3) := by decide +kernel
theorem dJ2_indexOfCharUnsafe_4cfef_19 : decode cJ2_indexOfCharUnsafe_4cfef 19 = .ok (.iload 4, 2) := by decide +kernel
theorem dJ2_indexOfCharUnsafe_4cfef_21 : decode cJ2_indexOfCharUnsafe_4cfef 21 = .ok (.ireturn, 1) := by decide +kernel
theorem dJ2_indexOfCharUnsafe_4cfef_22 : decode cJ2_indexOfCharUnsafe_4cfef 22 = .ok (.iinc 4 1, 3) := by decide +kernel
theorem dJ2_indexOfCharUnsafe_4cfef_25 : decode cJ2_indexOfCharUnsafe_4cfef 25 = .ok (.goto (-22), 3) := by decide +kernel
theorem dJ2_indexOfCharUnsafe_4cfef_28 : decode cJ2_indexOfCharUnsafe_4cfef 28 = .ok (.iconst (-1), 1) := by decide +kernel
theorem dJ2_indexOfCharUnsafe_4cfef_29 : decode cJ2_indexOfCharUnsafe_4cfef 29 = .ok (.ireturn, 1) := by decide +kernel
theorem dJ2_indexOfSupplementary_4cfef_0 : decode cJ2_indexOfSupplementary_4cfef 0 = .ok (.iload_n 1, 1) := by decide +kernel
theorem dJ2_indexOfSupplementary_4cfef_1 : decode cJ2_indexOfSupplementary_4cfef 1 = .ok (.invokestatic 164, 3) := by decide +kernel
theorem dJ2_indexOfSupplementary_4cfef_4 : decode cJ2_indexOfSupplementary_4cfef 4 = .ok (.ifCond .eq 65, 3) := by decide +kernel
theorem dJ2_indexOfSupplementary_4cfef_7 : decode cJ2_indexOfSupplementary_4cfef 7 = .ok (.iload_n 1, 1) := by decide +kernel
theorem dJ2_indexOfSupplementary_4cfef_8 : decode cJ2_indexOfSupplementary_4cfef 8 = .ok (.invokestatic 157, 3) := by decide +kernel
theorem dJ2_indexOfSupplementary_4cfef_11 : decode cJ2_indexOfSupplementary_4cfef 11 = .ok (.istore 4, 2) := by decide +kernel
theorem dJ2_indexOfSupplementary_4cfef_13 : decode cJ2_indexOfSupplementary_4cfef 13 = .ok (.iload_n 1, 1) := by decide +kernel
theorem dJ2_indexOfSupplementary_4cfef_14 : decode cJ2_indexOfSupplementary_4cfef 14 = .ok (.invokestatic 161, 3) := by decide +kernel
theorem dJ2_indexOfSupplementary_4cfef_17 : decode cJ2_indexOfSupplementary_4cfef 17 = .ok (.istore 5, 2) := by decide +kernel
theorem dJ2_indexOfSupplementary_4cfef_19 : decode cJ2_indexOfSupplementary_4cfef 19 = .ok (.iload_n 2, 1) := by decide +kernel
theorem dJ2_indexOfSupplementary_4cfef_20 : decode cJ2_indexOfSupplementary_4cfef 20 = .ok (.iload_n 3, 1) := by decide +kernel
theorem dJ2_indexOfSupplementary_4cfef_21 : decode cJ2_indexOfSupplementary_4cfef 21 = .ok (.aload_n 0, 1) := by decide +kernel
theorem dJ2_indexOfSupplementary_4cfef_22 : decode cJ2_indexOfSupplementary_4cfef 22 = .ok (.invokestatic 96, 3) := by decide +kernel
theorem dJ2_indexOfSupplementary_4cfef_25 : decode cJ2_indexOfSupplementary_4cfef 25 = .ok (.iload_n 2, 1) := by decide +kernel
theorem dJ2_indexOfSupplementary_4cfef_26 : decode cJ2_indexOfSupplementary_4cfef 26 = .ok (.istore 6, 2) := by decide +kernel
theorem dJ2_indexOfSupplementary_4cfef_28 : decode cJ2_indexOfSupplementary_4cfef 28 = .ok (.iload 6, 2) := by decide +kernel
theorem dJ2_indexOfSupplementary_4cfef_30 : decode cJ2_indexOfSupplementary_4cfef 30 = .ok (.iload_n 3, 1) := by decide +kernel
theorem dJ2_indexOfSupplementary_4cfef_31 : decode cJ2_indexOfSupplementary_4cfef 31 = .ok (.iconst 1, 1) := by decide +kernel
theorem dJ2_indexOfSupplementary_4cfef_32 : decode cJ2_indexOfSupplementary_4cfef 32 = .ok (.isub, 1) := by decide +kernel
theorem dJ2_indexOfSupplementary_4cfef_33 : decode cJ2_indexOfSupplementary_4cfef 33 = .ok (.if_icmp .ge 36, 3) := by decide +kernel
theorem dJ2_indexOfSupplementary_4cfef_36 : decode cJ2_indexOfSupplementary_4cfef 36 = .ok (.aload_n 0, 1) := by decide +kernel
theorem dJ2_indexOfSupplementary_4cfef_37 : decode cJ2_indexOfSupplementary_4cfef 37 = .ok (.iload 6, 2) := by decide +kernel
theorem dJ2_indexOfSupplementary_4cfef_39 : decode cJ2_indexOfSupplementary_4cfef 39 = .ok (.invokestatic 71, 3) := by decide +kernel
theorem dJ2_indexOfSupplementary_4cfef_42 : decode cJ2_indexOfSupplementary_4cfef 42 = .ok (.iload 4, 2) := by decide +kernel
theorem dJ2_indexOfSupplementary_4cfef_44 : decode cJ2_indexOfSupplementary_4cfef 44 = .ok (.if_icmp .ne 19, 3) := by decide +kernel
theorem dJ2_indexOfSupplementary_4cfef_47 : decode cJ2_indexOfSupplementary_4cfef 47 = .ok (.aload_n 0, 1) := by decide +kernel
theorem dJ2_indexOfSupplementary_4cfef_48 : decode cJ2_indexOfSupplementary_4cfef 48 = .ok (.iload 6, 2) := by decide +kernel
theorem dJ2_indexOfSupplementary_4cfef_50 : decode cJ2_indexOfSupplementary_4cfef 50 = .ok (.iconst 1, 1) := by decide +kernel
theorem dJ2_indexOfSupplementary_4cfef_51 : decode cJ2_indexOfSupplementary_4cfef 51 = .ok (.iadd, 1) := by decide +kernel
theorem dJ2_indexOfSupplementary_4cfef_52 : decode cJ2_indexOfSupplementary_4cfef 52 = .ok (.invokestatic 71, 3) := by decide +kernel
theorem dJ2_indexOfSupplementary_4cfef_55 : decode cJ2_indexOfSupplementary_4cfef 55 = .ok (.iload 5, 2) := by decide +kernel
theorem dJ2_indexOfSupplementary_4cfef_57 : decode cJ2_indexOfSupplementary_4cfef 57 = .ok (.if_icmp .ne 6, 3) := by decide +kernel
theorem dJ2_indexOfSupplementary_4cfef_60 : decode cJ2_indexOfSupplementary_4cfef 60 = .ok (.iload 6, 2) := by decide +kernel
theorem dJ2_indexOfSupplementary_4cfef_62 : decode cJ2_indexOfSupplementary_4cfef 62 = .ok (.ireturn, 1) := by decide +kernel
theorem dJ2_indexOfSupplementary_4cfef_63 : decode cJ2_indexOfSupplementary_4cfef 63 = .ok (.iinc 6 1, 3) := by decide +kernel
theorem dJ2_indexOfSupplementary_4cfef_66 : decode cJ2_indexOfSupplementary_4cfef 66 = .ok (.goto (-38), 3) := by decide +kernel
theorem dJ2_indexOfSupplementary_4cfef_69 : decode cJ2_indexOfSupplementary_4cfef 69 = .ok (.iconst (-1), 1) := by decide +kernel
theorem dJ2_indexOfSupplementary_4cfef_70 : decode cJ2_indexOfSupplementary_4cfef 70 = .ok (.ireturn, 1) := by decide +kernel
theorem dJ2_charAt_3b067_0 : decode cJ2_charAt_3b067 0 = .ok (.iload_n 1, 1) := by decide +kernel
theorem dJ2_charAt_3b067_1 : decode cJ2_charAt_3b067 1 = .ok (.aload_n 0, 1) := by decide +kernel
theorem dJ2_charAt_3b067_2 : decode cJ2_charAt_3b067 2 = .ok (.invokestatic 67, 3) := by decide +kernel
theorem dJ2_charAt_3b067_5 : decode cJ2_charAt_3b067 5 = .ok (.aload_n 0, 1) := by decide +kernel
theorem dJ2_charAt_3b067_6 : decode cJ2_charAt_3b067 6 = .ok (.iload_n 1, 1) := by decide +kernel
theorem dJ2_charAt_3b067_7 : decode cJ2_charAt_3b067 7 = .ok (.invokestatic 71, 3) := by decide +kernel
theorem dJ2_charAt_3b067_10 : decode cJ2_charAt_3b067 10 = .ok (.ireturn, 1) := by decide +kernel
theorem dJ2_checkIndex_2214a_0 : decode cJ2_checkIndex_2214a 0 = .ok (.iload_n 0, 1) := by decide +kernel
theorem dJ2_checkIndex_2214a_1 : decode cJ2_checkIndex_2214a 1 = .ok (.aload_n 1, 1) := by decide +kernel
theorem dJ2_checkIndex_2214a_2 : decode cJ2_checkIndex_2214a 2 = .ok (.invokestatic 48, 3) := by decide +kernel
theorem dJ2_checkIndex_2214a_5 : decode cJ2_checkIndex_2214a 5 = .ok (.invokestatic 414, 3) := by decide +kernel
theorem dJ2_checkIndex_2214a_8 : decode cJ2_checkIndex_2214a 8 = .ok (.return_, 1) := by decide +kernel
theorem dJ2_checkBoundsBeginEnd_d044e_0 : decode cJ2_checkBoundsBeginEnd_d044e 0 = .ok (.iload_n 0, 1) := by decide +kernel
theorem dJ2_checkBoundsBeginEnd_d044e_1 : decode cJ2_checkBoundsBeginEnd_d044e 1 = .ok (.iload_n 1, 1) := by decide +kernel
theorem dJ2_checkBoundsBeginEnd_d044e_2 : decode cJ2_checkBoundsBeginEnd_d044e 2 = .ok (.aload_n 2, 1) := by decide +kernel
theorem dJ2_checkBoundsBeginEnd_d044e_3 : decode cJ2_checkBoundsBeginEnd_d044e 3 = .ok (.invokestatic 48, 3) := by decide +kernel
theorem dJ2_checkBoundsBeginEnd_d044e_6 : decode cJ2_checkBoundsBeginEnd_d044e 6 = .ok (.invokestatic 241, 3) := by decide +kernel
theorem dJ2_checkBoundsBeginEnd_d044e_9 : decode cJ2_checkBoundsBeginEnd_d044e 9 = .ok (.return_, 1) := by decide +kernel
theorem dJ3_checkIndex_8e157_0 : decode cJ3_checkIndex_8e157 0 = .ok (.iload_n 0, 1) := by decide +kernel
theorem dJ3_checkIndex_8e157_1 : decode cJ3_checkIndex_8e157 1 = .ok (.ifCond .lt 8, 3) := by decide +kernel
theorem dJ3_checkIndex_8e157_4 : decode cJ3_checkIndex_8e157 4 = .ok (.iload_n 0, 1) := by decide +kernel
theorem dJ3_checkIndex_8e157_5 : decode cJ3_checkIndex_8e157 5 = .ok (.iload_n 1, 1) := by decide +kernel
theorem dJ3_checkIndex_8e157_6 : decode cJ3_checkIndex_8e157 6 = .ok (.if_icmp .lt 10, 3) := by decide +kernel
theorem dJ3_checkIndex_8e157_9 : decode cJ3_checkIndex_8e157 9 = .ok (.aload_n 2, 1) := by decide +kernel
theorem dJ3_checkIndex_8e157_10 : decode cJ3_checkIndex_8e157 10 = .ok (.iload_n 0, 1) := by decide +kernel
theorem dJ3_checkIndex_8e157_11 : decode cJ3_checkIndex_8e157 11 = .ok (.iload_n 1, 1) := by decide +kernel
theorem dJ3_checkIndex_8e157_12 : decode cJ3_checkIndex_8e157 12 = .ok (.invokestatic 95, 3) := by decide +kernel
theorem dJ3_checkIndex_8e157_15 : decode cJ3_checkIndex_8e157 15 = .ok (.athrow, 1) := by decide +kernel
theorem dJ3_checkIndex_8e157_16 : decode cJ3_checkIndex_8e157 16 = .ok (.iload_n 0, 1) := by decide +kernel
theorem dJ3_checkIndex_8e157_17 : decode cJ3_checkIndex_8e157 17 = .ok (.ireturn, 1) := by decide +kernel
theorem dJ3_checkFromToIndex_8c36e_0 : decode cJ3_checkFromToIndex_8c36e 0 = .ok (.iload_n 0, 1) := by decide +kernel
theorem dJ3_checkFromToIndex_8c36e_1 : decode cJ3_checkFromToIndex_8c36e 1 = .ok (.ifCond .lt 13, 3) := by decide +kernel
theorem dJ3_checkFromToIndex_8c36e_4 : decode cJ3_checkFromToIndex_8c36e 4 = .ok (.iload_n 0, 1) := by decide +kernel
theorem dJ3_checkFromToIndex_8c36e_5 : decode cJ3_checkFromToIndex_8c36e 5 = .ok (.iload_n 1, 1) := by decide +kernel
theorem dJ3_checkFromToIndex_8c36e_6 : decode cJ3_checkFromToIndex_8c36e 6 = .ok (.if_icmp .gt 8, 3) := by decide +kernel
theorem dJ3_checkFromToIndex_8c36e_9 : decode cJ3_checkFromToIndex_8c36e 9 = .ok (.iload_n 1, 1) := by decide +kernel
theorem dJ3_checkFromToIndex_8c36e_10 : decode cJ3_checkFromToIndex_8c36e 10 = .ok (.iload_n 2, 1) := by decide +kernel
theorem dJ3_checkFromToIndex_8c36e_11 : decode cJ3_checkFromToIndex_8c36e 11 = .ok (.if_icmp .le 11, 3) := by decide +kernel
theorem dJ3_checkFromToIndex_8c36e_14 : decode cJ3_checkFromToIndex_8c36e 14 = .ok (.aload_n 3, 1) := by decide +kernel
theorem dJ3_checkFromToIndex_8c36e_15 : decode cJ3_checkFromToIndex_8c36e 15 = .ok (.iload_n 0, 1) := by decide +kernel
theorem dJ3_checkFromToIndex_8c36e_16 : decode cJ3_checkFromToIndex_8c36e 16 = .ok (.iload_n 1, 1) := by decide +kernel
theorem dJ3_checkFromToIndex_8c36e_17 : decode cJ3_checkFromToIndex_8c36e 17 = .ok (.iload_n 2, 1) := by decide +kernel
theorem dJ3_checkFromToIndex_8c36e_18 : decode cJ3_checkFromToIndex_8c36e 18 = .ok (.invokestatic 99, 3) := by decide +kernel
theorem dJ3_checkFromToIndex_8c36e_21 : decode cJ3_checkFromToIndex_8c36e 21 = .ok (.athrow, 1) := by decide +kernel
theorem dJ3_checkFromToIndex_8c36e_22 : decode cJ3_checkFromToIndex_8c36e 22 = .ok (.iload_n 0, 1) := by decide +kernel
theorem dJ3_checkFromToIndex_8c36e_23 : decode cJ3_checkFromToIndex_8c36e 23 = .ok (.ireturn, 1) := by decide +kernel
theorem dL_law_0 : decode cL_law 0 = .ok (.new 7, 3) := by decide +kernel
theorem dL_law_3 : decode cL_law 3 = .ok (.dup, 1) := by decide +kernel
theorem dL_law_4 : decode cL_law 4 = .ok (.invokespecial 9, 3) := by decide +kernel
theorem dL_law_7 : decode cL_law 7 = .ok (.astore_n 1, 1) := by decide +kernel
theorem dL_law_8 : decode cL_law 8 = .ok (.new 10, 3) := by decide +kernel
theorem dL_law_11 : decode cL_law 11 = .ok (.dup, 1) := by decide +kernel
theorem dL_law_12 : decode cL_law 12 = .ok (.invokespecial 12, 3) := by decide +kernel
theorem dL_law_15 : decode cL_law 15 = .ok (.astore_n 2, 1) := by decide +kernel
theorem dL_law_16 : decode cL_law 16 = .ok (.iconst 0, 1) := by decide +kernel
theorem dL_law_17 : decode cL_law 17 = .ok (.istore_n 3, 1) := by decide +kernel
theorem dL_law_18 : decode cL_law 18 = .ok (.iload_n 3, 1) := by decide +kernel
theorem dL_law_19 : decode cL_law 19 = .ok (.aload_n 0, 1) := by decide +kernel
theorem dL_law_20 : decode cL_law 20 = .ok (.arraylength, 1) := by decide +kernel
theorem dL_law_21 : decode cL_law 21 = .ok (.bipush 6, 2) := by decide +kernel
theorem dL_law_23 : decode cL_law 23 = .ok (.isub, 1) := by decide +kernel
theorem dL_law_24 : decode cL_law 24 = .ok (.if_icmp .gt 1577, 3) := by decide +kernel
theorem dL_law_27 : decode cL_law 27 = .ok (.aload_n 0, 1) := by decide +kernel
theorem dL_law_28 : decode cL_law 28 = .ok (.iload_n 3, 1) := by decide +kernel
theorem dL_law_29 : decode cL_law 29 = .ok (.iaload, 1) := by decide +kernel
theorem dL_law_30 : decode cL_law 30 = .ok (.bipush 63, 2) := by decide +kernel
theorem dL_law_32 : decode cL_law 32 = .ok (.iand, 1) := by decide +kernel
theorem dL_law_33 : decode cL_law 33 = .ok (.tableswitch 1562 0 40 #[179, 202, 245, 278, 311, 334, 377, 410, 453, 486, 519, 552, 585, 628, 691, 714, 767, 790, 813, 846, 879, 932, 975, 1008, 1061, 1084, 1117, 1170, 1193, 1236, 1259, 1302, 1345, 1408, 1431, 1454, 1467, 1480, 1503, 1516, 1539], 179) := by decide +kernel
theorem dL_law_212 : decode cL_law 212 = .ok (.aload_n 1, 1) := by decide +kernel
theorem dL_law_213 : decode cL_law 213 = .ok (.aload_n 0, 1) := by decide +kernel
theorem dL_law_214 : decode cL_law 214 = .ok (.iload_n 3, 1) := by decide +kernel
theorem dL_law_215 : decode cL_law 215 = .ok (.iconst 1, 1) := by decide +kernel
theorem dL_law_216 : decode cL_law 216 = .ok (.iadd, 1) := by decide +kernel
theorem dL_law_217 : decode cL_law 217 = .ok (.iaload, 1) := by decide +kernel
theorem dL_law_218 : decode cL_law 218 = .ok (.invokevirtual 13, 3) := by decide +kernel
theorem dL_law_221 : decode cL_law 221 = .ok (.aload_n 2, 1) := by decide +kernel
theorem dL_law_222 : decode cL_law 222 = .ok (.aload_n 0, 1) := by decide +kernel
theorem dL_law_223 : decode cL_law 223 = .ok (.iload_n 3, 1) := by decide +kernel
theorem dL_law_224 : decode cL_law 224 = .ok (.iconst 1, 1) := by decide +kernel
theorem dL_law_225 : decode cL_law 225 = .ok (.iadd, 1) := by decide +kernel
theorem dL_law_226 : decode cL_law 226 = .ok (.iaload, 1) := by decide +kernel
theorem dL_law_227 : decode cL_law 227 = .ok (.invokevirtual 17, 3) := by decide +kernel
theorem dL_law_230 : decode cL_law 230 = .ok (.if_icmp .eq 1365, 3) := by decide +kernel
theorem dL_law_233 : decode cL_law 233 = .ok (.iconst 0, 1) := by decide +kernel
theorem dL_law_234 : decode cL_law 234 = .ok (.ireturn, 1) := by decide +kernel
theorem dL_law_235 : decode cL_law 235 = .ok (.aload_n 1, 1) := by decide +kernel
theorem dL_law_236 : decode cL_law 236 = .ok (.aload_n 0, 1) := by decide +kernel
theorem dL_law_237 : decode cL_law 237 = .ok (.iload_n 3, 1) := by decide +kernel
theorem dL_law_238 : decode cL_law 238 = .ok (.iconst 1, 1) := by decide +kernel
theorem dL_law_239 : decode cL_law 239 = .ok (.iadd, 1) := by decide +kernel
theorem dL_law_240 : decode cL_law 240 = .ok (.iaload, 1) := by decide +kernel
theorem dL_law_241 : decode cL_law 241 = .ok (.aload_n 0, 1) := by decide +kernel
theorem dL_law_242 : decode cL_law 242 = .ok (.iload_n 3, 1) := by decide +kernel
theorem dL_law_243 : decode cL_law 243 = .ok (.iconst 2, 1) := by decide +kernel
theorem dL_law_244 : decode cL_law 244 = .ok (.iadd, 1) := by decide +kernel
theorem dL_law_245 : decode cL_law 245 = .ok (.iaload, 1) := by decide +kernel
theorem dL_law_246 : decode cL_law 246 = .ok (.aload_n 0, 1) := by decide +kernel
theorem dL_law_247 : decode cL_law 247 = .ok (.iload_n 3, 1) := by decide +kernel
theorem dL_law_248 : decode cL_law 248 = .ok (.iconst 3, 1) := by decide +kernel
theorem dL_law_249 : decode cL_law 249 = .ok (.iadd, 1) := by decide +kernel
theorem dL_law_250 : decode cL_law 250 = .ok (.iaload, 1) := by decide +kernel
theorem dL_law_251 : decode cL_law 251 = .ok (.invokevirtual 18, 3) := by decide +kernel
theorem dL_law_254 : decode cL_law 254 = .ok (.aload_n 2, 1) := by decide +kernel
theorem dL_law_255 : decode cL_law 255 = .ok (.aload_n 0, 1) := by decide +kernel
theorem dL_law_256 : decode cL_law 256 = .ok (.iload_n 3, 1) := by decide +kernel
theorem dL_law_257 : decode cL_law 257 = .ok (.iconst 1, 1) := by decide +kernel
theorem dL_law_258 : decode cL_law 258 = .ok (.iadd, 1) := by decide +kernel
theorem dL_law_259 : decode cL_law 259 = .ok (.iaload, 1) := by decide +kernel
theorem dL_law_260 : decode cL_law 260 = .ok (.aload_n 0, 1) := by decide +kernel
theorem dL_law_261 : decode cL_law 261 = .ok (.iload_n 3, 1) := by decide +kernel
theorem dL_law_262 : decode cL_law 262 = .ok (.iconst 2, 1) := by decide +kernel
theorem dL_law_263 : decode cL_law 263 = .ok (.iadd, 1) := by decide +kernel
theorem dL_law_264 : decode cL_law 264 = .ok (.iaload, 1) := by decide +kernel
theorem dL_law_265 : decode cL_law 265 = .ok (.aload_n 0, 1) := by decide +kernel
theorem dL_law_266 : decode cL_law 266 = .ok (.iload_n 3, 1) := by decide +kernel
theorem dL_law_267 : decode cL_law 267 = .ok (.iconst 3, 1) := by decide +kernel
theorem dL_law_268 : decode cL_law 268 = .ok (.iadd, 1) := by decide +kernel
theorem dL_law_269 : decode cL_law 269 = .ok (.iaload, 1) := by decide +kernel
theorem dL_law_270 : decode cL_law 270 = .ok (.invokevirtual 22, 3) := by decide +kernel
theorem dL_law_273 : decode cL_law 273 = .ok (.if_icmp .eq 1322, 3) := by decide +kernel
theorem dL_law_276 : decode cL_law 276 = .ok (.iconst 0, 1) := by decide +kernel
theorem dL_law_277 : decode cL_law 277 = .ok (.ireturn, 1) := by decide +kernel
theorem dL_law_278 : decode cL_law 278 = .ok (.aload_n 1, 1) := by decide +kernel
theorem dL_law_279 : decode cL_law 279 = .ok (.aload_n 0, 1) := by decide +kernel
theorem dL_law_280 : decode cL_law 280 = .ok (.iload_n 3, 1) := by decide +kernel
theorem dL_law_281 : decode cL_law 281 = .ok (.iconst 1, 1) := by decide +kernel
theorem dL_law_282 : decode cL_law 282 = .ok (.iadd, 1) := by decide +kernel
theorem dL_law_283 : decode cL_law 283 = .ok (.iaload, 1) := by decide +kernel
theorem dL_law_284 : decode cL_law 284 = .ok (.aload_n 0, 1) := by decide +kernel
theorem dL_law_285 : decode cL_law 285 = .ok (.iload_n 3, 1) := by decide +kernel
theorem dL_law_286 : decode cL_law 286 = .ok (.iconst 2, 1) := by decide +kernel
theorem dL_law_287 : decode cL_law 287 = .ok (.iadd, 1) := by decide +kernel
theorem dL_law_288 : decode cL_law 288 = .ok (.iaload, 1) := by decide +kernel
theorem dL_law_289 : decode cL_law 289 = .ok (.invokevirtual 23, 3) := by decide +kernel
theorem dL_law_292 : decode cL_law 292 = .ok (.aload_n 2, 1) := by decide +kernel
theorem dL_law_293 : decode cL_law 293 = .ok (.aload_n 0, 1) := by decide +kernel
theorem dL_law_294 : decode cL_law 294 = .ok (.iload_n 3, 1) := by decide +kernel
theorem dL_law_295 : decode cL_law 295 = .ok (.iconst 1, 1) := by decide +kernel
theorem dL_law_296 : decode cL_law 296 = .ok (.iadd, 1) := by decide +kernel
theorem dL_law_297 : decode cL_law 297 = .ok (.iaload, 1) := by decide +kernel
theorem dL_law_298 : decode cL_law 298 = .ok (.aload_n 0, 1) := by decide +kernel
theorem dL_law_299 : decode cL_law 299 = .ok (.iload_n 3, 1) := by decide +kernel
theorem dL_law_300 : decode cL_law 300 = .ok (.iconst 2, 1) := by decide +kernel
theorem dL_law_301 : decode cL_law 301 = .ok (.iadd, 1) := by decide +kernel
theorem dL_law_302 : decode cL_law 302 = .ok (.iaload, 1) := by decide +kernel
theorem dL_law_303 : decode cL_law 303 = .ok (.invokevirtual 27, 3) := by decide +kernel
theorem dL_law_306 : decode cL_law 306 = .ok (.if_icmp .eq 1289, 3) := by decide +kernel
theorem dL_law_309 : decode cL_law 309 = .ok (.iconst 0, 1) := by decide +kernel
theorem dL_law_310 : decode cL_law 310 = .ok (.ireturn, 1) := by decide +kernel
theorem dL_law_311 : decode cL_law 311 = .ok (.aload_n 1, 1) := by decide +kernel
theorem dL_law_312 : decode cL_law 312 = .ok (.aload_n 0, 1) := by decide +kernel
theorem dL_law_313 : decode cL_law 313 = .ok (.iload_n 3, 1) := by decide +kernel
theorem dL_law_314 : decode cL_law 314 = .ok (.iconst 1, 1) := by decide +kernel
theorem dL_law_315 : decode cL_law 315 = .ok (.iadd, 1) := by decide +kernel
theorem dL_law_316 : decode cL_law 316 = .ok (.iaload, 1) := by decide +kernel
theorem dL_law_317 : decode cL_law 317 = .ok (.aload_n 0, 1) := by decide +kernel
theorem dL_law_318 : decode cL_law 318 = .ok (.iload_n 3, 1) := by decide +kernel
theorem dL_law_319 : decode cL_law 319 = .ok (.iconst 2, 1) := by decide +kernel
theorem dL_law_320 : decode cL_law 320 = .ok (.iadd, 1) := by decide +kernel
theorem dL_law_321 : decode cL_law 321 = .ok (.iaload, 1) := by decide +kernel
theorem dL_law_322 : decode cL_law 322 = .ok (.invokevirtual 28, 3) := by decide +kernel
theorem dL_law_325 : decode cL_law 325 = .ok (.aload_n 2, 1) := by decide +kernel
theorem dL_law_326 : decode cL_law 326 = .ok (.aload_n 0, 1) := by decide +kernel
theorem dL_law_327 : decode cL_law 327 = .ok (.iload_n 3, 1) := by decide +kernel
theorem dL_law_328 : decode cL_law 328 = .ok (.iconst 1, 1) := by decide +kernel
theorem dL_law_329 : decode cL_law 329 = .ok (.iadd, 1) := by decide +kernel
theorem dL_law_330 : decode cL_law 330 = .ok (.iaload, 1) := by decide +kernel
theorem dL_law_331 : decode cL_law 331 = .ok (.aload_n 0, 1) := by decide +kernel
theorem dL_law_332 : decode cL_law 332 = .ok (.iload_n 3, 1) := by decide +kernel
theorem dL_law_333 : decode cL_law 333 = .ok (.iconst 2, 1) := by decide +kernel
theorem dL_law_334 : decode cL_law 334 = .ok (.iadd, 1) := by decide +kernel
theorem dL_law_335 : decode cL_law 335 = .ok (.iaload, 1) := by decide +kernel
theorem dL_law_336 : decode cL_law 336 = .ok (.invokevirtual 31, 3) := by decide +kernel
theorem dL_law_339 : decode cL_law 339 = .ok (.if_icmp .eq 1256, 3) := by decide +kernel
theorem dL_law_342 : decode cL_law 342 = .ok (.iconst 0, 1) := by decide +kernel
theorem dL_law_343 : decode cL_law 343 = .ok (.ireturn, 1) := by decide +kernel
theorem dL_law_344 : decode cL_law 344 = .ok (.aload_n 1, 1) := by decide +kernel
theorem dL_law_345 : decode cL_law 345 = .ok (.aload_n 0, 1) := by decide +kernel
theorem dL_law_346 : decode cL_law 346 = .ok (.iload_n 3, 1) := by decide +kernel
theorem dL_law_347 : decode cL_law 347 = .ok (.iconst 1, 1) := by decide +kernel
theorem dL_law_348 : decode cL_law 348 = .ok (.iadd, 1) := by decide +kernel
theorem dL_law_349 : decode cL_law 349 = .ok (.iaload, 1) := by decide +kernel
theorem dL_law_350 : decode cL_law 350 = .ok (.invokevirtual 32, 3) := by decide +kernel
theorem dL_law_353 : decode cL_law 353 = .ok (.aload_n 2, 1) := by decide +kernel
theorem dL_law_354 : decode cL_law 354 = .ok (.aload_n 0, 1) := by decide +kernel
theorem dL_law_355 : decode cL_law 355 = .ok (.iload_n 3, 1) := by decide +kernel
theorem dL_law_356 : decode cL_law 356 = .ok (.iconst 1, 1) := by decide +kernel
theorem dL_law_357 : decode cL_law 357 = .ok (.iadd, 1) := by decide +kernel
theorem dL_law_358 : decode cL_law 358 = .ok (.iaload, 1) := by decide +kernel
theorem dL_law_359 : decode cL_law 359 = .ok (.invokevirtual 35, 3) := by decide +kernel
theorem dL_law_362 : decode cL_law 362 = .ok (.if_icmp .eq 1233, 3) := by decide +kernel
theorem dL_law_365 : decode cL_law 365 = .ok (.iconst 0, 1) := by decide +kernel
theorem dL_law_366 : decode cL_law 366 = .ok (.ireturn, 1) := by decide +kernel
theorem dL_law_367 : decode cL_law 367 = .ok (.aload_n 1, 1) := by decide +kernel
theorem dL_law_368 : decode cL_law 368 = .ok (.aload_n 0, 1) := by decide +kernel
theorem dL_law_369 : decode cL_law 369 = .ok (.iload_n 3, 1) := by decide +kernel
theorem dL_law_370 : decode cL_law 370 = .ok (.iconst 1, 1) := by decide +kernel
theorem dL_law_371 : decode cL_law 371 = .ok (.iadd, 1) := by decide +kernel
theorem dL_law_372 : decode cL_law 372 = .ok (.iaload, 1) := by decide +kernel
theorem dL_law_373 : decode cL_law 373 = .ok (.aload_n 0, 1) := by decide +kernel
theorem dL_law_374 : decode cL_law 374 = .ok (.iload_n 3, 1) := by decide +kernel
theorem dL_law_375 : decode cL_law 375 = .ok (.iconst 2, 1) := by decide +kernel
theorem dL_law_376 : decode cL_law 376 = .ok (.iadd, 1) := by decide +kernel
theorem dL_law_377 : decode cL_law 377 = .ok (.iaload, 1) := by decide +kernel
theorem dL_law_378 : decode cL_law 378 = .ok (.aload_n 0, 1) := by decide +kernel
theorem dL_law_379 : decode cL_law 379 = .ok (.iload_n 3, 1) := by decide +kernel
theorem dL_law_380 : decode cL_law 380 = .ok (.iconst 3, 1) := by decide +kernel
theorem dL_law_381 : decode cL_law 381 = .ok (.iadd, 1) := by decide +kernel
theorem dL_law_382 : decode cL_law 382 = .ok (.iaload, 1) := by decide +kernel
theorem dL_law_383 : decode cL_law 383 = .ok (.invokevirtual 36, 3) := by decide +kernel
theorem dL_law_386 : decode cL_law 386 = .ok (.aload_n 2, 1) := by decide +kernel
theorem dL_law_387 : decode cL_law 387 = .ok (.aload_n 0, 1) := by decide +kernel
theorem dL_law_388 : decode cL_law 388 = .ok (.iload_n 3, 1) := by decide +kernel
theorem dL_law_389 : decode cL_law 389 = .ok (.iconst 1, 1) := by decide +kernel
theorem dL_law_390 : decode cL_law 390 = .ok (.iadd, 1) := by decide +kernel
theorem dL_law_391 : decode cL_law 391 = .ok (.iaload, 1) := by decide +kernel
theorem dL_law_392 : decode cL_law 392 = .ok (.aload_n 0, 1) := by decide +kernel
theorem dL_law_393 : decode cL_law 393 = .ok (.iload_n 3, 1) := by decide +kernel
theorem dL_law_394 : decode cL_law 394 = .ok (.iconst 2, 1) := by decide +kernel
theorem dL_law_395 : decode cL_law 395 = .ok (.iadd, 1) := by decide +kernel
theorem dL_law_396 : decode cL_law 396 = .ok (.iaload, 1) := by decide +kernel
theorem dL_law_397 : decode cL_law 397 = .ok (.aload_n 0, 1) := by decide +kernel
theorem dL_law_398 : decode cL_law 398 = .ok (.iload_n 3, 1) := by decide +kernel
theorem dL_law_399 : decode cL_law 399 = .ok (.iconst 3, 1) := by decide +kernel
theorem dL_law_400 : decode cL_law 400 = .ok (.iadd, 1) := by decide +kernel
theorem dL_law_401 : decode cL_law 401 = .ok (.iaload, 1) := by decide +kernel
theorem dL_law_402 : decode cL_law 402 = .ok (.invokevirtual 39, 3) := by decide +kernel
theorem dL_law_405 : decode cL_law 405 = .ok (.if_icmp .eq 1190, 3) := by decide +kernel
theorem dL_law_408 : decode cL_law 408 = .ok (.iconst 0, 1) := by decide +kernel
theorem dL_law_409 : decode cL_law 409 = .ok (.ireturn, 1) := by decide +kernel
theorem dL_law_410 : decode cL_law 410 = .ok (.aload_n 1, 1) := by decide +kernel
theorem dL_law_411 : decode cL_law 411 = .ok (.aload_n 0, 1) := by decide +kernel
theorem dL_law_412 : decode cL_law 412 = .ok (.iload_n 3, 1) := by decide +kernel
theorem dL_law_413 : decode cL_law 413 = .ok (.iconst 1, 1) := by decide +kernel
theorem dL_law_414 : decode cL_law 414 = .ok (.iadd, 1) := by decide +kernel
theorem dL_law_415 : decode cL_law 415 = .ok (.iaload, 1) := by decide +kernel
theorem dL_law_416 : decode cL_law 416 = .ok (.aload_n 0, 1) := by decide +kernel
theorem dL_law_417 : decode cL_law 417 = .ok (.iload_n 3, 1) := by decide +kernel
theorem dL_law_418 : decode cL_law 418 = .ok (.iconst 2, 1) := by decide +kernel
theorem dL_law_419 : decode cL_law 419 = .ok (.iadd, 1) := by decide +kernel
theorem dL_law_420 : decode cL_law 420 = .ok (.iaload, 1) := by decide +kernel
theorem dL_law_421 : decode cL_law 421 = .ok (.invokevirtual 40, 3) := by decide +kernel
theorem dL_law_424 : decode cL_law 424 = .ok (.aload_n 2, 1) := by decide +kernel
theorem dL_law_425 : decode cL_law 425 = .ok (.aload_n 0, 1) := by decide +kernel
theorem dL_law_426 : decode cL_law 426 = .ok (.iload_n 3, 1) := by decide +kernel
theorem dL_law_427 : decode cL_law 427 = .ok (.iconst 1, 1) := by decide +kernel
theorem dL_law_428 : decode cL_law 428 = .ok (.iadd, 1) := by decide +kernel
theorem dL_law_429 : decode cL_law 429 = .ok (.iaload, 1) := by decide +kernel
theorem dL_law_430 : decode cL_law 430 = .ok (.aload_n 0, 1) := by decide +kernel
theorem dL_law_431 : decode cL_law 431 = .ok (.iload_n 3, 1) := by decide +kernel
theorem dL_law_432 : decode cL_law 432 = .ok (.iconst 2, 1) := by decide +kernel
theorem dL_law_433 : decode cL_law 433 = .ok (.iadd, 1) := by decide +kernel
theorem dL_law_434 : decode cL_law 434 = .ok (.iaload, 1) := by decide +kernel
theorem dL_law_435 : decode cL_law 435 = .ok (.invokevirtual 43, 3) := by decide +kernel
theorem dL_law_438 : decode cL_law 438 = .ok (.if_icmp .eq 1157, 3) := by decide +kernel
theorem dL_law_441 : decode cL_law 441 = .ok (.iconst 0, 1) := by decide +kernel
theorem dL_law_442 : decode cL_law 442 = .ok (.ireturn, 1) := by decide +kernel
theorem dL_law_443 : decode cL_law 443 = .ok (.aload_n 1, 1) := by decide +kernel
theorem dL_law_444 : decode cL_law 444 = .ok (.aload_n 0, 1) := by decide +kernel
theorem dL_law_445 : decode cL_law 445 = .ok (.iload_n 3, 1) := by decide +kernel
theorem dL_law_446 : decode cL_law 446 = .ok (.iconst 1, 1) := by decide +kernel
theorem dL_law_447 : decode cL_law 447 = .ok (.iadd, 1) := by decide +kernel
theorem dL_law_448 : decode cL_law 448 = .ok (.iaload, 1) := by decide +kernel
theorem dL_law_449 : decode cL_law 449 = .ok (.aload_n 0, 1) := by decide +kernel
theorem dL_law_450 : decode cL_law 450 = .ok (.iload_n 3, 1) := by decide +kernel
theorem dL_law_451 : decode cL_law 451 = .ok (.iconst 2, 1) := by decide +kernel
theorem dL_law_452 : decode cL_law 452 = .ok (.iadd, 1) := by decide +kernel
theorem dL_law_453 : decode cL_law 453 = .ok (.iaload, 1) := by decide +kernel
theorem dL_law_454 : decode cL_law 454 = .ok (.aload_n 0, 1) := by decide +kernel
theorem dL_law_455 : decode cL_law 455 = .ok (.iload_n 3, 1) := by decide +kernel
theorem dL_law_456 : decode cL_law 456 = .ok (.iconst 3, 1) := by decide +kernel
theorem dL_law_457 : decode cL_law 457 = .ok (.iadd, 1) := by decide +kernel
theorem dL_law_458 : decode cL_law 458 = .ok (.iaload, 1) := by decide +kernel
theorem dL_law_459 : decode cL_law 459 = .ok (.invokevirtual 44, 3) := by decide +kernel
theorem dL_law_462 : decode cL_law 462 = .ok (.aload_n 2, 1) := by decide +kernel
theorem dL_law_463 : decode cL_law 463 = .ok (.aload_n 0, 1) := by decide +kernel
theorem dL_law_464 : decode cL_law 464 = .ok (.iload_n 3, 1) := by decide +kernel
theorem dL_law_465 : decode cL_law 465 = .ok (.iconst 1, 1) := by decide +kernel
theorem dL_law_466 : decode cL_law 466 = .ok (.iadd, 1) := by decide +kernel
theorem dL_law_467 : decode cL_law 467 = .ok (.iaload, 1) := by decide +kernel
theorem dL_law_468 : decode cL_law 468 = .ok (.aload_n 0, 1) := by decide +kernel
theorem dL_law_469 : decode cL_law 469 = .ok (.iload_n 3, 1) := by decide +kernel
theorem dL_law_470 : decode cL_law 470 = .ok (.iconst 2, 1) := by decide +kernel
theorem dL_law_471 : decode cL_law 471 = .ok (.iadd, 1) := by decide +kernel
theorem dL_law_472 : decode cL_law 472 = .ok (.iaload, 1) := by decide +kernel
theorem dL_law_473 : decode cL_law 473 = .ok (.aload_n 0, 1) := by decide +kernel
theorem dL_law_474 : decode cL_law 474 = .ok (.iload_n 3, 1) := by decide +kernel
theorem dL_law_475 : decode cL_law 475 = .ok (.iconst 3, 1) := by decide +kernel
theorem dL_law_476 : decode cL_law 476 = .ok (.iadd, 1) := by decide +kernel
theorem dL_law_477 : decode cL_law 477 = .ok (.iaload, 1) := by decide +kernel
theorem dL_law_478 : decode cL_law 478 = .ok (.invokevirtual 47, 3) := by decide +kernel
theorem dL_law_481 : decode cL_law 481 = .ok (.if_icmp .eq 1114, 3) := by decide +kernel
theorem dL_law_484 : decode cL_law 484 = .ok (.iconst 0, 1) := by decide +kernel
theorem dL_law_485 : decode cL_law 485 = .ok (.ireturn, 1) := by decide +kernel
theorem dL_law_486 : decode cL_law 486 = .ok (.aload_n 1, 1) := by decide +kernel
theorem dL_law_487 : decode cL_law 487 = .ok (.aload_n 0, 1) := by decide +kernel
theorem dL_law_488 : decode cL_law 488 = .ok (.iload_n 3, 1) := by decide +kernel
theorem dL_law_489 : decode cL_law 489 = .ok (.iconst 1, 1) := by decide +kernel
theorem dL_law_490 : decode cL_law 490 = .ok (.iadd, 1) := by decide +kernel
theorem dL_law_491 : decode cL_law 491 = .ok (.iaload, 1) := by decide +kernel
theorem dL_law_492 : decode cL_law 492 = .ok (.aload_n 0, 1) := by decide +kernel
theorem dL_law_493 : decode cL_law 493 = .ok (.iload_n 3, 1) := by decide +kernel
theorem dL_law_494 : decode cL_law 494 = .ok (.iconst 2, 1) := by decide +kernel
theorem dL_law_495 : decode cL_law 495 = .ok (.iadd, 1) := by decide +kernel
theorem dL_law_496 : decode cL_law 496 = .ok (.iaload, 1) := by decide +kernel
theorem dL_law_497 : decode cL_law 497 = .ok (.invokevirtual 48, 3) := by decide +kernel
theorem dL_law_500 : decode cL_law 500 = .ok (.aload_n 2, 1) := by decide +kernel
theorem dL_law_501 : decode cL_law 501 = .ok (.aload_n 0, 1) := by decide +kernel
theorem dL_law_502 : decode cL_law 502 = .ok (.iload_n 3, 1) := by decide +kernel
theorem dL_law_503 : decode cL_law 503 = .ok (.iconst 1, 1) := by decide +kernel
theorem dL_law_504 : decode cL_law 504 = .ok (.iadd, 1) := by decide +kernel
theorem dL_law_505 : decode cL_law 505 = .ok (.iaload, 1) := by decide +kernel
theorem dL_law_506 : decode cL_law 506 = .ok (.aload_n 0, 1) := by decide +kernel
theorem dL_law_507 : decode cL_law 507 = .ok (.iload_n 3, 1) := by decide +kernel
theorem dL_law_508 : decode cL_law 508 = .ok (.iconst 2, 1) := by decide +kernel
theorem dL_law_509 : decode cL_law 509 = .ok (.iadd, 1) := by decide +kernel
theorem dL_law_510 : decode cL_law 510 = .ok (.iaload, 1) := by decide +kernel
theorem dL_law_511 : decode cL_law 511 = .ok (.invokevirtual 51, 3) := by decide +kernel
theorem dL_law_514 : decode cL_law 514 = .ok (.if_icmp .eq 1081, 3) := by decide +kernel
theorem dL_law_517 : decode cL_law 517 = .ok (.iconst 0, 1) := by decide +kernel
theorem dL_law_518 : decode cL_law 518 = .ok (.ireturn, 1) := by decide +kernel
theorem dL_law_519 : decode cL_law 519 = .ok (.aload_n 1, 1) := by decide +kernel
theorem dL_law_520 : decode cL_law 520 = .ok (.aload_n 0, 1) := by decide +kernel
theorem dL_law_521 : decode cL_law 521 = .ok (.iload_n 3, 1) := by decide +kernel
theorem dL_law_522 : decode cL_law 522 = .ok (.iconst 1, 1) := by decide +kernel
theorem dL_law_523 : decode cL_law 523 = .ok (.iadd, 1) := by decide +kernel
theorem dL_law_524 : decode cL_law 524 = .ok (.iaload, 1) := by decide +kernel
theorem dL_law_525 : decode cL_law 525 = .ok (.aload_n 0, 1) := by decide +kernel
theorem dL_law_526 : decode cL_law 526 = .ok (.iload_n 3, 1) := by decide +kernel
theorem dL_law_527 : decode cL_law 527 = .ok (.iconst 2, 1) := by decide +kernel
theorem dL_law_528 : decode cL_law 528 = .ok (.iadd, 1) := by decide +kernel
theorem dL_law_529 : decode cL_law 529 = .ok (.iaload, 1) := by decide +kernel
theorem dL_law_530 : decode cL_law 530 = .ok (.invokevirtual 52, 3) := by decide +kernel
theorem dL_law_533 : decode cL_law 533 = .ok (.aload_n 2, 1) := by decide +kernel
theorem dL_law_534 : decode cL_law 534 = .ok (.aload_n 0, 1) := by decide +kernel
theorem dL_law_535 : decode cL_law 535 = .ok (.iload_n 3, 1) := by decide +kernel
theorem dL_law_536 : decode cL_law 536 = .ok (.iconst 1, 1) := by decide +kernel
theorem dL_law_537 : decode cL_law 537 = .ok (.iadd, 1) := by decide +kernel
theorem dL_law_538 : decode cL_law 538 = .ok (.iaload, 1) := by decide +kernel
theorem dL_law_539 : decode cL_law 539 = .ok (.aload_n 0, 1) := by decide +kernel
theorem dL_law_540 : decode cL_law 540 = .ok (.iload_n 3, 1) := by decide +kernel
theorem dL_law_541 : decode cL_law 541 = .ok (.iconst 2, 1) := by decide +kernel
theorem dL_law_542 : decode cL_law 542 = .ok (.iadd, 1) := by decide +kernel
theorem dL_law_543 : decode cL_law 543 = .ok (.iaload, 1) := by decide +kernel
theorem dL_law_544 : decode cL_law 544 = .ok (.invokevirtual 55, 3) := by decide +kernel
theorem dL_law_547 : decode cL_law 547 = .ok (.if_icmp .eq 1048, 3) := by decide +kernel
theorem dL_law_550 : decode cL_law 550 = .ok (.iconst 0, 1) := by decide +kernel
theorem dL_law_551 : decode cL_law 551 = .ok (.ireturn, 1) := by decide +kernel
theorem dL_law_552 : decode cL_law 552 = .ok (.aload_n 1, 1) := by decide +kernel
theorem dL_law_553 : decode cL_law 553 = .ok (.aload_n 0, 1) := by decide +kernel
theorem dL_law_554 : decode cL_law 554 = .ok (.iload_n 3, 1) := by decide +kernel
theorem dL_law_555 : decode cL_law 555 = .ok (.iconst 1, 1) := by decide +kernel
theorem dL_law_556 : decode cL_law 556 = .ok (.iadd, 1) := by decide +kernel
theorem dL_law_557 : decode cL_law 557 = .ok (.iaload, 1) := by decide +kernel
theorem dL_law_558 : decode cL_law 558 = .ok (.aload_n 0, 1) := by decide +kernel
theorem dL_law_559 : decode cL_law 559 = .ok (.iload_n 3, 1) := by decide +kernel
theorem dL_law_560 : decode cL_law 560 = .ok (.iconst 2, 1) := by decide +kernel
theorem dL_law_561 : decode cL_law 561 = .ok (.iadd, 1) := by decide +kernel
theorem dL_law_562 : decode cL_law 562 = .ok (.iaload, 1) := by decide +kernel
theorem dL_law_563 : decode cL_law 563 = .ok (.invokevirtual 56, 3) := by decide +kernel
theorem dL_law_566 : decode cL_law 566 = .ok (.aload_n 2, 1) := by decide +kernel
theorem dL_law_567 : decode cL_law 567 = .ok (.aload_n 0, 1) := by decide +kernel
theorem dL_law_568 : decode cL_law 568 = .ok (.iload_n 3, 1) := by decide +kernel
theorem dL_law_569 : decode cL_law 569 = .ok (.iconst 1, 1) := by decide +kernel
theorem dL_law_570 : decode cL_law 570 = .ok (.iadd, 1) := by decide +kernel
theorem dL_law_571 : decode cL_law 571 = .ok (.iaload, 1) := by decide +kernel
theorem dL_law_572 : decode cL_law 572 = .ok (.aload_n 0, 1) := by decide +kernel
theorem dL_law_573 : decode cL_law 573 = .ok (.iload_n 3, 1) := by decide +kernel
theorem dL_law_574 : decode cL_law 574 = .ok (.iconst 2, 1) := by decide +kernel
theorem dL_law_575 : decode cL_law 575 = .ok (.iadd, 1) := by decide +kernel
theorem dL_law_576 : decode cL_law 576 = .ok (.iaload, 1) := by decide +kernel
theorem dL_law_577 : decode cL_law 577 = .ok (.invokevirtual 59, 3) := by decide +kernel
theorem dL_law_580 : decode cL_law 580 = .ok (.if_icmp .eq 1015, 3) := by decide +kernel
theorem dL_law_583 : decode cL_law 583 = .ok (.iconst 0, 1) := by decide +kernel
theorem dL_law_584 : decode cL_law 584 = .ok (.ireturn, 1) := by decide +kernel
theorem dL_law_585 : decode cL_law 585 = .ok (.aload_n 1, 1) := by decide +kernel
theorem dL_law_586 : decode cL_law 586 = .ok (.aload_n 0, 1) := by decide +kernel
theorem dL_law_587 : decode cL_law 587 = .ok (.iload_n 3, 1) := by decide +kernel
theorem dL_law_588 : decode cL_law 588 = .ok (.iconst 1, 1) := by decide +kernel
theorem dL_law_589 : decode cL_law 589 = .ok (.iadd, 1) := by decide +kernel
theorem dL_law_590 : decode cL_law 590 = .ok (.iaload, 1) := by decide +kernel
theorem dL_law_591 : decode cL_law 591 = .ok (.aload_n 0, 1) := by decide +kernel
theorem dL_law_592 : decode cL_law 592 = .ok (.iload_n 3, 1) := by decide +kernel
theorem dL_law_593 : decode cL_law 593 = .ok (.iconst 2, 1) := by decide +kernel
theorem dL_law_594 : decode cL_law 594 = .ok (.iadd, 1) := by decide +kernel
theorem dL_law_595 : decode cL_law 595 = .ok (.iaload, 1) := by decide +kernel
theorem dL_law_596 : decode cL_law 596 = .ok (.invokevirtual 60, 3) := by decide +kernel
theorem dL_law_599 : decode cL_law 599 = .ok (.aload_n 2, 1) := by decide +kernel
theorem dL_law_600 : decode cL_law 600 = .ok (.aload_n 0, 1) := by decide +kernel
theorem dL_law_601 : decode cL_law 601 = .ok (.iload_n 3, 1) := by decide +kernel
theorem dL_law_602 : decode cL_law 602 = .ok (.iconst 1, 1) := by decide +kernel
theorem dL_law_603 : decode cL_law 603 = .ok (.iadd, 1) := by decide +kernel
theorem dL_law_604 : decode cL_law 604 = .ok (.iaload, 1) := by decide +kernel
theorem dL_law_605 : decode cL_law 605 = .ok (.aload_n 0, 1) := by decide +kernel
theorem dL_law_606 : decode cL_law 606 = .ok (.iload_n 3, 1) := by decide +kernel
theorem dL_law_607 : decode cL_law 607 = .ok (.iconst 2, 1) := by decide +kernel
theorem dL_law_608 : decode cL_law 608 = .ok (.iadd, 1) := by decide +kernel
theorem dL_law_609 : decode cL_law 609 = .ok (.iaload, 1) := by decide +kernel
theorem dL_law_610 : decode cL_law 610 = .ok (.invokevirtual 63, 3) := by decide +kernel
theorem dL_law_613 : decode cL_law 613 = .ok (.if_icmp .eq 982, 3) := by decide +kernel
theorem dL_law_616 : decode cL_law 616 = .ok (.iconst 0, 1) := by decide +kernel
theorem dL_law_617 : decode cL_law 617 = .ok (.ireturn, 1) := by decide +kernel
theorem dL_law_618 : decode cL_law 618 = .ok (.aload_n 1, 1) := by decide +kernel
theorem dL_law_619 : decode cL_law 619 = .ok (.aload_n 0, 1) := by decide +kernel
theorem dL_law_620 : decode cL_law 620 = .ok (.iload_n 3, 1) := by decide +kernel
theorem dL_law_621 : decode cL_law 621 = .ok (.iconst 1, 1) := by decide +kernel
theorem dL_law_622 : decode cL_law 622 = .ok (.iadd, 1) := by decide +kernel
theorem dL_law_623 : decode cL_law 623 = .ok (.iaload, 1) := by decide +kernel
theorem dL_law_624 : decode cL_law 624 = .ok (.aload_n 0, 1) := by decide +kernel
theorem dL_law_625 : decode cL_law 625 = .ok (.iload_n 3, 1) := by decide +kernel
theorem dL_law_626 : decode cL_law 626 = .ok (.iconst 2, 1) := by decide +kernel
theorem dL_law_627 : decode cL_law 627 = .ok (.iadd, 1) := by decide +kernel
theorem dL_law_628 : decode cL_law 628 = .ok (.iaload, 1) := by decide +kernel
theorem dL_law_629 : decode cL_law 629 = .ok (.aload_n 0, 1) := by decide +kernel
theorem dL_law_630 : decode cL_law 630 = .ok (.iload_n 3, 1) := by decide +kernel
theorem dL_law_631 : decode cL_law 631 = .ok (.iconst 3, 1) := by decide +kernel
theorem dL_law_632 : decode cL_law 632 = .ok (.iadd, 1) := by decide +kernel
theorem dL_law_633 : decode cL_law 633 = .ok (.iaload, 1) := by decide +kernel
theorem dL_law_634 : decode cL_law 634 = .ok (.invokevirtual 64, 3) := by decide +kernel
theorem dL_law_637 : decode cL_law 637 = .ok (.aload_n 2, 1) := by decide +kernel
theorem dL_law_638 : decode cL_law 638 = .ok (.aload_n 0, 1) := by decide +kernel
theorem dL_law_639 : decode cL_law 639 = .ok (.iload_n 3, 1) := by decide +kernel
theorem dL_law_640 : decode cL_law 640 = .ok (.iconst 1, 1) := by decide +kernel
theorem dL_law_641 : decode cL_law 641 = .ok (.iadd, 1) := by decide +kernel
theorem dL_law_642 : decode cL_law 642 = .ok (.iaload, 1) := by decide +kernel
theorem dL_law_643 : decode cL_law 643 = .ok (.aload_n 0, 1) := by decide +kernel
theorem dL_law_644 : decode cL_law 644 = .ok (.iload_n 3, 1) := by decide +kernel
theorem dL_law_645 : decode cL_law 645 = .ok (.iconst 2, 1) := by decide +kernel
theorem dL_law_646 : decode cL_law 646 = .ok (.iadd, 1) := by decide +kernel
theorem dL_law_647 : decode cL_law 647 = .ok (.iaload, 1) := by decide +kernel
theorem dL_law_648 : decode cL_law 648 = .ok (.aload_n 0, 1) := by decide +kernel
theorem dL_law_649 : decode cL_law 649 = .ok (.iload_n 3, 1) := by decide +kernel
theorem dL_law_650 : decode cL_law 650 = .ok (.iconst 3, 1) := by decide +kernel
theorem dL_law_651 : decode cL_law 651 = .ok (.iadd, 1) := by decide +kernel
theorem dL_law_652 : decode cL_law 652 = .ok (.iaload, 1) := by decide +kernel
theorem dL_law_653 : decode cL_law 653 = .ok (.invokevirtual 67, 3) := by decide +kernel
theorem dL_law_656 : decode cL_law 656 = .ok (.if_icmp .eq 939, 3) := by decide +kernel
theorem dL_law_659 : decode cL_law 659 = .ok (.iconst 0, 1) := by decide +kernel
theorem dL_law_660 : decode cL_law 660 = .ok (.ireturn, 1) := by decide +kernel
theorem dL_law_661 : decode cL_law 661 = .ok (.aload_n 1, 1) := by decide +kernel
theorem dL_law_662 : decode cL_law 662 = .ok (.aload_n 0, 1) := by decide +kernel
theorem dL_law_663 : decode cL_law 663 = .ok (.iload_n 3, 1) := by decide +kernel
theorem dL_law_664 : decode cL_law 664 = .ok (.iconst 1, 1) := by decide +kernel
theorem dL_law_665 : decode cL_law 665 = .ok (.iadd, 1) := by decide +kernel
theorem dL_law_666 : decode cL_law 666 = .ok (.iaload, 1) := by decide +kernel
theorem dL_law_667 : decode cL_law 667 = .ok (.i2l, 1) := by decide +kernel
theorem dL_law_668 : decode cL_law 668 = .ok (.bipush 32, 2) := by decide +kernel
theorem dL_law_670 : decode cL_law 670 = .ok (.lshl, 1) := by decide +kernel
theorem dL_law_671 : decode cL_law 671 = .ok (.aload_n 0, 1) := by decide +kernel
theorem dL_law_672 : decode cL_law 672 = .ok (.iload_n 3, 1) := by decide +kernel
theorem dL_law_673 : decode cL_law 673 = .ok (.iconst 2, 1) := by decide +kernel
theorem dL_law_674 : decode cL_law 674 = .ok (.iadd, 1) := by decide +kernel
theorem dL_law_675 : decode cL_law 675 = .ok (.iaload, 1) := by decide +kernel
theorem dL_law_676 : decode cL_law 676 = .ok (.i2l, 1) := by decide +kernel
theorem dL_law_677 : decode cL_law 677 = .ok (.ldc2_w 68, 3) := by decide +kernel
theorem dL_law_680 : decode cL_law 680 = .ok (.land, 1) := by decide +kernel
theorem dL_law_681 : decode cL_law 681 = .ok (.lor, 1) := by decide +kernel
theorem dL_law_682 : decode cL_law 682 = .ok (.aload_n 0, 1) := by decide +kernel
theorem dL_law_683 : decode cL_law 683 = .ok (.iload_n 3, 1) := by decide +kernel
theorem dL_law_684 : decode cL_law 684 = .ok (.iconst 3, 1) := by decide +kernel
theorem dL_law_685 : decode cL_law 685 = .ok (.iadd, 1) := by decide +kernel
theorem dL_law_686 : decode cL_law 686 = .ok (.iaload, 1) := by decide +kernel
theorem dL_law_687 : decode cL_law 687 = .ok (.invokevirtual 70, 3) := by decide +kernel
theorem dL_law_690 : decode cL_law 690 = .ok (.aload_n 2, 1) := by decide +kernel
theorem dL_law_691 : decode cL_law 691 = .ok (.aload_n 0, 1) := by decide +kernel
theorem dL_law_692 : decode cL_law 692 = .ok (.iload_n 3, 1) := by decide +kernel
theorem dL_law_693 : decode cL_law 693 = .ok (.iconst 1, 1) := by decide +kernel
theorem dL_law_694 : decode cL_law 694 = .ok (.iadd, 1) := by decide +kernel
theorem dL_law_695 : decode cL_law 695 = .ok (.iaload, 1) := by decide +kernel
theorem dL_law_696 : decode cL_law 696 = .ok (.i2l, 1) := by decide +kernel
theorem dL_law_697 : decode cL_law 697 = .ok (.bipush 32, 2) := by decide +kernel
theorem dL_law_699 : decode cL_law 699 = .ok (.lshl, 1) := by decide +kernel
theorem dL_law_700 : decode cL_law 700 = .ok (.aload_n 0, 1) := by decide +kernel
theorem dL_law_701 : decode cL_law 701 = .ok (.iload_n 3, 1) := by decide +kernel
theorem dL_law_702 : decode cL_law 702 = .ok (.iconst 2, 1) := by decide +kernel
theorem dL_law_703 : decode cL_law 703 = .ok (.iadd, 1) := by decide +kernel
theorem dL_law_704 : decode cL_law 704 = .ok (.iaload, 1) := by decide +kernel
theorem dL_law_705 : decode cL_law 705 = .ok (.i2l, 1) := by decide +kernel
theorem dL_law_706 : decode cL_law 706 = .ok (.ldc2_w 68, 3) := by decide +kernel
theorem dL_law_709 : decode cL_law 709 = .ok (.land, 1) := by decide +kernel
theorem dL_law_710 : decode cL_law 710 = .ok (.lor, 1) := by decide +kernel
theorem dL_law_711 : decode cL_law 711 = .ok (.aload_n 0, 1) := by decide +kernel
theorem dL_law_712 : decode cL_law 712 = .ok (.iload_n 3, 1) := by decide +kernel
theorem dL_law_713 : decode cL_law 713 = .ok (.iconst 3, 1) := by decide +kernel
theorem dL_law_714 : decode cL_law 714 = .ok (.iadd, 1) := by decide +kernel
theorem dL_law_715 : decode cL_law 715 = .ok (.iaload, 1) := by decide +kernel
theorem dL_law_716 : decode cL_law 716 = .ok (.invokevirtual 74, 3) := by decide +kernel
theorem dL_law_719 : decode cL_law 719 = .ok (.if_icmp .eq 876, 3) := by decide +kernel
theorem dL_law_722 : decode cL_law 722 = .ok (.iconst 0, 1) := by decide +kernel
theorem dL_law_723 : decode cL_law 723 = .ok (.ireturn, 1) := by decide +kernel
theorem dL_law_724 : decode cL_law 724 = .ok (.aload_n 1, 1) := by decide +kernel
theorem dL_law_725 : decode cL_law 725 = .ok (.aload_n 0, 1) := by decide +kernel
theorem dL_law_726 : decode cL_law 726 = .ok (.iload_n 3, 1) := by decide +kernel
theorem dL_law_727 : decode cL_law 727 = .ok (.iconst 1, 1) := by decide +kernel
theorem dL_law_728 : decode cL_law 728 = .ok (.iadd, 1) := by decide +kernel
theorem dL_law_729 : decode cL_law 729 = .ok (.iaload, 1) := by decide +kernel
theorem dL_law_730 : decode cL_law 730 = .ok (.invokevirtual 75, 3) := by decide +kernel
theorem dL_law_733 : decode cL_law 733 = .ok (.aload_n 2, 1) := by decide +kernel
theorem dL_law_734 : decode cL_law 734 = .ok (.aload_n 0, 1) := by decide +kernel
theorem dL_law_735 : decode cL_law 735 = .ok (.iload_n 3, 1) := by decide +kernel
theorem dL_law_736 : decode cL_law 736 = .ok (.iconst 1, 1) := by decide +kernel
theorem dL_law_737 : decode cL_law 737 = .ok (.iadd, 1) := by decide +kernel
theorem dL_law_738 : decode cL_law 738 = .ok (.iaload, 1) := by decide +kernel
theorem dL_law_739 : decode cL_law 739 = .ok (.invokevirtual 78, 3) := by decide +kernel
theorem dL_law_742 : decode cL_law 742 = .ok (.if_icmp .eq 853, 3) := by decide +kernel
theorem dL_law_745 : decode cL_law 745 = .ok (.iconst 0, 1) := by decide +kernel
theorem dL_law_746 : decode cL_law 746 = .ok (.ireturn, 1) := by decide +kernel
theorem dL_law_747 : decode cL_law 747 = .ok (.aload_n 1, 1) := by decide +kernel
theorem dL_law_748 : decode cL_law 748 = .ok (.aload_n 0, 1) := by decide +kernel
theorem dL_law_749 : decode cL_law 749 = .ok (.iload_n 3, 1) := by decide +kernel
theorem dL_law_750 : decode cL_law 750 = .ok (.iconst 1, 1) := by decide +kernel
theorem dL_law_751 : decode cL_law 751 = .ok (.iadd, 1) := by decide +kernel
theorem dL_law_752 : decode cL_law 752 = .ok (.iaload, 1) := by decide +kernel
theorem dL_law_753 : decode cL_law 753 = .ok (.aload_n 0, 1) := by decide +kernel
theorem dL_law_754 : decode cL_law 754 = .ok (.iload_n 3, 1) := by decide +kernel
theorem dL_law_755 : decode cL_law 755 = .ok (.iconst 2, 1) := by decide +kernel
theorem dL_law_756 : decode cL_law 756 = .ok (.iadd, 1) := by decide +kernel
theorem dL_law_757 : decode cL_law 757 = .ok (.iaload, 1) := by decide +kernel
theorem dL_law_758 : decode cL_law 758 = .ok (.aload_n 0, 1) := by decide +kernel
theorem dL_law_759 : decode cL_law 759 = .ok (.iload_n 3, 1) := by decide +kernel
theorem dL_law_760 : decode cL_law 760 = .ok (.iconst 3, 1) := by decide +kernel
theorem dL_law_761 : decode cL_law 761 = .ok (.iadd, 1) := by decide +kernel
theorem dL_law_762 : decode cL_law 762 = .ok (.iaload, 1) := by decide +kernel
theorem dL_law_763 : decode cL_law 763 = .ok (.aload_n 0, 1) := by decide +kernel
theorem dL_law_764 : decode cL_law 764 = .ok (.iload_n 3, 1) := by decide +kernel
theorem dL_law_765 : decode cL_law 765 = .ok (.iconst 4, 1) := by decide +kernel
theorem dL_law_766 : decode cL_law 766 = .ok (.iadd, 1) := by decide +kernel
theorem dL_law_767 : decode cL_law 767 = .ok (.iaload, 1) := by decide +kernel
theorem dL_law_768 : decode cL_law 768 = .ok (.invokevirtual 79, 3) := by decide +kernel
theorem dL_law_771 : decode cL_law 771 = .ok (.aload_n 2, 1) := by decide +kernel
theorem dL_law_772 : decode cL_law 772 = .ok (.aload_n 0, 1) := by decide +kernel
theorem dL_law_773 : decode cL_law 773 = .ok (.iload_n 3, 1) := by decide +kernel
theorem dL_law_774 : decode cL_law 774 = .ok (.iconst 1, 1) := by decide +kernel
theorem dL_law_775 : decode cL_law 775 = .ok (.iadd, 1) := by decide +kernel
theorem dL_law_776 : decode cL_law 776 = .ok (.iaload, 1) := by decide +kernel
theorem dL_law_777 : decode cL_law 777 = .ok (.aload_n 0, 1) := by decide +kernel
theorem dL_law_778 : decode cL_law 778 = .ok (.iload_n 3, 1) := by decide +kernel
theorem dL_law_779 : decode cL_law 779 = .ok (.iconst 2, 1) := by decide +kernel
theorem dL_law_780 : decode cL_law 780 = .ok (.iadd, 1) := by decide +kernel
theorem dL_law_781 : decode cL_law 781 = .ok (.iaload, 1) := by decide +kernel
theorem dL_law_782 : decode cL_law 782 = .ok (.aload_n 0, 1) := by decide +kernel
theorem dL_law_783 : decode cL_law 783 = .ok (.iload_n 3, 1) := by decide +kernel
theorem dL_law_784 : decode cL_law 784 = .ok (.iconst 3, 1) := by decide +kernel
theorem dL_law_785 : decode cL_law 785 = .ok (.iadd, 1) := by decide +kernel
theorem dL_law_786 : decode cL_law 786 = .ok (.iaload, 1) := by decide +kernel
theorem dL_law_787 : decode cL_law 787 = .ok (.aload_n 0, 1) := by decide +kernel
theorem dL_law_788 : decode cL_law 788 = .ok (.iload_n 3, 1) := by decide +kernel
theorem dL_law_789 : decode cL_law 789 = .ok (.iconst 4, 1) := by decide +kernel
theorem dL_law_790 : decode cL_law 790 = .ok (.iadd, 1) := by decide +kernel
theorem dL_law_791 : decode cL_law 791 = .ok (.iaload, 1) := by decide +kernel
theorem dL_law_792 : decode cL_law 792 = .ok (.invokevirtual 83, 3) := by decide +kernel
theorem dL_law_795 : decode cL_law 795 = .ok (.if_icmp .eq 800, 3) := by decide +kernel
theorem dL_law_798 : decode cL_law 798 = .ok (.iconst 0, 1) := by decide +kernel
theorem dL_law_799 : decode cL_law 799 = .ok (.ireturn, 1) := by decide +kernel
theorem dL_law_800 : decode cL_law 800 = .ok (.aload_n 1, 1) := by decide +kernel
theorem dL_law_801 : decode cL_law 801 = .ok (.aload_n 0, 1) := by decide +kernel
theorem dL_law_802 : decode cL_law 802 = .ok (.iload_n 3, 1) := by decide +kernel
theorem dL_law_803 : decode cL_law 803 = .ok (.iconst 1, 1) := by decide +kernel
theorem dL_law_804 : decode cL_law 804 = .ok (.iadd, 1) := by decide +kernel
theorem dL_law_805 : decode cL_law 805 = .ok (.iaload, 1) := by decide +kernel
theorem dL_law_806 : decode cL_law 806 = .ok (.invokevirtual 84, 3) := by decide +kernel
theorem dL_law_809 : decode cL_law 809 = .ok (.aload_n 2, 1) := by decide +kernel
theorem dL_law_810 : decode cL_law 810 = .ok (.aload_n 0, 1) := by decide +kernel
theorem dL_law_811 : decode cL_law 811 = .ok (.iload_n 3, 1) := by decide +kernel
theorem dL_law_812 : decode cL_law 812 = .ok (.iconst 1, 1) := by decide +kernel
theorem dL_law_813 : decode cL_law 813 = .ok (.iadd, 1) := by decide +kernel
theorem dL_law_814 : decode cL_law 814 = .ok (.iaload, 1) := by decide +kernel
theorem dL_law_815 : decode cL_law 815 = .ok (.invokevirtual 87, 3) := by decide +kernel
theorem dL_law_818 : decode cL_law 818 = .ok (.if_icmp .eq 777, 3) := by decide +kernel
theorem dL_law_821 : decode cL_law 821 = .ok (.iconst 0, 1) := by decide +kernel
theorem dL_law_822 : decode cL_law 822 = .ok (.ireturn, 1) := by decide +kernel
theorem dL_law_823 : decode cL_law 823 = .ok (.aload_n 1, 1) := by decide +kernel
theorem dL_law_824 : decode cL_law 824 = .ok (.aload_n 0, 1) := by decide +kernel
theorem dL_law_825 : decode cL_law 825 = .ok (.iload_n 3, 1) := by decide +kernel
theorem dL_law_826 : decode cL_law 826 = .ok (.iconst 1, 1) := by decide +kernel
theorem dL_law_827 : decode cL_law 827 = .ok (.iadd, 1) := by decide +kernel
theorem dL_law_828 : decode cL_law 828 = .ok (.iaload, 1) := by decide +kernel
theorem dL_law_829 : decode cL_law 829 = .ok (.invokevirtual 88, 3) := by decide +kernel
theorem dL_law_832 : decode cL_law 832 = .ok (.aload_n 2, 1) := by decide +kernel
theorem dL_law_833 : decode cL_law 833 = .ok (.aload_n 0, 1) := by decide +kernel
theorem dL_law_834 : decode cL_law 834 = .ok (.iload_n 3, 1) := by decide +kernel
theorem dL_law_835 : decode cL_law 835 = .ok (.iconst 1, 1) := by decide +kernel
theorem dL_law_836 : decode cL_law 836 = .ok (.iadd, 1) := by decide +kernel
theorem dL_law_837 : decode cL_law 837 = .ok (.iaload, 1) := by decide +kernel
theorem dL_law_838 : decode cL_law 838 = .ok (.invokevirtual 91, 3) := by decide +kernel
theorem dL_law_841 : decode cL_law 841 = .ok (.if_icmp .eq 754, 3) := by decide +kernel
theorem dL_law_844 : decode cL_law 844 = .ok (.iconst 0, 1) := by decide +kernel
theorem dL_law_845 : decode cL_law 845 = .ok (.ireturn, 1) := by decide +kernel
theorem dL_law_846 : decode cL_law 846 = .ok (.aload_n 1, 1) := by decide +kernel
theorem dL_law_847 : decode cL_law 847 = .ok (.aload_n 0, 1) := by decide +kernel
theorem dL_law_848 : decode cL_law 848 = .ok (.iload_n 3, 1) := by decide +kernel
theorem dL_law_849 : decode cL_law 849 = .ok (.iconst 1, 1) := by decide +kernel
theorem dL_law_850 : decode cL_law 850 = .ok (.iadd, 1) := by decide +kernel
theorem dL_law_851 : decode cL_law 851 = .ok (.iaload, 1) := by decide +kernel
theorem dL_law_852 : decode cL_law 852 = .ok (.aload_n 0, 1) := by decide +kernel
theorem dL_law_853 : decode cL_law 853 = .ok (.iload_n 3, 1) := by decide +kernel
theorem dL_law_854 : decode cL_law 854 = .ok (.iconst 2, 1) := by decide +kernel
theorem dL_law_855 : decode cL_law 855 = .ok (.iadd, 1) := by decide +kernel
theorem dL_law_856 : decode cL_law 856 = .ok (.iaload, 1) := by decide +kernel
theorem dL_law_857 : decode cL_law 857 = .ok (.invokevirtual 92, 3) := by decide +kernel
theorem dL_law_860 : decode cL_law 860 = .ok (.aload_n 2, 1) := by decide +kernel
theorem dL_law_861 : decode cL_law 861 = .ok (.aload_n 0, 1) := by decide +kernel
theorem dL_law_862 : decode cL_law 862 = .ok (.iload_n 3, 1) := by decide +kernel
theorem dL_law_863 : decode cL_law 863 = .ok (.iconst 1, 1) := by decide +kernel
theorem dL_law_864 : decode cL_law 864 = .ok (.iadd, 1) := by decide +kernel
theorem dL_law_865 : decode cL_law 865 = .ok (.iaload, 1) := by decide +kernel
theorem dL_law_866 : decode cL_law 866 = .ok (.aload_n 0, 1) := by decide +kernel
theorem dL_law_867 : decode cL_law 867 = .ok (.iload_n 3, 1) := by decide +kernel
theorem dL_law_868 : decode cL_law 868 = .ok (.iconst 2, 1) := by decide +kernel
theorem dL_law_869 : decode cL_law 869 = .ok (.iadd, 1) := by decide +kernel
theorem dL_law_870 : decode cL_law 870 = .ok (.iaload, 1) := by decide +kernel
theorem dL_law_871 : decode cL_law 871 = .ok (.invokevirtual 95, 3) := by decide +kernel
theorem dL_law_874 : decode cL_law 874 = .ok (.if_icmp .eq 721, 3) := by decide +kernel
theorem dL_law_877 : decode cL_law 877 = .ok (.iconst 0, 1) := by decide +kernel
theorem dL_law_878 : decode cL_law 878 = .ok (.ireturn, 1) := by decide +kernel
theorem dL_law_879 : decode cL_law 879 = .ok (.aload_n 1, 1) := by decide +kernel
theorem dL_law_880 : decode cL_law 880 = .ok (.aload_n 0, 1) := by decide +kernel
theorem dL_law_881 : decode cL_law 881 = .ok (.iload_n 3, 1) := by decide +kernel
theorem dL_law_882 : decode cL_law 882 = .ok (.iconst 1, 1) := by decide +kernel
theorem dL_law_883 : decode cL_law 883 = .ok (.iadd, 1) := by decide +kernel
theorem dL_law_884 : decode cL_law 884 = .ok (.iaload, 1) := by decide +kernel
theorem dL_law_885 : decode cL_law 885 = .ok (.aload_n 0, 1) := by decide +kernel
theorem dL_law_886 : decode cL_law 886 = .ok (.iload_n 3, 1) := by decide +kernel
theorem dL_law_887 : decode cL_law 887 = .ok (.iconst 2, 1) := by decide +kernel
theorem dL_law_888 : decode cL_law 888 = .ok (.iadd, 1) := by decide +kernel
theorem dL_law_889 : decode cL_law 889 = .ok (.iaload, 1) := by decide +kernel
theorem dL_law_890 : decode cL_law 890 = .ok (.invokevirtual 96, 3) := by decide +kernel
theorem dL_law_893 : decode cL_law 893 = .ok (.aload_n 2, 1) := by decide +kernel
theorem dL_law_894 : decode cL_law 894 = .ok (.aload_n 0, 1) := by decide +kernel
theorem dL_law_895 : decode cL_law 895 = .ok (.iload_n 3, 1) := by decide +kernel
theorem dL_law_896 : decode cL_law 896 = .ok (.iconst 1, 1) := by decide +kernel
theorem dL_law_897 : decode cL_law 897 = .ok (.iadd, 1) := by decide +kernel
theorem dL_law_898 : decode cL_law 898 = .ok (.iaload, 1) := by decide +kernel
theorem dL_law_899 : decode cL_law 899 = .ok (.aload_n 0, 1) := by decide +kernel
theorem dL_law_900 : decode cL_law 900 = .ok (.iload_n 3, 1) := by decide +kernel
theorem dL_law_901 : decode cL_law 901 = .ok (.iconst 2, 1) := by decide +kernel
theorem dL_law_902 : decode cL_law 902 = .ok (.iadd, 1) := by decide +kernel
theorem dL_law_903 : decode cL_law 903 = .ok (.iaload, 1) := by decide +kernel
theorem dL_law_904 : decode cL_law 904 = .ok (.invokevirtual 99, 3) := by decide +kernel
theorem dL_law_907 : decode cL_law 907 = .ok (.if_icmp .eq 688, 3) := by decide +kernel
theorem dL_law_910 : decode cL_law 910 = .ok (.iconst 0, 1) := by decide +kernel
theorem dL_law_911 : decode cL_law 911 = .ok (.ireturn, 1) := by decide +kernel
theorem dL_law_912 : decode cL_law 912 = .ok (.aload_n 1, 1) := by decide +kernel
theorem dL_law_913 : decode cL_law 913 = .ok (.aload_n 0, 1) := by decide +kernel
theorem dL_law_914 : decode cL_law 914 = .ok (.iload_n 3, 1) := by decide +kernel
theorem dL_law_915 : decode cL_law 915 = .ok (.iconst 1, 1) := by decide +kernel
theorem dL_law_916 : decode cL_law 916 = .ok (.iadd, 1) := by decide +kernel
theorem dL_law_917 : decode cL_law 917 = .ok (.iaload, 1) := by decide +kernel
theorem dL_law_918 : decode cL_law 918 = .ok (.aload_n 0, 1) := by decide +kernel
theorem dL_law_919 : decode cL_law 919 = .ok (.iload_n 3, 1) := by decide +kernel
theorem dL_law_920 : decode cL_law 920 = .ok (.iconst 2, 1) := by decide +kernel
theorem dL_law_921 : decode cL_law 921 = .ok (.iadd, 1) := by decide +kernel
theorem dL_law_922 : decode cL_law 922 = .ok (.iaload, 1) := by decide +kernel
theorem dL_law_923 : decode cL_law 923 = .ok (.aload_n 0, 1) := by decide +kernel
theorem dL_law_924 : decode cL_law 924 = .ok (.iload_n 3, 1) := by decide +kernel
theorem dL_law_925 : decode cL_law 925 = .ok (.iconst 3, 1) := by decide +kernel
theorem dL_law_926 : decode cL_law 926 = .ok (.iadd, 1) := by decide +kernel
theorem dL_law_927 : decode cL_law 927 = .ok (.iaload, 1) := by decide +kernel
theorem dL_law_928 : decode cL_law 928 = .ok (.aload_n 0, 1) := by decide +kernel
theorem dL_law_929 : decode cL_law 929 = .ok (.iload_n 3, 1) := by decide +kernel
theorem dL_law_930 : decode cL_law 930 = .ok (.iconst 4, 1) := by decide +kernel
theorem dL_law_931 : decode cL_law 931 = .ok (.iadd, 1) := by decide +kernel
theorem dL_law_932 : decode cL_law 932 = .ok (.iaload, 1) := by decide +kernel
theorem dL_law_933 : decode cL_law 933 = .ok (.invokevirtual 100, 3) := by decide +kernel
theorem dL_law_936 : decode cL_law 936 = .ok (.aload_n 2, 1) := by decide +kernel
theorem dL_law_937 : decode cL_law 937 = .ok (.aload_n 0, 1) := by decide +kernel
theorem dL_law_938 : decode cL_law 938 = .ok (.iload_n 3, 1) := by decide +kernel
theorem dL_law_939 : decode cL_law 939 = .ok (.iconst 1, 1) := by decide +kernel
theorem dL_law_940 : decode cL_law 940 = .ok (.iadd, 1) := by decide +kernel
theorem dL_law_941 : decode cL_law 941 = .ok (.iaload, 1) := by decide +kernel
theorem dL_law_942 : decode cL_law 942 = .ok (.aload_n 0, 1) := by decide +kernel
theorem dL_law_943 : decode cL_law 943 = .ok (.iload_n 3, 1) := by decide +kernel
theorem dL_law_944 : decode cL_law 944 = .ok (.iconst 2, 1) := by decide +kernel
theorem dL_law_945 : decode cL_law 945 = .ok (.iadd, 1) := by decide +kernel
theorem dL_law_946 : decode cL_law 946 = .ok (.iaload, 1) := by decide +kernel
theorem dL_law_947 : decode cL_law 947 = .ok (.aload_n 0, 1) := by decide +kernel
theorem dL_law_948 : decode cL_law 948 = .ok (.iload_n 3, 1) := by decide +kernel
theorem dL_law_949 : decode cL_law 949 = .ok (.iconst 3, 1) := by decide +kernel
theorem dL_law_950 : decode cL_law 950 = .ok (.iadd, 1) := by decide +kernel
theorem dL_law_951 : decode cL_law 951 = .ok (.iaload, 1) := by decide +kernel
theorem dL_law_952 : decode cL_law 952 = .ok (.aload_n 0, 1) := by decide +kernel
theorem dL_law_953 : decode cL_law 953 = .ok (.iload_n 3, 1) := by decide +kernel
theorem dL_law_954 : decode cL_law 954 = .ok (.iconst 4, 1) := by decide +kernel
theorem dL_law_955 : decode cL_law 955 = .ok (.iadd, 1) := by decide +kernel
theorem dL_law_956 : decode cL_law 956 = .ok (.iaload, 1) := by decide +kernel
theorem dL_law_957 : decode cL_law 957 = .ok (.invokevirtual 103, 3) := by decide +kernel
theorem dL_law_960 : decode cL_law 960 = .ok (.if_icmp .eq 635, 3) := by decide +kernel
theorem dL_law_963 : decode cL_law 963 = .ok (.iconst 0, 1) := by decide +kernel
theorem dL_law_964 : decode cL_law 964 = .ok (.ireturn, 1) := by decide +kernel
theorem dL_law_965 : decode cL_law 965 = .ok (.aload_n 1, 1) := by decide +kernel
theorem dL_law_966 : decode cL_law 966 = .ok (.aload_n 0, 1) := by decide +kernel
theorem dL_law_967 : decode cL_law 967 = .ok (.iload_n 3, 1) := by decide +kernel
theorem dL_law_968 : decode cL_law 968 = .ok (.iconst 1, 1) := by decide +kernel
theorem dL_law_969 : decode cL_law 969 = .ok (.iadd, 1) := by decide +kernel
theorem dL_law_970 : decode cL_law 970 = .ok (.iaload, 1) := by decide +kernel
theorem dL_law_971 : decode cL_law 971 = .ok (.aload_n 0, 1) := by decide +kernel
theorem dL_law_972 : decode cL_law 972 = .ok (.iload_n 3, 1) := by decide +kernel
theorem dL_law_973 : decode cL_law 973 = .ok (.iconst 2, 1) := by decide +kernel
theorem dL_law_974 : decode cL_law 974 = .ok (.iadd, 1) := by decide +kernel
theorem dL_law_975 : decode cL_law 975 = .ok (.iaload, 1) := by decide +kernel
theorem dL_law_976 : decode cL_law 976 = .ok (.aload_n 0, 1) := by decide +kernel
theorem dL_law_977 : decode cL_law 977 = .ok (.iload_n 3, 1) := by decide +kernel
theorem dL_law_978 : decode cL_law 978 = .ok (.iconst 3, 1) := by decide +kernel
theorem dL_law_979 : decode cL_law 979 = .ok (.iadd, 1) := by decide +kernel
theorem dL_law_980 : decode cL_law 980 = .ok (.iaload, 1) := by decide +kernel
theorem dL_law_981 : decode cL_law 981 = .ok (.invokevirtual 104, 3) := by decide +kernel
theorem dL_law_984 : decode cL_law 984 = .ok (.aload_n 2, 1) := by decide +kernel
theorem dL_law_985 : decode cL_law 985 = .ok (.aload_n 0, 1) := by decide +kernel
theorem dL_law_986 : decode cL_law 986 = .ok (.iload_n 3, 1) := by decide +kernel
theorem dL_law_987 : decode cL_law 987 = .ok (.iconst 1, 1) := by decide +kernel
theorem dL_law_988 : decode cL_law 988 = .ok (.iadd, 1) := by decide +kernel
theorem dL_law_989 : decode cL_law 989 = .ok (.iaload, 1) := by decide +kernel
theorem dL_law_990 : decode cL_law 990 = .ok (.aload_n 0, 1) := by decide +kernel
theorem dL_law_991 : decode cL_law 991 = .ok (.iload_n 3, 1) := by decide +kernel
theorem dL_law_992 : decode cL_law 992 = .ok (.iconst 2, 1) := by decide +kernel
theorem dL_law_993 : decode cL_law 993 = .ok (.iadd, 1) := by decide +kernel
theorem dL_law_994 : decode cL_law 994 = .ok (.iaload, 1) := by decide +kernel
theorem dL_law_995 : decode cL_law 995 = .ok (.aload_n 0, 1) := by decide +kernel
theorem dL_law_996 : decode cL_law 996 = .ok (.iload_n 3, 1) := by decide +kernel
theorem dL_law_997 : decode cL_law 997 = .ok (.iconst 3, 1) := by decide +kernel
theorem dL_law_998 : decode cL_law 998 = .ok (.iadd, 1) := by decide +kernel
theorem dL_law_999 : decode cL_law 999 = .ok (.iaload, 1) := by decide +kernel
theorem dL_law_1000 : decode cL_law 1000 = .ok (.invokevirtual 107, 3) := by decide +kernel
theorem dL_law_1003 : decode cL_law 1003 = .ok (.if_icmp .eq 592, 3) := by decide +kernel
theorem dL_law_1006 : decode cL_law 1006 = .ok (.iconst 0, 1) := by decide +kernel
theorem dL_law_1007 : decode cL_law 1007 = .ok (.ireturn, 1) := by decide +kernel
theorem dL_law_1008 : decode cL_law 1008 = .ok (.aload_n 1, 1) := by decide +kernel
theorem dL_law_1009 : decode cL_law 1009 = .ok (.aload_n 0, 1) := by decide +kernel
theorem dL_law_1010 : decode cL_law 1010 = .ok (.iload_n 3, 1) := by decide +kernel
theorem dL_law_1011 : decode cL_law 1011 = .ok (.iconst 1, 1) := by decide +kernel
theorem dL_law_1012 : decode cL_law 1012 = .ok (.iadd, 1) := by decide +kernel
theorem dL_law_1013 : decode cL_law 1013 = .ok (.iaload, 1) := by decide +kernel
theorem dL_law_1014 : decode cL_law 1014 = .ok (.aload_n 0, 1) := by decide +kernel
theorem dL_law_1015 : decode cL_law 1015 = .ok (.iload_n 3, 1) := by decide +kernel
theorem dL_law_1016 : decode cL_law 1016 = .ok (.iconst 2, 1) := by decide +kernel
theorem dL_law_1017 : decode cL_law 1017 = .ok (.iadd, 1) := by decide +kernel
theorem dL_law_1018 : decode cL_law 1018 = .ok (.iaload, 1) := by decide +kernel
theorem dL_law_1019 : decode cL_law 1019 = .ok (.invokevirtual 108, 3) := by decide +kernel
theorem dL_law_1022 : decode cL_law 1022 = .ok (.aload_n 2, 1) := by decide +kernel
theorem dL_law_1023 : decode cL_law 1023 = .ok (.aload_n 0, 1) := by decide +kernel
theorem dL_law_1024 : decode cL_law 1024 = .ok (.iload_n 3, 1) := by decide +kernel
theorem dL_law_1025 : decode cL_law 1025 = .ok (.iconst 1, 1) := by decide +kernel
theorem dL_law_1026 : decode cL_law 1026 = .ok (.iadd, 1) := by decide +kernel
theorem dL_law_1027 : decode cL_law 1027 = .ok (.iaload, 1) := by decide +kernel
theorem dL_law_1028 : decode cL_law 1028 = .ok (.aload_n 0, 1) := by decide +kernel
theorem dL_law_1029 : decode cL_law 1029 = .ok (.iload_n 3, 1) := by decide +kernel
theorem dL_law_1030 : decode cL_law 1030 = .ok (.iconst 2, 1) := by decide +kernel
theorem dL_law_1031 : decode cL_law 1031 = .ok (.iadd, 1) := by decide +kernel
theorem dL_law_1032 : decode cL_law 1032 = .ok (.iaload, 1) := by decide +kernel
theorem dL_law_1033 : decode cL_law 1033 = .ok (.invokevirtual 111, 3) := by decide +kernel
theorem dL_law_1036 : decode cL_law 1036 = .ok (.if_icmp .eq 559, 3) := by decide +kernel
theorem dL_law_1039 : decode cL_law 1039 = .ok (.iconst 0, 1) := by decide +kernel
theorem dL_law_1040 : decode cL_law 1040 = .ok (.ireturn, 1) := by decide +kernel
theorem dL_law_1041 : decode cL_law 1041 = .ok (.aload_n 1, 1) := by decide +kernel
theorem dL_law_1042 : decode cL_law 1042 = .ok (.aload_n 0, 1) := by decide +kernel
theorem dL_law_1043 : decode cL_law 1043 = .ok (.iload_n 3, 1) := by decide +kernel
theorem dL_law_1044 : decode cL_law 1044 = .ok (.iconst 1, 1) := by decide +kernel
theorem dL_law_1045 : decode cL_law 1045 = .ok (.iadd, 1) := by decide +kernel
theorem dL_law_1046 : decode cL_law 1046 = .ok (.iaload, 1) := by decide +kernel
theorem dL_law_1047 : decode cL_law 1047 = .ok (.aload_n 0, 1) := by decide +kernel
theorem dL_law_1048 : decode cL_law 1048 = .ok (.iload_n 3, 1) := by decide +kernel
theorem dL_law_1049 : decode cL_law 1049 = .ok (.iconst 2, 1) := by decide +kernel
theorem dL_law_1050 : decode cL_law 1050 = .ok (.iadd, 1) := by decide +kernel
theorem dL_law_1051 : decode cL_law 1051 = .ok (.iaload, 1) := by decide +kernel
theorem dL_law_1052 : decode cL_law 1052 = .ok (.aload_n 0, 1) := by decide +kernel
theorem dL_law_1053 : decode cL_law 1053 = .ok (.iload_n 3, 1) := by decide +kernel
theorem dL_law_1054 : decode cL_law 1054 = .ok (.iconst 3, 1) := by decide +kernel
theorem dL_law_1055 : decode cL_law 1055 = .ok (.iadd, 1) := by decide +kernel
theorem dL_law_1056 : decode cL_law 1056 = .ok (.iaload, 1) := by decide +kernel
theorem dL_law_1057 : decode cL_law 1057 = .ok (.aload_n 0, 1) := by decide +kernel
theorem dL_law_1058 : decode cL_law 1058 = .ok (.iload_n 3, 1) := by decide +kernel
theorem dL_law_1059 : decode cL_law 1059 = .ok (.iconst 4, 1) := by decide +kernel
theorem dL_law_1060 : decode cL_law 1060 = .ok (.iadd, 1) := by decide +kernel
theorem dL_law_1061 : decode cL_law 1061 = .ok (.iaload, 1) := by decide +kernel
theorem dL_law_1062 : decode cL_law 1062 = .ok (.invokevirtual 112, 3) := by decide +kernel
theorem dL_law_1065 : decode cL_law 1065 = .ok (.aload_n 2, 1) := by decide +kernel
theorem dL_law_1066 : decode cL_law 1066 = .ok (.aload_n 0, 1) := by decide +kernel
theorem dL_law_1067 : decode cL_law 1067 = .ok (.iload_n 3, 1) := by decide +kernel
theorem dL_law_1068 : decode cL_law 1068 = .ok (.iconst 1, 1) := by decide +kernel
theorem dL_law_1069 : decode cL_law 1069 = .ok (.iadd, 1) := by decide +kernel
theorem dL_law_1070 : decode cL_law 1070 = .ok (.iaload, 1) := by decide +kernel
theorem dL_law_1071 : decode cL_law 1071 = .ok (.aload_n 0, 1) := by decide +kernel
theorem dL_law_1072 : decode cL_law 1072 = .ok (.iload_n 3, 1) := by decide +kernel
theorem dL_law_1073 : decode cL_law 1073 = .ok (.iconst 2, 1) := by decide +kernel
theorem dL_law_1074 : decode cL_law 1074 = .ok (.iadd, 1) := by decide +kernel
theorem dL_law_1075 : decode cL_law 1075 = .ok (.iaload, 1) := by decide +kernel
theorem dL_law_1076 : decode cL_law 1076 = .ok (.aload_n 0, 1) := by decide +kernel
theorem dL_law_1077 : decode cL_law 1077 = .ok (.iload_n 3, 1) := by decide +kernel
theorem dL_law_1078 : decode cL_law 1078 = .ok (.iconst 3, 1) := by decide +kernel
theorem dL_law_1079 : decode cL_law 1079 = .ok (.iadd, 1) := by decide +kernel
theorem dL_law_1080 : decode cL_law 1080 = .ok (.iaload, 1) := by decide +kernel
theorem dL_law_1081 : decode cL_law 1081 = .ok (.aload_n 0, 1) := by decide +kernel
theorem dL_law_1082 : decode cL_law 1082 = .ok (.iload_n 3, 1) := by decide +kernel
theorem dL_law_1083 : decode cL_law 1083 = .ok (.iconst 4, 1) := by decide +kernel
theorem dL_law_1084 : decode cL_law 1084 = .ok (.iadd, 1) := by decide +kernel
theorem dL_law_1085 : decode cL_law 1085 = .ok (.iaload, 1) := by decide +kernel
theorem dL_law_1086 : decode cL_law 1086 = .ok (.invokevirtual 115, 3) := by decide +kernel
theorem dL_law_1089 : decode cL_law 1089 = .ok (.if_icmp .eq 506, 3) := by decide +kernel
theorem dL_law_1092 : decode cL_law 1092 = .ok (.iconst 0, 1) := by decide +kernel
theorem dL_law_1093 : decode cL_law 1093 = .ok (.ireturn, 1) := by decide +kernel
theorem dL_law_1094 : decode cL_law 1094 = .ok (.aload_n 1, 1) := by decide +kernel
theorem dL_law_1095 : decode cL_law 1095 = .ok (.aload_n 0, 1) := by decide +kernel
theorem dL_law_1096 : decode cL_law 1096 = .ok (.iload_n 3, 1) := by decide +kernel
theorem dL_law_1097 : decode cL_law 1097 = .ok (.iconst 1, 1) := by decide +kernel
theorem dL_law_1098 : decode cL_law 1098 = .ok (.iadd, 1) := by decide +kernel
theorem dL_law_1099 : decode cL_law 1099 = .ok (.iaload, 1) := by decide +kernel
theorem dL_law_1100 : decode cL_law 1100 = .ok (.invokevirtual 116, 3) := by decide +kernel
theorem dL_law_1103 : decode cL_law 1103 = .ok (.aload_n 2, 1) := by decide +kernel
theorem dL_law_1104 : decode cL_law 1104 = .ok (.aload_n 0, 1) := by decide +kernel
theorem dL_law_1105 : decode cL_law 1105 = .ok (.iload_n 3, 1) := by decide +kernel
theorem dL_law_1106 : decode cL_law 1106 = .ok (.iconst 1, 1) := by decide +kernel
theorem dL_law_1107 : decode cL_law 1107 = .ok (.iadd, 1) := by decide +kernel
theorem dL_law_1108 : decode cL_law 1108 = .ok (.iaload, 1) := by decide +kernel
theorem dL_law_1109 : decode cL_law 1109 = .ok (.invokevirtual 119, 3) := by decide +kernel
theorem dL_law_1112 : decode cL_law 1112 = .ok (.if_icmp .eq 483, 3) := by decide +kernel
theorem dL_law_1115 : decode cL_law 1115 = .ok (.iconst 0, 1) := by decide +kernel
theorem dL_law_1116 : decode cL_law 1116 = .ok (.ireturn, 1) := by decide +kernel
theorem dL_law_1117 : decode cL_law 1117 = .ok (.aload_n 1, 1) := by decide +kernel
theorem dL_law_1118 : decode cL_law 1118 = .ok (.aload_n 0, 1) := by decide +kernel
theorem dL_law_1119 : decode cL_law 1119 = .ok (.iload_n 3, 1) := by decide +kernel
theorem dL_law_1120 : decode cL_law 1120 = .ok (.iconst 1, 1) := by decide +kernel
theorem dL_law_1121 : decode cL_law 1121 = .ok (.iadd, 1) := by decide +kernel
theorem dL_law_1122 : decode cL_law 1122 = .ok (.iaload, 1) := by decide +kernel
theorem dL_law_1123 : decode cL_law 1123 = .ok (.aload_n 0, 1) := by decide +kernel
theorem dL_law_1124 : decode cL_law 1124 = .ok (.iload_n 3, 1) := by decide +kernel
theorem dL_law_1125 : decode cL_law 1125 = .ok (.iconst 2, 1) := by decide +kernel
theorem dL_law_1126 : decode cL_law 1126 = .ok (.iadd, 1) := by decide +kernel
theorem dL_law_1127 : decode cL_law 1127 = .ok (.iaload, 1) := by decide +kernel
theorem dL_law_1128 : decode cL_law 1128 = .ok (.invokevirtual 120, 3) := by decide +kernel
theorem dL_law_1131 : decode cL_law 1131 = .ok (.aload_n 2, 1) := by decide +kernel
theorem dL_law_1132 : decode cL_law 1132 = .ok (.aload_n 0, 1) := by decide +kernel
theorem dL_law_1133 : decode cL_law 1133 = .ok (.iload_n 3, 1) := by decide +kernel
theorem dL_law_1134 : decode cL_law 1134 = .ok (.iconst 1, 1) := by decide +kernel
theorem dL_law_1135 : decode cL_law 1135 = .ok (.iadd, 1) := by decide +kernel
theorem dL_law_1136 : decode cL_law 1136 = .ok (.iaload, 1) := by decide +kernel
theorem dL_law_1137 : decode cL_law 1137 = .ok (.aload_n 0, 1) := by decide +kernel
theorem dL_law_1138 : decode cL_law 1138 = .ok (.iload_n 3, 1) := by decide +kernel
theorem dL_law_1139 : decode cL_law 1139 = .ok (.iconst 2, 1) := by decide +kernel
theorem dL_law_1140 : decode cL_law 1140 = .ok (.iadd, 1) := by decide +kernel
theorem dL_law_1141 : decode cL_law 1141 = .ok (.iaload, 1) := by decide +kernel
theorem dL_law_1142 : decode cL_law 1142 = .ok (.invokevirtual 123, 3) := by decide +kernel
theorem dL_law_1145 : decode cL_law 1145 = .ok (.if_icmp .eq 450, 3) := by decide +kernel
theorem dL_law_1148 : decode cL_law 1148 = .ok (.iconst 0, 1) := by decide +kernel
theorem dL_law_1149 : decode cL_law 1149 = .ok (.ireturn, 1) := by decide +kernel
theorem dL_law_1150 : decode cL_law 1150 = .ok (.aload_n 1, 1) := by decide +kernel
theorem dL_law_1151 : decode cL_law 1151 = .ok (.aload_n 0, 1) := by decide +kernel
theorem dL_law_1152 : decode cL_law 1152 = .ok (.iload_n 3, 1) := by decide +kernel
theorem dL_law_1153 : decode cL_law 1153 = .ok (.iconst 1, 1) := by decide +kernel
theorem dL_law_1154 : decode cL_law 1154 = .ok (.iadd, 1) := by decide +kernel
theorem dL_law_1155 : decode cL_law 1155 = .ok (.iaload, 1) := by decide +kernel
theorem dL_law_1156 : decode cL_law 1156 = .ok (.aload_n 0, 1) := by decide +kernel
theorem dL_law_1157 : decode cL_law 1157 = .ok (.iload_n 3, 1) := by decide +kernel
theorem dL_law_1158 : decode cL_law 1158 = .ok (.iconst 2, 1) := by decide +kernel
theorem dL_law_1159 : decode cL_law 1159 = .ok (.iadd, 1) := by decide +kernel
theorem dL_law_1160 : decode cL_law 1160 = .ok (.iaload, 1) := by decide +kernel
theorem dL_law_1161 : decode cL_law 1161 = .ok (.aload_n 0, 1) := by decide +kernel
theorem dL_law_1162 : decode cL_law 1162 = .ok (.iload_n 3, 1) := by decide +kernel
theorem dL_law_1163 : decode cL_law 1163 = .ok (.iconst 3, 1) := by decide +kernel
theorem dL_law_1164 : decode cL_law 1164 = .ok (.iadd, 1) := by decide +kernel
theorem dL_law_1165 : decode cL_law 1165 = .ok (.iaload, 1) := by decide +kernel
theorem dL_law_1166 : decode cL_law 1166 = .ok (.aload_n 0, 1) := by decide +kernel
theorem dL_law_1167 : decode cL_law 1167 = .ok (.iload_n 3, 1) := by decide +kernel
theorem dL_law_1168 : decode cL_law 1168 = .ok (.iconst 4, 1) := by decide +kernel
theorem dL_law_1169 : decode cL_law 1169 = .ok (.iadd, 1) := by decide +kernel
theorem dL_law_1170 : decode cL_law 1170 = .ok (.iaload, 1) := by decide +kernel
theorem dL_law_1171 : decode cL_law 1171 = .ok (.invokevirtual 124, 3) := by decide +kernel
theorem dL_law_1174 : decode cL_law 1174 = .ok (.aload_n 2, 1) := by decide +kernel
theorem dL_law_1175 : decode cL_law 1175 = .ok (.aload_n 0, 1) := by decide +kernel
theorem dL_law_1176 : decode cL_law 1176 = .ok (.iload_n 3, 1) := by decide +kernel
theorem dL_law_1177 : decode cL_law 1177 = .ok (.iconst 1, 1) := by decide +kernel
theorem dL_law_1178 : decode cL_law 1178 = .ok (.iadd, 1) := by decide +kernel
theorem dL_law_1179 : decode cL_law 1179 = .ok (.iaload, 1) := by decide +kernel
theorem dL_law_1180 : decode cL_law 1180 = .ok (.aload_n 0, 1) := by decide +kernel
theorem dL_law_1181 : decode cL_law 1181 = .ok (.iload_n 3, 1) := by decide +kernel
theorem dL_law_1182 : decode cL_law 1182 = .ok (.iconst 2, 1) := by decide +kernel
theorem dL_law_1183 : decode cL_law 1183 = .ok (.iadd, 1) := by decide +kernel
theorem dL_law_1184 : decode cL_law 1184 = .ok (.iaload, 1) := by decide +kernel
theorem dL_law_1185 : decode cL_law 1185 = .ok (.aload_n 0, 1) := by decide +kernel
theorem dL_law_1186 : decode cL_law 1186 = .ok (.iload_n 3, 1) := by decide +kernel
theorem dL_law_1187 : decode cL_law 1187 = .ok (.iconst 3, 1) := by decide +kernel
theorem dL_law_1188 : decode cL_law 1188 = .ok (.iadd, 1) := by decide +kernel
theorem dL_law_1189 : decode cL_law 1189 = .ok (.iaload, 1) := by decide +kernel
theorem dL_law_1190 : decode cL_law 1190 = .ok (.aload_n 0, 1) := by decide +kernel
theorem dL_law_1191 : decode cL_law 1191 = .ok (.iload_n 3, 1) := by decide +kernel
theorem dL_law_1192 : decode cL_law 1192 = .ok (.iconst 4, 1) := by decide +kernel
theorem dL_law_1193 : decode cL_law 1193 = .ok (.iadd, 1) := by decide +kernel
theorem dL_law_1194 : decode cL_law 1194 = .ok (.iaload, 1) := by decide +kernel
theorem dL_law_1195 : decode cL_law 1195 = .ok (.invokevirtual 127, 3) := by decide +kernel
theorem dL_law_1198 : decode cL_law 1198 = .ok (.if_icmp .eq 397, 3) := by decide +kernel
theorem dL_law_1201 : decode cL_law 1201 = .ok (.iconst 0, 1) := by decide +kernel
theorem dL_law_1202 : decode cL_law 1202 = .ok (.ireturn, 1) := by decide +kernel
theorem dL_law_1203 : decode cL_law 1203 = .ok (.aload_n 1, 1) := by decide +kernel
theorem dL_law_1204 : decode cL_law 1204 = .ok (.aload_n 0, 1) := by decide +kernel
theorem dL_law_1205 : decode cL_law 1205 = .ok (.iload_n 3, 1) := by decide +kernel
theorem dL_law_1206 : decode cL_law 1206 = .ok (.iconst 1, 1) := by decide +kernel
theorem dL_law_1207 : decode cL_law 1207 = .ok (.iadd, 1) := by decide +kernel
theorem dL_law_1208 : decode cL_law 1208 = .ok (.iaload, 1) := by decide +kernel
theorem dL_law_1209 : decode cL_law 1209 = .ok (.invokevirtual 128, 3) := by decide +kernel
theorem dL_law_1212 : decode cL_law 1212 = .ok (.aload_n 2, 1) := by decide +kernel
theorem dL_law_1213 : decode cL_law 1213 = .ok (.aload_n 0, 1) := by decide +kernel
theorem dL_law_1214 : decode cL_law 1214 = .ok (.iload_n 3, 1) := by decide +kernel
theorem dL_law_1215 : decode cL_law 1215 = .ok (.iconst 1, 1) := by decide +kernel
theorem dL_law_1216 : decode cL_law 1216 = .ok (.iadd, 1) := by decide +kernel
theorem dL_law_1217 : decode cL_law 1217 = .ok (.iaload, 1) := by decide +kernel
theorem dL_law_1218 : decode cL_law 1218 = .ok (.invokevirtual 131, 3) := by decide +kernel
theorem dL_law_1221 : decode cL_law 1221 = .ok (.if_icmp .eq 374, 3) := by decide +kernel
theorem dL_law_1224 : decode cL_law 1224 = .ok (.iconst 0, 1) := by decide +kernel
theorem dL_law_1225 : decode cL_law 1225 = .ok (.ireturn, 1) := by decide +kernel
theorem dL_law_1226 : decode cL_law 1226 = .ok (.aload_n 1, 1) := by decide +kernel
theorem dL_law_1227 : decode cL_law 1227 = .ok (.aload_n 0, 1) := by decide +kernel
theorem dL_law_1228 : decode cL_law 1228 = .ok (.iload_n 3, 1) := by decide +kernel
theorem dL_law_1229 : decode cL_law 1229 = .ok (.iconst 1, 1) := by decide +kernel
theorem dL_law_1230 : decode cL_law 1230 = .ok (.iadd, 1) := by decide +kernel
theorem dL_law_1231 : decode cL_law 1231 = .ok (.iaload, 1) := by decide +kernel
theorem dL_law_1232 : decode cL_law 1232 = .ok (.aload_n 0, 1) := by decide +kernel
theorem dL_law_1233 : decode cL_law 1233 = .ok (.iload_n 3, 1) := by decide +kernel
theorem dL_law_1234 : decode cL_law 1234 = .ok (.iconst 2, 1) := by decide +kernel
theorem dL_law_1235 : decode cL_law 1235 = .ok (.iadd, 1) := by decide +kernel
theorem dL_law_1236 : decode cL_law 1236 = .ok (.iaload, 1) := by decide +kernel
theorem dL_law_1237 : decode cL_law 1237 = .ok (.aload_n 0, 1) := by decide +kernel
theorem dL_law_1238 : decode cL_law 1238 = .ok (.iload_n 3, 1) := by decide +kernel
theorem dL_law_1239 : decode cL_law 1239 = .ok (.iconst 3, 1) := by decide +kernel
theorem dL_law_1240 : decode cL_law 1240 = .ok (.iadd, 1) := by decide +kernel
theorem dL_law_1241 : decode cL_law 1241 = .ok (.iaload, 1) := by decide +kernel
theorem dL_law_1242 : decode cL_law 1242 = .ok (.invokevirtual 132, 3) := by decide +kernel
theorem dL_law_1245 : decode cL_law 1245 = .ok (.aload_n 2, 1) := by decide +kernel
theorem dL_law_1246 : decode cL_law 1246 = .ok (.aload_n 0, 1) := by decide +kernel
theorem dL_law_1247 : decode cL_law 1247 = .ok (.iload_n 3, 1) := by decide +kernel
theorem dL_law_1248 : decode cL_law 1248 = .ok (.iconst 1, 1) := by decide +kernel
theorem dL_law_1249 : decode cL_law 1249 = .ok (.iadd, 1) := by decide +kernel
theorem dL_law_1250 : decode cL_law 1250 = .ok (.iaload, 1) := by decide +kernel
theorem dL_law_1251 : decode cL_law 1251 = .ok (.aload_n 0, 1) := by decide +kernel
theorem dL_law_1252 : decode cL_law 1252 = .ok (.iload_n 3, 1) := by decide +kernel
theorem dL_law_1253 : decode cL_law 1253 = .ok (.iconst 2, 1) := by decide +kernel
theorem dL_law_1254 : decode cL_law 1254 = .ok (.iadd, 1) := by decide +kernel
theorem dL_law_1255 : decode cL_law 1255 = .ok (.iaload, 1) := by decide +kernel
theorem dL_law_1256 : decode cL_law 1256 = .ok (.aload_n 0, 1) := by decide +kernel
theorem dL_law_1257 : decode cL_law 1257 = .ok (.iload_n 3, 1) := by decide +kernel
theorem dL_law_1258 : decode cL_law 1258 = .ok (.iconst 3, 1) := by decide +kernel
theorem dL_law_1259 : decode cL_law 1259 = .ok (.iadd, 1) := by decide +kernel
theorem dL_law_1260 : decode cL_law 1260 = .ok (.iaload, 1) := by decide +kernel
theorem dL_law_1261 : decode cL_law 1261 = .ok (.invokevirtual 135, 3) := by decide +kernel
theorem dL_law_1264 : decode cL_law 1264 = .ok (.if_icmp .eq 331, 3) := by decide +kernel
theorem dL_law_1267 : decode cL_law 1267 = .ok (.iconst 0, 1) := by decide +kernel
theorem dL_law_1268 : decode cL_law 1268 = .ok (.ireturn, 1) := by decide +kernel
theorem dL_law_1269 : decode cL_law 1269 = .ok (.aload_n 1, 1) := by decide +kernel
theorem dL_law_1270 : decode cL_law 1270 = .ok (.aload_n 0, 1) := by decide +kernel
theorem dL_law_1271 : decode cL_law 1271 = .ok (.iload_n 3, 1) := by decide +kernel
theorem dL_law_1272 : decode cL_law 1272 = .ok (.iconst 1, 1) := by decide +kernel
theorem dL_law_1273 : decode cL_law 1273 = .ok (.iadd, 1) := by decide +kernel
theorem dL_law_1274 : decode cL_law 1274 = .ok (.iaload, 1) := by decide +kernel
theorem dL_law_1275 : decode cL_law 1275 = .ok (.invokevirtual 136, 3) := by decide +kernel
theorem dL_law_1278 : decode cL_law 1278 = .ok (.aload_n 2, 1) := by decide +kernel
theorem dL_law_1279 : decode cL_law 1279 = .ok (.aload_n 0, 1) := by decide +kernel
theorem dL_law_1280 : decode cL_law 1280 = .ok (.iload_n 3, 1) := by decide +kernel
theorem dL_law_1281 : decode cL_law 1281 = .ok (.iconst 1, 1) := by decide +kernel
theorem dL_law_1282 : decode cL_law 1282 = .ok (.iadd, 1) := by decide +kernel
theorem dL_law_1283 : decode cL_law 1283 = .ok (.iaload, 1) := by decide +kernel
theorem dL_law_1284 : decode cL_law 1284 = .ok (.invokevirtual 139, 3) := by decide +kernel
theorem dL_law_1287 : decode cL_law 1287 = .ok (.if_icmp .eq 308, 3) := by decide +kernel
theorem dL_law_1290 : decode cL_law 1290 = .ok (.iconst 0, 1) := by decide +kernel
theorem dL_law_1291 : decode cL_law 1291 = .ok (.ireturn, 1) := by decide +kernel
theorem dL_law_1292 : decode cL_law 1292 = .ok (.aload_n 1, 1) := by decide +kernel
theorem dL_law_1293 : decode cL_law 1293 = .ok (.aload_n 0, 1) := by decide +kernel
theorem dL_law_1294 : decode cL_law 1294 = .ok (.iload_n 3, 1) := by decide +kernel
theorem dL_law_1295 : decode cL_law 1295 = .ok (.iconst 1, 1) := by decide +kernel
theorem dL_law_1296 : decode cL_law 1296 = .ok (.iadd, 1) := by decide +kernel
theorem dL_law_1297 : decode cL_law 1297 = .ok (.iaload, 1) := by decide +kernel
theorem dL_law_1298 : decode cL_law 1298 = .ok (.aload_n 0, 1) := by decide +kernel
theorem dL_law_1299 : decode cL_law 1299 = .ok (.iload_n 3, 1) := by decide +kernel
theorem dL_law_1300 : decode cL_law 1300 = .ok (.iconst 2, 1) := by decide +kernel
theorem dL_law_1301 : decode cL_law 1301 = .ok (.iadd, 1) := by decide +kernel
theorem dL_law_1302 : decode cL_law 1302 = .ok (.iaload, 1) := by decide +kernel
theorem dL_law_1303 : decode cL_law 1303 = .ok (.aload_n 0, 1) := by decide +kernel
theorem dL_law_1304 : decode cL_law 1304 = .ok (.iload_n 3, 1) := by decide +kernel
theorem dL_law_1305 : decode cL_law 1305 = .ok (.iconst 3, 1) := by decide +kernel
theorem dL_law_1306 : decode cL_law 1306 = .ok (.iadd, 1) := by decide +kernel
theorem dL_law_1307 : decode cL_law 1307 = .ok (.iaload, 1) := by decide +kernel
theorem dL_law_1308 : decode cL_law 1308 = .ok (.invokevirtual 140, 3) := by decide +kernel
theorem dL_law_1311 : decode cL_law 1311 = .ok (.aload_n 2, 1) := by decide +kernel
theorem dL_law_1312 : decode cL_law 1312 = .ok (.aload_n 0, 1) := by decide +kernel
theorem dL_law_1313 : decode cL_law 1313 = .ok (.iload_n 3, 1) := by decide +kernel
theorem dL_law_1314 : decode cL_law 1314 = .ok (.iconst 1, 1) := by decide +kernel
theorem dL_law_1315 : decode cL_law 1315 = .ok (.iadd, 1) := by decide +kernel
theorem dL_law_1316 : decode cL_law 1316 = .ok (.iaload, 1) := by decide +kernel
theorem dL_law_1317 : decode cL_law 1317 = .ok (.aload_n 0, 1) := by decide +kernel
theorem dL_law_1318 : decode cL_law 1318 = .ok (.iload_n 3, 1) := by decide +kernel
theorem dL_law_1319 : decode cL_law 1319 = .ok (.iconst 2, 1) := by decide +kernel
theorem dL_law_1320 : decode cL_law 1320 = .ok (.iadd, 1) := by decide +kernel
theorem dL_law_1321 : decode cL_law 1321 = .ok (.iaload, 1) := by decide +kernel
theorem dL_law_1322 : decode cL_law 1322 = .ok (.aload_n 0, 1) := by decide +kernel
theorem dL_law_1323 : decode cL_law 1323 = .ok (.iload_n 3, 1) := by decide +kernel
theorem dL_law_1324 : decode cL_law 1324 = .ok (.iconst 3, 1) := by decide +kernel
theorem dL_law_1325 : decode cL_law 1325 = .ok (.iadd, 1) := by decide +kernel
theorem dL_law_1326 : decode cL_law 1326 = .ok (.iaload, 1) := by decide +kernel
theorem dL_law_1327 : decode cL_law 1327 = .ok (.invokevirtual 143, 3) := by decide +kernel
theorem dL_law_1330 : decode cL_law 1330 = .ok (.if_icmp .eq 265, 3) := by decide +kernel
theorem dL_law_1333 : decode cL_law 1333 = .ok (.iconst 0, 1) := by decide +kernel
theorem dL_law_1334 : decode cL_law 1334 = .ok (.ireturn, 1) := by decide +kernel
theorem dL_law_1335 : decode cL_law 1335 = .ok (.aload_n 1, 1) := by decide +kernel
theorem dL_law_1336 : decode cL_law 1336 = .ok (.aload_n 0, 1) := by decide +kernel
theorem dL_law_1337 : decode cL_law 1337 = .ok (.iload_n 3, 1) := by decide +kernel
theorem dL_law_1338 : decode cL_law 1338 = .ok (.iconst 1, 1) := by decide +kernel
theorem dL_law_1339 : decode cL_law 1339 = .ok (.iadd, 1) := by decide +kernel
theorem dL_law_1340 : decode cL_law 1340 = .ok (.iaload, 1) := by decide +kernel
theorem dL_law_1341 : decode cL_law 1341 = .ok (.aload_n 0, 1) := by decide +kernel
theorem dL_law_1342 : decode cL_law 1342 = .ok (.iload_n 3, 1) := by decide +kernel
theorem dL_law_1343 : decode cL_law 1343 = .ok (.iconst 2, 1) := by decide +kernel
theorem dL_law_1344 : decode cL_law 1344 = .ok (.iadd, 1) := by decide +kernel
theorem dL_law_1345 : decode cL_law 1345 = .ok (.iaload, 1) := by decide +kernel
theorem dL_law_1346 : decode cL_law 1346 = .ok (.aload_n 0, 1) := by decide +kernel
theorem dL_law_1347 : decode cL_law 1347 = .ok (.iload_n 3, 1) := by decide +kernel
theorem dL_law_1348 : decode cL_law 1348 = .ok (.iconst 3, 1) := by decide +kernel
theorem dL_law_1349 : decode cL_law 1349 = .ok (.iadd, 1) := by decide +kernel
theorem dL_law_1350 : decode cL_law 1350 = .ok (.iaload, 1) := by decide +kernel
theorem dL_law_1351 : decode cL_law 1351 = .ok (.invokevirtual 144, 3) := by decide +kernel
theorem dL_law_1354 : decode cL_law 1354 = .ok (.aload_n 2, 1) := by decide +kernel
theorem dL_law_1355 : decode cL_law 1355 = .ok (.aload_n 0, 1) := by decide +kernel
theorem dL_law_1356 : decode cL_law 1356 = .ok (.iload_n 3, 1) := by decide +kernel
theorem dL_law_1357 : decode cL_law 1357 = .ok (.iconst 1, 1) := by decide +kernel
theorem dL_law_1358 : decode cL_law 1358 = .ok (.iadd, 1) := by decide +kernel
theorem dL_law_1359 : decode cL_law 1359 = .ok (.iaload, 1) := by decide +kernel
theorem dL_law_1360 : decode cL_law 1360 = .ok (.aload_n 0, 1) := by decide +kernel
theorem dL_law_1361 : decode cL_law 1361 = .ok (.iload_n 3, 1) := by decide +kernel
theorem dL_law_1362 : decode cL_law 1362 = .ok (.iconst 2, 1) := by decide +kernel
theorem dL_law_1363 : decode cL_law 1363 = .ok (.iadd, 1) := by decide +kernel
theorem dL_law_1364 : decode cL_law 1364 = .ok (.iaload, 1) := by decide +kernel
theorem dL_law_1365 : decode cL_law 1365 = .ok (.aload_n 0, 1) := by decide +kernel
theorem dL_law_1366 : decode cL_law 1366 = .ok (.iload_n 3, 1) := by decide +kernel
theorem dL_law_1367 : decode cL_law 1367 = .ok (.iconst 3, 1) := by decide +kernel
theorem dL_law_1368 : decode cL_law 1368 = .ok (.iadd, 1) := by decide +kernel
theorem dL_law_1369 : decode cL_law 1369 = .ok (.iaload, 1) := by decide +kernel
theorem dL_law_1370 : decode cL_law 1370 = .ok (.invokevirtual 147, 3) := by decide +kernel
theorem dL_law_1373 : decode cL_law 1373 = .ok (.if_icmp .eq 222, 3) := by decide +kernel
theorem dL_law_1376 : decode cL_law 1376 = .ok (.iconst 0, 1) := by decide +kernel
theorem dL_law_1377 : decode cL_law 1377 = .ok (.ireturn, 1) := by decide +kernel
theorem dL_law_1378 : decode cL_law 1378 = .ok (.aload_n 1, 1) := by decide +kernel
theorem dL_law_1379 : decode cL_law 1379 = .ok (.aload_n 0, 1) := by decide +kernel
theorem dL_law_1380 : decode cL_law 1380 = .ok (.iload_n 3, 1) := by decide +kernel
theorem dL_law_1381 : decode cL_law 1381 = .ok (.iconst 1, 1) := by decide +kernel
theorem dL_law_1382 : decode cL_law 1382 = .ok (.iadd, 1) := by decide +kernel
theorem dL_law_1383 : decode cL_law 1383 = .ok (.iaload, 1) := by decide +kernel
theorem dL_law_1384 : decode cL_law 1384 = .ok (.aload_n 0, 1) := by decide +kernel
theorem dL_law_1385 : decode cL_law 1385 = .ok (.iload_n 3, 1) := by decide +kernel
theorem dL_law_1386 : decode cL_law 1386 = .ok (.iconst 2, 1) := by decide +kernel
theorem dL_law_1387 : decode cL_law 1387 = .ok (.iadd, 1) := by decide +kernel
theorem dL_law_1388 : decode cL_law 1388 = .ok (.iaload, 1) := by decide +kernel
theorem dL_law_1389 : decode cL_law 1389 = .ok (.aload_n 0, 1) := by decide +kernel
theorem dL_law_1390 : decode cL_law 1390 = .ok (.iload_n 3, 1) := by decide +kernel
theorem dL_law_1391 : decode cL_law 1391 = .ok (.iconst 3, 1) := by decide +kernel
theorem dL_law_1392 : decode cL_law 1392 = .ok (.iadd, 1) := by decide +kernel
theorem dL_law_1393 : decode cL_law 1393 = .ok (.iaload, 1) := by decide +kernel
theorem dL_law_1394 : decode cL_law 1394 = .ok (.aload_n 0, 1) := by decide +kernel
theorem dL_law_1395 : decode cL_law 1395 = .ok (.iload_n 3, 1) := by decide +kernel
theorem dL_law_1396 : decode cL_law 1396 = .ok (.iconst 4, 1) := by decide +kernel
theorem dL_law_1397 : decode cL_law 1397 = .ok (.iadd, 1) := by decide +kernel
theorem dL_law_1398 : decode cL_law 1398 = .ok (.iaload, 1) := by decide +kernel
theorem dL_law_1399 : decode cL_law 1399 = .ok (.aload_n 0, 1) := by decide +kernel
theorem dL_law_1400 : decode cL_law 1400 = .ok (.iload_n 3, 1) := by decide +kernel
theorem dL_law_1401 : decode cL_law 1401 = .ok (.iconst 5, 1) := by decide +kernel
theorem dL_law_1402 : decode cL_law 1402 = .ok (.iadd, 1) := by decide +kernel
theorem dL_law_1403 : decode cL_law 1403 = .ok (.iaload, 1) := by decide +kernel
theorem dL_law_1404 : decode cL_law 1404 = .ok (.invokevirtual 148, 3) := by decide +kernel
theorem dL_law_1407 : decode cL_law 1407 = .ok (.aload_n 2, 1) := by decide +kernel
theorem dL_law_1408 : decode cL_law 1408 = .ok (.aload_n 0, 1) := by decide +kernel
theorem dL_law_1409 : decode cL_law 1409 = .ok (.iload_n 3, 1) := by decide +kernel
theorem dL_law_1410 : decode cL_law 1410 = .ok (.iconst 1, 1) := by decide +kernel
theorem dL_law_1411 : decode cL_law 1411 = .ok (.iadd, 1) := by decide +kernel
theorem dL_law_1412 : decode cL_law 1412 = .ok (.iaload, 1) := by decide +kernel
theorem dL_law_1413 : decode cL_law 1413 = .ok (.aload_n 0, 1) := by decide +kernel
theorem dL_law_1414 : decode cL_law 1414 = .ok (.iload_n 3, 1) := by decide +kernel
theorem dL_law_1415 : decode cL_law 1415 = .ok (.iconst 2, 1) := by decide +kernel
theorem dL_law_1416 : decode cL_law 1416 = .ok (.iadd, 1) := by decide +kernel
theorem dL_law_1417 : decode cL_law 1417 = .ok (.iaload, 1) := by decide +kernel
theorem dL_law_1418 : decode cL_law 1418 = .ok (.aload_n 0, 1) := by decide +kernel
theorem dL_law_1419 : decode cL_law 1419 = .ok (.iload_n 3, 1) := by decide +kernel
theorem dL_law_1420 : decode cL_law 1420 = .ok (.iconst 3, 1) := by decide +kernel
theorem dL_law_1421 : decode cL_law 1421 = .ok (.iadd, 1) := by decide +kernel
theorem dL_law_1422 : decode cL_law 1422 = .ok (.iaload, 1) := by decide +kernel
theorem dL_law_1423 : decode cL_law 1423 = .ok (.aload_n 0, 1) := by decide +kernel
theorem dL_law_1424 : decode cL_law 1424 = .ok (.iload_n 3, 1) := by decide +kernel
theorem dL_law_1425 : decode cL_law 1425 = .ok (.iconst 4, 1) := by decide +kernel
theorem dL_law_1426 : decode cL_law 1426 = .ok (.iadd, 1) := by decide +kernel
theorem dL_law_1427 : decode cL_law 1427 = .ok (.iaload, 1) := by decide +kernel
theorem dL_law_1428 : decode cL_law 1428 = .ok (.aload_n 0, 1) := by decide +kernel
theorem dL_law_1429 : decode cL_law 1429 = .ok (.iload_n 3, 1) := by decide +kernel
theorem dL_law_1430 : decode cL_law 1430 = .ok (.iconst 5, 1) := by decide +kernel
theorem dL_law_1431 : decode cL_law 1431 = .ok (.iadd, 1) := by decide +kernel
theorem dL_law_1432 : decode cL_law 1432 = .ok (.iaload, 1) := by decide +kernel
theorem dL_law_1433 : decode cL_law 1433 = .ok (.invokevirtual 152, 3) := by decide +kernel
theorem dL_law_1436 : decode cL_law 1436 = .ok (.if_icmp .eq 159, 3) := by decide +kernel
theorem dL_law_1439 : decode cL_law 1439 = .ok (.iconst 0, 1) := by decide +kernel
theorem dL_law_1440 : decode cL_law 1440 = .ok (.ireturn, 1) := by decide +kernel
theorem dL_law_1441 : decode cL_law 1441 = .ok (.aload_n 1, 1) := by decide +kernel
theorem dL_law_1442 : decode cL_law 1442 = .ok (.aload_n 0, 1) := by decide +kernel
theorem dL_law_1443 : decode cL_law 1443 = .ok (.iload_n 3, 1) := by decide +kernel
theorem dL_law_1444 : decode cL_law 1444 = .ok (.iconst 1, 1) := by decide +kernel
theorem dL_law_1445 : decode cL_law 1445 = .ok (.iadd, 1) := by decide +kernel
theorem dL_law_1446 : decode cL_law 1446 = .ok (.iaload, 1) := by decide +kernel
theorem dL_law_1447 : decode cL_law 1447 = .ok (.invokevirtual 153, 3) := by decide +kernel
theorem dL_law_1450 : decode cL_law 1450 = .ok (.aload_n 2, 1) := by decide +kernel
theorem dL_law_1451 : decode cL_law 1451 = .ok (.aload_n 0, 1) := by decide +kernel
theorem dL_law_1452 : decode cL_law 1452 = .ok (.iload_n 3, 1) := by decide +kernel
theorem dL_law_1453 : decode cL_law 1453 = .ok (.iconst 1, 1) := by decide +kernel
theorem dL_law_1454 : decode cL_law 1454 = .ok (.iadd, 1) := by decide +kernel
theorem dL_law_1455 : decode cL_law 1455 = .ok (.iaload, 1) := by decide +kernel
theorem dL_law_1456 : decode cL_law 1456 = .ok (.invokevirtual 156, 3) := by decide +kernel
theorem dL_law_1459 : decode cL_law 1459 = .ok (.if_icmp .eq 136, 3) := by decide +kernel
theorem dL_law_1462 : decode cL_law 1462 = .ok (.iconst 0, 1) := by decide +kernel
theorem dL_law_1463 : decode cL_law 1463 = .ok (.ireturn, 1) := by decide +kernel
theorem dL_law_1464 : decode cL_law 1464 = .ok (.aload_n 1, 1) := by decide +kernel
theorem dL_law_1465 : decode cL_law 1465 = .ok (.aload_n 0, 1) := by decide +kernel
theorem dL_law_1466 : decode cL_law 1466 = .ok (.iload_n 3, 1) := by decide +kernel
theorem dL_law_1467 : decode cL_law 1467 = .ok (.iconst 1, 1) := by decide +kernel
theorem dL_law_1468 : decode cL_law 1468 = .ok (.iadd, 1) := by decide +kernel
theorem dL_law_1469 : decode cL_law 1469 = .ok (.iaload, 1) := by decide +kernel
theorem dL_law_1470 : decode cL_law 1470 = .ok (.invokevirtual 157, 3) := by decide +kernel
theorem dL_law_1473 : decode cL_law 1473 = .ok (.aload_n 2, 1) := by decide +kernel
theorem dL_law_1474 : decode cL_law 1474 = .ok (.aload_n 0, 1) := by decide +kernel
theorem dL_law_1475 : decode cL_law 1475 = .ok (.iload_n 3, 1) := by decide +kernel
theorem dL_law_1476 : decode cL_law 1476 = .ok (.iconst 1, 1) := by decide +kernel
theorem dL_law_1477 : decode cL_law 1477 = .ok (.iadd, 1) := by decide +kernel
theorem dL_law_1478 : decode cL_law 1478 = .ok (.iaload, 1) := by decide +kernel
theorem dL_law_1479 : decode cL_law 1479 = .ok (.invokevirtual 160, 3) := by decide +kernel
theorem dL_law_1482 : decode cL_law 1482 = .ok (.if_icmp .eq 113, 3) := by decide +kernel
theorem dL_law_1485 : decode cL_law 1485 = .ok (.iconst 0, 1) := by decide +kernel
theorem dL_law_1486 : decode cL_law 1486 = .ok (.ireturn, 1) := by decide +kernel
theorem dL_law_1487 : decode cL_law 1487 = .ok (.aload_n 1, 1) := by decide +kernel
theorem dL_law_1488 : decode cL_law 1488 = .ok (.invokevirtual 161, 3) := by decide +kernel
theorem dL_law_1491 : decode cL_law 1491 = .ok (.aload_n 2, 1) := by decide +kernel
theorem dL_law_1492 : decode cL_law 1492 = .ok (.invokevirtual 165, 3) := by decide +kernel
theorem dL_law_1495 : decode cL_law 1495 = .ok (.if_icmp .eq 100, 3) := by decide +kernel
theorem dL_law_1498 : decode cL_law 1498 = .ok (.iconst 0, 1) := by decide +kernel
theorem dL_law_1499 : decode cL_law 1499 = .ok (.ireturn, 1) := by decide +kernel
theorem dL_law_1500 : decode cL_law 1500 = .ok (.aload_n 1, 1) := by decide +kernel
theorem dL_law_1501 : decode cL_law 1501 = .ok (.invokevirtual 166, 3) := by decide +kernel
theorem dL_law_1504 : decode cL_law 1504 = .ok (.aload_n 2, 1) := by decide +kernel
theorem dL_law_1505 : decode cL_law 1505 = .ok (.invokevirtual 169, 3) := by decide +kernel
theorem dL_law_1508 : decode cL_law 1508 = .ok (.if_icmp .eq 87, 3) := by decide +kernel
theorem dL_law_1511 : decode cL_law 1511 = .ok (.iconst 0, 1) := by decide +kernel
theorem dL_law_1512 : decode cL_law 1512 = .ok (.ireturn, 1) := by decide +kernel
theorem dL_law_1513 : decode cL_law 1513 = .ok (.aload_n 1, 1) := by decide +kernel
theorem dL_law_1514 : decode cL_law 1514 = .ok (.aload_n 0, 1) := by decide +kernel
theorem dL_law_1515 : decode cL_law 1515 = .ok (.iload_n 3, 1) := by decide +kernel
theorem dL_law_1516 : decode cL_law 1516 = .ok (.iconst 1, 1) := by decide +kernel
theorem dL_law_1517 : decode cL_law 1517 = .ok (.iadd, 1) := by decide +kernel
theorem dL_law_1518 : decode cL_law 1518 = .ok (.iaload, 1) := by decide +kernel
theorem dL_law_1519 : decode cL_law 1519 = .ok (.invokevirtual 170, 3) := by decide +kernel
theorem dL_law_1522 : decode cL_law 1522 = .ok (.aload_n 2, 1) := by decide +kernel
theorem dL_law_1523 : decode cL_law 1523 = .ok (.aload_n 0, 1) := by decide +kernel
theorem dL_law_1524 : decode cL_law 1524 = .ok (.iload_n 3, 1) := by decide +kernel
theorem dL_law_1525 : decode cL_law 1525 = .ok (.iconst 1, 1) := by decide +kernel
theorem dL_law_1526 : decode cL_law 1526 = .ok (.iadd, 1) := by decide +kernel
theorem dL_law_1527 : decode cL_law 1527 = .ok (.iaload, 1) := by decide +kernel
theorem dL_law_1528 : decode cL_law 1528 = .ok (.invokevirtual 173, 3) := by decide +kernel
theorem dL_law_1531 : decode cL_law 1531 = .ok (.if_icmp .eq 64, 3) := by decide +kernel
theorem dL_law_1534 : decode cL_law 1534 = .ok (.iconst 0, 1) := by decide +kernel
theorem dL_law_1535 : decode cL_law 1535 = .ok (.ireturn, 1) := by decide +kernel
theorem dL_law_1536 : decode cL_law 1536 = .ok (.aload_n 1, 1) := by decide +kernel
theorem dL_law_1537 : decode cL_law 1537 = .ok (.invokevirtual 174, 3) := by decide +kernel
theorem dL_law_1540 : decode cL_law 1540 = .ok (.aload_n 2, 1) := by decide +kernel
theorem dL_law_1541 : decode cL_law 1541 = .ok (.invokevirtual 177, 3) := by decide +kernel
theorem dL_law_1544 : decode cL_law 1544 = .ok (.if_icmp .eq 51, 3) := by decide +kernel
theorem dL_law_1547 : decode cL_law 1547 = .ok (.iconst 0, 1) := by decide +kernel
theorem dL_law_1548 : decode cL_law 1548 = .ok (.ireturn, 1) := by decide +kernel
theorem dL_law_1549 : decode cL_law 1549 = .ok (.aload_n 1, 1) := by decide +kernel
theorem dL_law_1550 : decode cL_law 1550 = .ok (.aload_n 0, 1) := by decide +kernel
theorem dL_law_1551 : decode cL_law 1551 = .ok (.iload_n 3, 1) := by decide +kernel
theorem dL_law_1552 : decode cL_law 1552 = .ok (.iconst 1, 1) := by decide +kernel
theorem dL_law_1553 : decode cL_law 1553 = .ok (.iadd, 1) := by decide +kernel
theorem dL_law_1554 : decode cL_law 1554 = .ok (.iaload, 1) := by decide +kernel
theorem dL_law_1555 : decode cL_law 1555 = .ok (.invokevirtual 178, 3) := by decide +kernel
theorem dL_law_1558 : decode cL_law 1558 = .ok (.aload_n 2, 1) := by decide +kernel
theorem dL_law_1559 : decode cL_law 1559 = .ok (.aload_n 0, 1) := by decide +kernel
theorem dL_law_1560 : decode cL_law 1560 = .ok (.iload_n 3, 1) := by decide +kernel
theorem dL_law_1561 : decode cL_law 1561 = .ok (.iconst 1, 1) := by decide +kernel
theorem dL_law_1562 : decode cL_law 1562 = .ok (.iadd, 1) := by decide +kernel
theorem dL_law_1563 : decode cL_law 1563 = .ok (.iaload, 1) := by decide +kernel
theorem dL_law_1564 : decode cL_law 1564 = .ok (.invokevirtual 181, 3) := by decide +kernel
theorem dL_law_1567 : decode cL_law 1567 = .ok (.if_icmp .eq 28, 3) := by decide +kernel
theorem dL_law_1570 : decode cL_law 1570 = .ok (.iconst 0, 1) := by decide +kernel
theorem dL_law_1571 : decode cL_law 1571 = .ok (.ireturn, 1) := by decide +kernel
theorem dL_law_1572 : decode cL_law 1572 = .ok (.aload_n 1, 1) := by decide +kernel
theorem dL_law_1573 : decode cL_law 1573 = .ok (.aload_n 0, 1) := by decide +kernel
theorem dL_law_1574 : decode cL_law 1574 = .ok (.iload_n 3, 1) := by decide +kernel
theorem dL_law_1575 : decode cL_law 1575 = .ok (.iconst 1, 1) := by decide +kernel
theorem dL_law_1576 : decode cL_law 1576 = .ok (.iadd, 1) := by decide +kernel
theorem dL_law_1577 : decode cL_law 1577 = .ok (.iaload, 1) := by decide +kernel
theorem dL_law_1578 : decode cL_law 1578 = .ok (.invokevirtual 182, 3) := by decide +kernel
theorem dL_law_1581 : decode cL_law 1581 = .ok (.aload_n 2, 1) := by decide +kernel
theorem dL_law_1582 : decode cL_law 1582 = .ok (.aload_n 0, 1) := by decide +kernel
theorem dL_law_1583 : decode cL_law 1583 = .ok (.iload_n 3, 1) := by decide +kernel
theorem dL_law_1584 : decode cL_law 1584 = .ok (.iconst 1, 1) := by decide +kernel
theorem dL_law_1585 : decode cL_law 1585 = .ok (.iadd, 1) := by decide +kernel
theorem dL_law_1586 : decode cL_law 1586 = .ok (.iaload, 1) := by decide +kernel
theorem dL_law_1587 : decode cL_law 1587 = .ok (.invokevirtual 185, 3) := by decide +kernel
theorem dL_law_1590 : decode cL_law 1590 = .ok (.if_icmp .eq 5, 3) := by decide +kernel
theorem dL_law_1593 : decode cL_law 1593 = .ok (.iconst 0, 1) := by decide +kernel
theorem dL_law_1594 : decode cL_law 1594 = .ok (.ireturn, 1) := by decide +kernel
theorem dL_law_1595 : decode cL_law 1595 = .ok (.iinc 3 6, 3) := by decide +kernel
theorem dL_law_1598 : decode cL_law 1598 = .ok (.goto (-1580), 3) := by decide +kernel
theorem dL_law_1601 : decode cL_law 1601 = .ok (.iconst 1, 1) := by decide +kernel
theorem dL_law_1602 : decode cL_law 1602 = .ok (.ireturn, 1) := by decide +kernel
end
section
def NWL : List (String × Nat × MethodName × String) := [("WellTold", 9, ⟨"WellTold$Village", "<init>", "()V"⟩, "WellTold"), ("WellTold$Village", 26, ⟨"WellTold$Ways", "<init>", "()V"⟩, "WellTold"), ("WellTold$Village", 33, ⟨"WellTold$Sayings", "<init>", "()V"⟩, "WellTold"), ("WellTold$Village", 40, ⟨"WellTold$Folk", "<init>", "()V"⟩, "WellTold"), ("WellTold$Village", 69, ⟨"WellTold$Saying", "<init>", "()V"⟩, "WellTold"), ("WellTold", 21, ⟨"WellTold$Reader", "<init>", "()V"⟩, "WellTold"), ("WellTold", 28, ⟨"WellTold$Voices", "<init>", "()V"⟩, "WellTold"), ("WellTold", 55, ⟨"WellTold$Sheet", "<init>", "()V"⟩, "WellTold"), ("WellTold$Village", 96, ⟨"WellTold", "within", "(III)Z"⟩, "WellTold"), ("WellTold$Ways", 45, ⟨"WellTold", "inSet", "(II)I"⟩, "WellTold"), ("WellTold$Folk", 38, ⟨"WellTold", "withMember", "(IIZ)I"⟩, "WellTold"), ("WellTold$Sayings", 75, ⟨"WellTold", "inSet", "(II)I"⟩, "WellTold"), ("WellTold$Sayings", 79, ⟨"WellTold", "withMember", "(IIZ)I"⟩, "WellTold"), ("WellTold$Village", 179, ⟨"WellTold", "withMember", "(IIZ)I"⟩, "WellTold"), ("WellTold$Sheet", 36, ⟨"WellTold", "inSet", "(II)I"⟩, "WellTold")]
def strRefs : List (String × Nat × String × Nat) := [("WellTold$Reader", 23, "", 0), ("WellTold", 214, "smr", 1), ("WellTold", 216, "sph", 2), ("WellTold$Reader", 91, "0123456789", 3), ("WellTold$Reader", 61, "|", 4), ("WellTold$Reader", 63, "&", 5), ("WellTold$Reader", 65, "<=>", 6), ("WellTold$Reader", 67, "+-", 7), ("WellTold$Reader", 69, "*/%", 8), ("WellToldModel", 24, "smr", 1), ("WellToldModel", 26, "sph", 2)]
def nS : Nat := 9
def lenS : List Nat := [0, 3, 3, 10, 1, 1, 3, 2, 3]
def bytS : List (List Int32) := [[], [115, 109, 114], [115, 112, 104], [48, 49, 50, 51, 52, 53, 54, 55, 56, 57], [124], [38], [60, 61, 62], [43, 45], [42, 47, 37]]
def tabA : List Int32 := [-1, 0, 0, 0, 1, 2, 3]
def tabB : List Int32 := [10, 11, 12, 13, 20, 0, 0, 0, 0, 30, 0, 0, 0, 0, 40, 0, 0, 0, 0, 50, 0, 60, 0, 0, 0, 0, 70, 71]
end
section
/-! The judgement G: from a place in a method's body, with these locals, this stack and this picture of the heap, the method ends as 'o' says (if it says something). -/
abbrev St : Type := Nat → Nat → Int32
def up (σ : St) (k j : Nat) (v : Int32) : St := fun a i => if a = k then (if i = j then v else σ a i) else σ a i
def Bst {α : Type} (s : St) (f : St → Option α) : Option α := f s
def Lt {α : Type} (x : Int32) (f : Int32 → Option α) : Option α := f x
abbrev FT : Type := (Nat → Nat) × Nat
abbrev YT : Type := va_G × (ClassId × ClassId × ClassId) × (Nat → Nat) × (Nat → Nat) × Nat
abbrev XT : Type := Program × Launch × Env × Room × State × MethodId × Array Value × List Frame × Method × Code
abbrev sX (X : XT) : State := X.2.2.2.2.1
abbrev bY (Y : YT) : Nat := Y.2.2.2.2
abbrev Rf (Y : YT) (k : Nat) : Value := .ref (bY Y + k)
abbrev tysY (Y : YT) : List (ClassId × FieldType) := [(Y.2.1.1, .int), (Y.2.1.2.1, .object "WellTold$Sheet"), (Y.2.1.2.2, .object "java/lang/String")]
def TB : List Cond := lw_tbl.filter goodWord
def AF (F : FT) (Y : YT) : Nat → Prop := fun q => bY Y ≤ q ∧ q < bY Y + F.2
def NW : List (String × Nat × MethodName × String) := NWL
def strL : List (String × Nat × String × Nat) := strRefs
/-- what a method knows of the world outside: the classes, the links between nest mates, the text constants, the tables -/
def Ex (F : FT) (Y : YT) (U : State) : Prop :=
  va_K Y.1 vwCl (tysY Y) U ∧ (∀ q ∈ NW, va_Nw (.methodLinkNest q.1 q.2.1 q.2.2.1 q.2.2.2) U) ∧
  vk_S nS lenS bytS Y.2.2.1 Y.2.2.2.1 (AF F Y) U U.heap ∧ (∀ q ∈ strL, vk_R q.1 q.2.1 q.2.2.1 (Y.2.2.1 q.2.2.2) U) ∧
  (∃ t0 t1 : Nat, va_Z "WellTold$Voices" "ABOVE" "[I" (.ref t0) (AF F Y) U U.heap ∧ va_Z "WellTold$Voices" "BODIES" "[I" (.ref t1) (AF F Y) U U.heap ∧ va_T .int t0 7 (fun j => .int (tabA.getD j 0)) (AF F Y) U U.heap ∧ va_T .int t1 28 (fun j => .int (tabB.getD j 0)) (AF F Y) U U.heap) ∧
  va_Z "java/lang/String" "COMPACT_STRINGS" "Z" (.int 1) (AF F Y) U U.heap
theorem Ex.moved {F : FT} {Y : YT} {s U : State} (h : Ex F Y s) (hW : s.WarmedH U.vm) (hq : ∀ a : Nat, a < s.heap.size → ¬ AF F Y a → U.heap[a]? = s.heap[a]?) : Ex F Y U := by
  obtain ⟨h1, h2, h3, h4, ⟨t0, t1, a1, a2, a3, a4⟩, h6⟩ := h
  have hv := hW.alike
  exact ⟨va_K.moved hv h1, fun q hq => va_Nw.warmM hW (h2 q hq), (vk_S.moved hv h3).kept hq, fun q hq => (h4 q hq).warm hW, ⟨t0, t1, (va_Z.moved hv a1).kept hq, (va_Z.moved hv a2).kept hq, (va_T.moved hv a3).kept hq, (va_T.moved hv a4).kept hq⟩, (va_Z.moved hv h6).kept hq⟩
def Qof (A : Nat → Prop) (v : Option Value) (hp : Heap → Prop) : Array Value → State → Outcome → State → Prop := fun _ st o t => o = .returned v ∧ hp t.heap ∧ va_F A st t
def PcG (F : FT) (Y : YT) (as : List Value) (hp : Heap → Prop) : Array Value → State → Prop := fun v U => v = as.toArray ∧ hp U.heap ∧ Ex F Y U
abbrev rmD (d mc ms : Nat) : Room := { frames := d, cells := mc, slots := ms, locals := 64 * d }
def Ct (F : FT) (Y : YT) (y : MethodName) (cc : ByteArray) (maxL : Nat) (ret : Option FieldType) (d mc ms : Nat) (as : List Value) (hp : Heap → Prop) (v : Option Value) (hp' : Heap → Prop) : Prop :=
  ∀ l : Launch, Met l y (.code y cc maxL ret :: TB) (rmD d mc ms) (PcG F Y as hp) (Qof (AF F Y) v hp') mc ms (AF F Y)
def Cx (F : FT) (Y : YT) (X : XT) (cc : ByteArray) (nL : Nat) (own : String) (ret : Option FieldType) (d : Nat) (zf : Nat × Nat) : Prop :=
  X.1.tables.exec = Jvm.exec ∧ X.2.2.2.2.2.2.2.2.2.code = cc ∧ X.2.2.2.2.2.2.2.2.2.maxLocals = nL ∧ (sX X).vm.findClass own = some X.2.2.2.2.2.1.cls ∧ (∀ w ∈ TB, w.before X.2.2.2.2.2.2.1 (sX X) = true) ∧ Ex F Y (sX X) ∧ X.2.2.2.2.2.2.2.2.1.locks = false ∧ X.2.2.2.2.2.2.2.2.1.sig.returnType = ret ∧ X.2.2.2.1 = rmD d zf.1 zf.2
def G {ρ : Type} (F : FT) (Y : YT) (X : XT) (nL : Nat) (em : ρ → Option Value × (Heap → Prop)) (zf z : Nat × Nat) (pc : Nat) (lv : List (Nat × Value)) (st : List Value) (hp : Heap → Prop) (o : Option ρ) : Prop :=
  ∀ r : ρ, o = some r → ∀ (ls : Array Slot) (H : Heap) (locs : List Loc), lv_has ls nL lv → hp H → va_S (AF F Y) (sX X).heap H locs →
    W X.1 X.2.1 X.2.2.1 X.2.2.2.1 (sX X) X.2.2.2.2.2.1 X.2.2.2.2.2.2.1 X.2.2.2.2.2.2.2.1 X.2.2.2.2.2.2.2.2.1 X.2.2.2.2.2.2.2.2.2 H locs z.1 z.2 (MQ X.2.2.2.2.2.2.2.1 (Qof (AF F Y) (em r).1 (em r).2) X.2.2.2.2.2.2.1 (sX X) zf.1 zf.2 (AF F Y)) (F0 X.2.2.2.2.2.1 pc ls st)
theorem TB_good : GoodIn TB TB := fun w h => ⟨h, good_of_word (List.mem_filter.mp h).2⟩
theorem TB_of {w : Cond} (h : w ∈ lw_tbl) (g : goodWord w = true) : w ∈ TB := List.mem_filter.mpr ⟨h, g⟩
theorem TB_sub {ws : List Cond} (h : ∀ w ∈ ws, w ∈ lw_tbl) (g : ws.all goodWord = true) : ∀ w ∈ ws, w ∈ TB := fun w hw => TB_of (h w hw) (List.all_eq_true.mp g w hw)
theorem TB_p {ws : List Cond} (ps : List Nat) (hp : ws = ps.filterMap (fun i => lw_tbl[i]?)) (g : ws.all goodWord = true) : ∀ w ∈ ws, w ∈ TB := by
  refine TB_sub (fun w hw => ?_) g
  rw [hp] at hw
  obtain ⟨i, -, hi⟩ := List.mem_filterMap.mp hw
  exact List.mem_of_getElem? hi
/-- from the walk to the contract -/
theorem Ct.ofG {ρ : Type} {F : FT} {Y : YT} {y : MethodName} {cc : ByteArray} {maxL : Nat} {ret : Option FieldType} {d mc ms : Nat} {as : List Value} {hp : Heap → Prop} {em : ρ → Option Value × (Heap → Prop)} {o : Option ρ}
    (hy : plainName y.cls = true) (hlen : (lg_sl as).length ≤ maxL)
    (body : ∀ X : XT, Cx F Y X cc maxL y.cls ret d (mc, ms) → G F Y X maxL em (mc, ms) (0, 0) 0 (lv_args 0 as) [] hp o) : ∀ r, o = some r → Ct F Y y cc maxL ret d mc ms as hp (em r).1 (em r).2 := by
  intro r hr l
  refine Met.ofW (cc := cc) (maxL := maxL) (ret := ret) hy rfl ?_
  intro p e s m args below meth c s₁ B hml hv
  obtain ⟨rfl, hh, hE⟩ := hv
  have hts := atoms_spec (ws := Cond.code y cc maxL ret :: TB) B.pre
  have k := body (p, l, e, rmD d mc ms, s, m, as.toArray, below, meth, c) ⟨B.exec, B.bytes, hml, findClass_of_methodNamed B.named, fun w hw => hts w (List.mem_cons_of_mem _ hw), hE, B.notSynchronized, B.returns, rfl⟩
  rw [lg_entry_eq]
  exact k r hr _ _ _ (lv_entry as hlen) hh va_S.rf
section ROWS
variable {ρ : Type} {F : FT} {Y : YT} {X : XT} {cc : ByteArray} {nL : Nat} {own : String} {ret : Option FieldType} {d : Nat} {zf z : Nat × Nat} {em : ρ → Option Value × (Heap → Prop)} {pc : Nat} {lv : List (Nat × Value)} {rest : List Value} {hp : Heap → Prop} {o o1 o2 : Option ρ}
theorem G.none {st : List Value} : G F Y X nL em zf z pc lv st hp (none : Option ρ) := fun r h => by cases h
theorem G.ite {c : Prop} [Decidable c] {st : List Value} (a : c → G F Y X nL em zf z pc lv st hp o1) (b : ¬ c → G F Y X nL em zf z pc lv st hp o2) : G F Y X nL em zf z pc lv st hp (if c then o1 else o2) := by
  by_cases h : c
  · rw [if_pos h]; exact a h
  · rw [if_neg h]; exact b h
theorem G.stp {s : St} {f : St → Option ρ} {st : List Value} {g : St → Heap → Prop} (k : ∀ s1 : St, s1 = s → G F Y X nL em zf z pc lv st (g s1) (f s1)) : G F Y X nL em zf z pc lv st (g s) (Bst s f) := k s rfl
theorem G.sub {lv' : List (Nat × Value)} {st : List Value} (ks : List Nat) (hl : lv_pick lv ks = lv') (k : G F Y X nL em zf z pc lv' st hp o) : G F Y X nL em zf z pc lv st hp o := fun r hr ls H locs h => k r hr ls H locs (lv_sub h ks hl)
theorem G.at {pc' : Nat} {st : List Value} (e : pc = pc') (k : G F Y X nL em zf z pc' lv st hp o) : G F Y X nL em zf z pc lv st hp o := e ▸ k
theorem q_iconst (C : Cx F Y X cc nL own ret d zf) {n : Int} {v : Int32} (dd : decode cc pc = .ok (.iconst n, 1)) (hv : Int32.ofInt n = v) (k : G F Y X nL em zf z (pc + 1) lv (.int v :: rest) hp o) : G F Y X nL em zf z pc lv rest hp o :=
  fun r hr ls H locs h1 h2 h3 => lv_iconst C.1 C.2.1 dd hv (k r hr ls H locs h1 h2 h3)
theorem q_bipush (C : Cx F Y X cc nL own ret d zf) {n : Int} {v : Int32} (dd : decode cc pc = .ok (.bipush n, 2)) (hv : (Int8.ofInt n).toInt32 = v) (k : G F Y X nL em zf z (pc + 2) lv (.int v :: rest) hp o) : G F Y X nL em zf z pc lv rest hp o :=
  fun r hr ls H locs h1 h2 h3 => lv_bipush C.1 C.2.1 dd hv (k r hr ls H locs h1 h2 h3)
theorem q_sipush (C : Cx F Y X cc nL own ret d zf) {n : Int} {v : Int32} (dd : decode cc pc = .ok (.sipush n, 3)) (hv : (Int16.ofInt n).toInt32 = v) (k : G F Y X nL em zf z (pc + 3) lv (.int v :: rest) hp o) : G F Y X nL em zf z pc lv rest hp o :=
  fun r hr ls H locs h1 h2 h3 => lv_sipush C.1 C.2.1 dd hv (k r hr ls H locs h1 h2 h3)
theorem q_lconst (C : Cx F Y X cc nL own ret d zf) {n : Fin 2} {v : Int64} (dd : decode cc pc = .ok (.lconst n, 1)) (hv : Int64.ofNat (n : Nat) = v) (k : G F Y X nL em zf z (pc + 1) lv (.long v :: rest) hp o) : G F Y X nL em zf z pc lv rest hp o :=
  fun r hr ls H locs h1 h2 h3 => lv_lconst C.1 C.2.1 dd hv (k r hr ls H locs h1 h2 h3)
theorem q_ldc (C : Cx F Y X cc nL own ret d zf) {index : Nat} {v : Int32} (hw : Cond.constant own index v ∈ TB) (dd : decode cc pc = .ok (.ldc index, 2)) (k : G F Y X nL em zf z (pc + 2) lv (.int v :: rest) hp o) : G F Y X nL em zf z pc lv rest hp o :=
  fun r hr ls H locs h1 h2 h3 => lv_ldc C.1 C.2.1 C.2.2.2.1 (C.2.2.2.2.1 _ hw) dd (k r hr ls H locs h1 h2 h3)
theorem q_ldcw (C : Cx F Y X cc nL own ret d zf) {index : Nat} {v : Int32} (hw : Cond.constant own index v ∈ TB) (dd : decode cc pc = .ok (.ldc_w index, 3)) (k : G F Y X nL em zf z (pc + 3) lv (.int v :: rest) hp o) : G F Y X nL em zf z pc lv rest hp o :=
  fun r hr ls H locs h1 h2 h3 => lv_ldcw C.1 C.2.1 C.2.2.2.1 (C.2.2.2.2.1 _ hw) dd (k r hr ls H locs h1 h2 h3)
theorem q_ldc2 (C : Cx F Y X cc nL own ret d zf) {index : Nat} {v : Int64} (hw : Cond.constantLong own index v ∈ TB) (dd : decode cc pc = .ok (.ldc2_w index, 3)) (k : G F Y X nL em zf z (pc + 3) lv (.long v :: rest) hp o) : G F Y X nL em zf z pc lv rest hp o :=
  fun r hr ls H locs h1 h2 h3 => lv_ldc2 C.1 C.2.1 C.2.2.2.1 (C.2.2.2.2.1 _ hw) dd (k r hr ls H locs h1 h2 h3)
theorem q_iload (C : Cx F Y X cc nL own ret d zf) (q : Nat) {i : Nat} {x : Int32} (dd : decode cc pc = .ok (.iload i, 2)) (hl : lv[q]? = some (i, .int x)) (k : G F Y X nL em zf z (pc + 2) lv (.int x :: rest) hp o) : G F Y X nL em zf z pc lv rest hp o :=
  fun r hr ls H locs h1 h2 h3 => lv_iload C.1 C.2.1 dd (lv_at h1 q hl) (k r hr ls H locs h1 h2 h3)
theorem q_iload_n (C : Cx F Y X cc nL own ret d zf) (q : Nat) {i : Fin 4} {x : Int32} (dd : decode cc pc = .ok (.iload_n i, 1)) (hl : lv[q]? = some ((i : Nat), .int x)) (k : G F Y X nL em zf z (pc + 1) lv (.int x :: rest) hp o) : G F Y X nL em zf z pc lv rest hp o :=
  fun r hr ls H locs h1 h2 h3 => lv_iload_n C.1 C.2.1 dd rfl (lv_at h1 q hl) (k r hr ls H locs h1 h2 h3)
theorem q_lload_n (C : Cx F Y X cc nL own ret d zf) (q : Nat) {i : Fin 4} {x : Int64} (dd : decode cc pc = .ok (.lload_n i, 1)) (hl : lv[q]? = some ((i : Nat), .long x)) (k : G F Y X nL em zf z (pc + 1) lv (.long x :: rest) hp o) : G F Y X nL em zf z pc lv rest hp o :=
  fun r hr ls H locs h1 h2 h3 => lv_lload_n C.1 C.2.1 dd rfl (lv_at h1 q hl) (k r hr ls H locs h1 h2 h3)
theorem q_aload (C : Cx F Y X cc nL own ret d zf) (q : Nat) {i a : Nat} (dd : decode cc pc = .ok (.aload i, 2)) (hl : lv[q]? = some (i, .ref a)) (k : G F Y X nL em zf z (pc + 2) lv (.ref a :: rest) hp o) : G F Y X nL em zf z pc lv rest hp o :=
  fun r hr ls H locs h1 h2 h3 => lv_aload C.1 C.2.1 dd (lv_at h1 q hl) (k r hr ls H locs h1 h2 h3)
theorem q_aload_n (C : Cx F Y X cc nL own ret d zf) (q : Nat) {i : Fin 4} {a : Nat} (dd : decode cc pc = .ok (.aload_n i, 1)) (hl : lv[q]? = some ((i : Nat), .ref a)) (k : G F Y X nL em zf z (pc + 1) lv (.ref a :: rest) hp o) : G F Y X nL em zf z pc lv rest hp o :=
  fun r hr ls H locs h1 h2 h3 => lv_aload_n C.1 C.2.1 dd rfl (lv_at h1 q hl) (k r hr ls H locs h1 h2 h3)
/-- a reference that may be null: 0 is null -/
def nrf (Y : YT) (n : Nat) : Value := if n = 0 then .null else Rf Y n
theorem q_aloadz (C : Cx F Y X cc nL own ret d zf) (q : Nat) {i n : Nat} (dd : decode cc pc = .ok (.aload i, 2)) (hl : lv[q]? = some (i, nrf Y n)) (k : G F Y X nL em zf z (pc + 2) lv (nrf Y n :: rest) hp o) : G F Y X nL em zf z pc lv rest hp o := by
  intro r hr ls H locs h1 h2 h3
  have k' := k r hr ls H locs h1 h2 h3
  unfold nrf at hl k'
  by_cases h : n = 0
  · rw [if_pos h] at hl k'
    exact lv_aloadN C.1 C.2.1 dd (lv_at h1 q hl) k'
  · rw [if_neg h] at hl k'
    exact lv_aload C.1 C.2.1 dd (lv_at h1 q hl) k'
theorem q_aloadz_n (C : Cx F Y X cc nL own ret d zf) (q : Nat) {i : Fin 4} {n : Nat} (dd : decode cc pc = .ok (.aload_n i, 1)) (hl : lv[q]? = some ((i : Nat), nrf Y n)) (k : G F Y X nL em zf z (pc + 1) lv (nrf Y n :: rest) hp o) : G F Y X nL em zf z pc lv rest hp o := by
  intro r hr ls H locs h1 h2 h3
  have k' := k r hr ls H locs h1 h2 h3
  unfold nrf at hl k'
  by_cases h : n = 0
  · rw [if_pos h] at hl k'
    exact lv_aload_nN C.1 C.2.1 dd rfl (lv_at h1 q hl) k'
  · rw [if_neg h] at hl k'
    exact lv_aload_n C.1 C.2.1 dd rfl (lv_at h1 q hl) k'
abbrev fil1 (i : Nat) (lv : List (Nat × Value)) : List (Nat × Value) := lv.filter (fun q => !(q.1 == i) && !(q.1 + 1 == i && q.2.category == 2))
theorem q_istore (C : Cx F Y X cc nL own ret d zf) {i : Nat} {x : Int32} (lv' : List (Nat × Value)) (dd : decode cc pc = .ok (.istore i, 2)) (hn : Nat.blt i nL = true) (hl : (i, Value.int x) :: fil1 i lv = lv') (k : G F Y X nL em zf z (pc + 2) lv' rest hp o) : G F Y X nL em zf z pc lv (.int x :: rest) hp o :=
  fun r hr ls H locs h1 h2 h3 => lv_istore C.1 C.2.1 dd h1 (Nat.le_of_ble_eq_true hn) hl (fun ls' h' => k r hr ls' H locs h' h2 h3)
theorem q_istore_n (C : Cx F Y X cc nL own ret d zf) {i : Fin 4} {x : Int32} (lv' : List (Nat × Value)) (dd : decode cc pc = .ok (.istore_n i, 1)) (hn : Nat.blt (i : Nat) nL = true) (hl : ((i : Nat), Value.int x) :: fil1 (i : Nat) lv = lv') (k : G F Y X nL em zf z (pc + 1) lv' rest hp o) : G F Y X nL em zf z pc lv (.int x :: rest) hp o :=
  fun r hr ls H locs h1 h2 h3 => lv_istore_n C.1 C.2.1 dd rfl h1 (Nat.le_of_ble_eq_true hn) hl (fun ls' h' => k r hr ls' H locs h' h2 h3)
theorem q_astore (C : Cx F Y X cc nL own ret d zf) {i a : Nat} (lv' : List (Nat × Value)) (dd : decode cc pc = .ok (.astore i, 2)) (hn : Nat.blt i nL = true) (hl : (i, Value.ref a) :: fil1 i lv = lv') (k : G F Y X nL em zf z (pc + 2) lv' rest hp o) : G F Y X nL em zf z pc lv (.ref a :: rest) hp o :=
  fun r hr ls H locs h1 h2 h3 => lv_astore C.1 C.2.1 dd h1 (Nat.le_of_ble_eq_true hn) hl (fun ls' h' => k r hr ls' H locs h' h2 h3)
theorem q_astore_n (C : Cx F Y X cc nL own ret d zf) {i : Fin 4} {a : Nat} (lv' : List (Nat × Value)) (dd : decode cc pc = .ok (.astore_n i, 1)) (hn : Nat.blt (i : Nat) nL = true) (hl : ((i : Nat), Value.ref a) :: fil1 (i : Nat) lv = lv') (k : G F Y X nL em zf z (pc + 1) lv' rest hp o) : G F Y X nL em zf z pc lv (.ref a :: rest) hp o :=
  fun r hr ls H locs h1 h2 h3 => lv_astore_n C.1 C.2.1 dd rfl h1 (Nat.le_of_ble_eq_true hn) hl (fun ls' h' => k r hr ls' H locs h' h2 h3)
theorem fil_n {i n : Nat} {Y : YT} (lv : List (Nat × Value)) : (if n = 0 then ((i, Value.null) :: fil1 i lv) else ((i, Rf Y n) :: fil1 i lv)) = (i, nrf Y n) :: fil1 i lv := by
  unfold nrf; split <;> rfl
theorem q_astorez (C : Cx F Y X cc nL own ret d zf) {i n : Nat} (lv' : List (Nat × Value)) (dd : decode cc pc = .ok (.astore i, 2)) (hn : Nat.blt i nL = true) (hl : (i, nrf Y n) :: fil1 i lv = lv') (k : G F Y X nL em zf z (pc + 2) lv' rest hp o) : G F Y X nL em zf z pc lv (nrf Y n :: rest) hp o := by
  intro r hr ls H locs h1 h2 h3
  have e := fil_n (i := i) (n := n) (Y := Y) lv
  by_cases h : n = 0
  · rw [if_pos h] at e
    rw [show nrf Y n = .null by unfold nrf; rw [if_pos h]]
    exact lv_astoreN C.1 C.2.1 dd h1 (Nat.le_of_ble_eq_true hn) (e.trans hl) (fun ls' h' => k r hr ls' H locs h' h2 h3)
  · rw [if_neg h] at e
    rw [show nrf Y n = Rf Y n by unfold nrf; rw [if_neg h]]
    exact lv_astore C.1 C.2.1 dd h1 (Nat.le_of_ble_eq_true hn) (e.trans hl) (fun ls' h' => k r hr ls' H locs h' h2 h3)
theorem q_astorez_n (C : Cx F Y X cc nL own ret d zf) {i : Fin 4} {n : Nat} (lv' : List (Nat × Value)) (dd : decode cc pc = .ok (.astore_n i, 1)) (hn : Nat.blt (i : Nat) nL = true) (hl : ((i : Nat), nrf Y n) :: fil1 (i : Nat) lv = lv') (k : G F Y X nL em zf z (pc + 1) lv' rest hp o) : G F Y X nL em zf z pc lv (nrf Y n :: rest) hp o := by
  intro r hr ls H locs h1 h2 h3
  have e := fil_n (i := (i : Nat)) (n := n) (Y := Y) lv
  by_cases h : n = 0
  · rw [if_pos h] at e
    rw [show nrf Y n = .null by unfold nrf; rw [if_pos h]]
    exact lv_astore_nN C.1 C.2.1 dd rfl h1 (Nat.le_of_ble_eq_true hn) (e.trans hl) (fun ls' h' => k r hr ls' H locs h' h2 h3)
  · rw [if_neg h] at e
    rw [show nrf Y n = Rf Y n by unfold nrf; rw [if_neg h]]
    exact lv_astore_n C.1 C.2.1 dd rfl h1 (Nat.le_of_ble_eq_true hn) (e.trans hl) (fun ls' h' => k r hr ls' H locs h' h2 h3)
theorem q_iinc (C : Cx F Y X cc nL own ret d zf) (q : Nat) {i : Nat} {n : Int} {x v : Int32} (lv' : List (Nat × Value)) (dd : decode cc pc = .ok (.iinc i n, 3)) (hk : lv[q]? = some (i, .int x)) (hv : x + Int32.ofInt n = v) (hn : Nat.blt i nL = true) (hl : (i, Value.int v) :: fil1 i lv = lv') (k : G F Y X nL em zf z (pc + 3) lv' rest hp o) : G F Y X nL em zf z pc lv rest hp o :=
  fun r hr ls H locs h1 h2 h3 => lv_iinc C.1 C.2.1 dd h1 hk hv (Nat.le_of_ble_eq_true hn) hl (fun ls' h' => k r hr ls' H locs h' h2 h3)
theorem q_iadd (C : Cx F Y X cc nL own ret d zf) {x y : Int32} (dd : decode cc pc = .ok (.iadd, 1)) (k : G F Y X nL em zf z (pc + 1) lv (.int (x + y) :: rest) hp o) : G F Y X nL em zf z pc lv (.int y :: .int x :: rest) hp o := fun r hr ls H locs h1 h2 h3 => lv_iadd C.1 C.2.1 dd (k r hr ls H locs h1 h2 h3)
theorem q_isub (C : Cx F Y X cc nL own ret d zf) {x y : Int32} (dd : decode cc pc = .ok (.isub, 1)) (k : G F Y X nL em zf z (pc + 1) lv (.int (x - y) :: rest) hp o) : G F Y X nL em zf z pc lv (.int y :: .int x :: rest) hp o := fun r hr ls H locs h1 h2 h3 => lv_isub C.1 C.2.1 dd (k r hr ls H locs h1 h2 h3)
theorem q_imul (C : Cx F Y X cc nL own ret d zf) {x y : Int32} (dd : decode cc pc = .ok (.imul, 1)) (k : G F Y X nL em zf z (pc + 1) lv (.int (x * y) :: rest) hp o) : G F Y X nL em zf z pc lv (.int y :: .int x :: rest) hp o := fun r hr ls H locs h1 h2 h3 => lv_imul C.1 C.2.1 dd (k r hr ls H locs h1 h2 h3)
theorem q_iand (C : Cx F Y X cc nL own ret d zf) {x y : Int32} (dd : decode cc pc = .ok (.iand, 1)) (k : G F Y X nL em zf z (pc + 1) lv (.int (x &&& y) :: rest) hp o) : G F Y X nL em zf z pc lv (.int y :: .int x :: rest) hp o := fun r hr ls H locs h1 h2 h3 => lv_iand C.1 C.2.1 dd (k r hr ls H locs h1 h2 h3)
theorem q_ior (C : Cx F Y X cc nL own ret d zf) {x y : Int32} (dd : decode cc pc = .ok (.ior, 1)) (k : G F Y X nL em zf z (pc + 1) lv (.int (x ||| y) :: rest) hp o) : G F Y X nL em zf z pc lv (.int y :: .int x :: rest) hp o := fun r hr ls H locs h1 h2 h3 => lv_ior C.1 C.2.1 dd (k r hr ls H locs h1 h2 h3)
theorem q_ixor (C : Cx F Y X cc nL own ret d zf) {x y : Int32} (dd : decode cc pc = .ok (.ixor, 1)) (k : G F Y X nL em zf z (pc + 1) lv (.int (x ^^^ y) :: rest) hp o) : G F Y X nL em zf z pc lv (.int y :: .int x :: rest) hp o := fun r hr ls H locs h1 h2 h3 => lv_ixor C.1 C.2.1 dd (k r hr ls H locs h1 h2 h3)
theorem q_ishl (C : Cx F Y X cc nL own ret d zf) {x y : Int32} (dd : decode cc pc = .ok (.ishl, 1)) (k : G F Y X nL em zf z (pc + 1) lv (.int (x <<< (y &&& 31)) :: rest) hp o) : G F Y X nL em zf z pc lv (.int y :: .int x :: rest) hp o := fun r hr ls H locs h1 h2 h3 => lv_ishl C.1 C.2.1 dd (k r hr ls H locs h1 h2 h3)
theorem q_ishr (C : Cx F Y X cc nL own ret d zf) {x y : Int32} (dd : decode cc pc = .ok (.ishr, 1)) (k : G F Y X nL em zf z (pc + 1) lv (.int (x >>> (y &&& 31)) :: rest) hp o) : G F Y X nL em zf z pc lv (.int y :: .int x :: rest) hp o := fun r hr ls H locs h1 h2 h3 => lv_ishr C.1 C.2.1 dd (k r hr ls H locs h1 h2 h3)
def iush (x y : Int32) : Int32 := (x.toUInt32 >>> (y.toUInt32 &&& Int32.toUInt32 31)).toInt32
theorem q_iushr (C : Cx F Y X cc nL own ret d zf) {x y : Int32} (dd : decode cc pc = .ok (.iushr, 1)) (k : G F Y X nL em zf z (pc + 1) lv (.int (iush x y) :: rest) hp o) : G F Y X nL em zf z pc lv (.int y :: .int x :: rest) hp o := fun r hr ls H locs h1 h2 h3 => lv_iushr C.1 C.2.1 dd rfl (k r hr ls H locs h1 h2 h3)
theorem q_ineg (C : Cx F Y X cc nL own ret d zf) {x : Int32} (dd : decode cc pc = .ok (.ineg, 1)) (k : G F Y X nL em zf z (pc + 1) lv (.int (-x) :: rest) hp o) : G F Y X nL em zf z pc lv (.int x :: rest) hp o := fun r hr ls H locs h1 h2 h3 => lv_ineg C.1 C.2.1 dd (k r hr ls H locs h1 h2 h3)
def irm (x y : Int32) : Int32 := x - x / y * y
theorem q_idiv (C : Cx F Y X cc nL own ret d zf) {x y : Int32} (dd : decode cc pc = .ok (.idiv, 1)) (hne : ¬ y = 0) (k : G F Y X nL em zf z (pc + 1) lv (.int (x / y) :: rest) hp o) : G F Y X nL em zf z pc lv (.int y :: .int x :: rest) hp o := fun r hr ls H locs h1 h2 h3 => lv_idiv C.1 C.2.1 dd hne (k r hr ls H locs h1 h2 h3)
theorem q_irem (C : Cx F Y X cc nL own ret d zf) {x y : Int32} (dd : decode cc pc = .ok (.irem, 1)) (hne : ¬ y = 0) (k : G F Y X nL em zf z (pc + 1) lv (.int (irm x y) :: rest) hp o) : G F Y X nL em zf z pc lv (.int y :: .int x :: rest) hp o := fun r hr ls H locs h1 h2 h3 => lv_irem C.1 C.2.1 dd hne (k r hr ls H locs h1 h2 h3)
theorem q_idivz (C : Cx F Y X cc nL own ret d zf) {x y : Int32} (dd : decode cc pc = .ok (.idiv, 1)) (k : ¬ y = 0 → G F Y X nL em zf z (pc + 1) lv (.int (x / y) :: rest) hp o) : G F Y X nL em zf z pc lv (.int y :: .int x :: rest) hp (if y = 0 then none else o) := G.ite (fun _ => G.none) (fun h => q_idiv C dd h (k h))
theorem q_iremz (C : Cx F Y X cc nL own ret d zf) {x y : Int32} (dd : decode cc pc = .ok (.irem, 1)) (k : ¬ y = 0 → G F Y X nL em zf z (pc + 1) lv (.int (irm x y) :: rest) hp o) : G F Y X nL em zf z pc lv (.int y :: .int x :: rest) hp (if y = 0 then none else o) := G.ite (fun _ => G.none) (fun h => q_irem C dd h (k h))
theorem q_land (C : Cx F Y X cc nL own ret d zf) {x y : Int64} (dd : decode cc pc = .ok (.land, 1)) (k : G F Y X nL em zf z (pc + 1) lv (.long (x &&& y) :: rest) hp o) : G F Y X nL em zf z pc lv (.long y :: .long x :: rest) hp o := fun r hr ls H locs h1 h2 h3 => lv_land C.1 C.2.1 dd (k r hr ls H locs h1 h2 h3)
theorem q_lor (C : Cx F Y X cc nL own ret d zf) {x y : Int64} (dd : decode cc pc = .ok (.lor, 1)) (k : G F Y X nL em zf z (pc + 1) lv (.long (x ||| y) :: rest) hp o) : G F Y X nL em zf z pc lv (.long y :: .long x :: rest) hp o := fun r hr ls H locs h1 h2 h3 => lv_lor C.1 C.2.1 dd (k r hr ls H locs h1 h2 h3)
theorem q_ladd (C : Cx F Y X cc nL own ret d zf) {x y : Int64} (dd : decode cc pc = .ok (.ladd, 1)) (k : G F Y X nL em zf z (pc + 1) lv (.long (x + y) :: rest) hp o) : G F Y X nL em zf z pc lv (.long y :: .long x :: rest) hp o := fun r hr ls H locs h1 h2 h3 => lv_ladd C.1 C.2.1 dd (k r hr ls H locs h1 h2 h3)
def lush (x : Int64) (y : Int32) : Int64 := (x.toUInt64 >>> (y.toInt64.toUInt64 &&& Int64.toUInt64 63)).toInt64
theorem q_lushr (C : Cx F Y X cc nL own ret d zf) {x : Int64} {y : Int32} (dd : decode cc pc = .ok (.lushr, 1)) (k : G F Y X nL em zf z (pc + 1) lv (.long (lush x y) :: rest) hp o) : G F Y X nL em zf z pc lv (.int y :: .long x :: rest) hp o := fun r hr ls H locs h1 h2 h3 => lv_lushr C.1 C.2.1 dd rfl (k r hr ls H locs h1 h2 h3)
theorem q_lshr (C : Cx F Y X cc nL own ret d zf) {x : Int64} {y : Int32} (dd : decode cc pc = .ok (.lshr, 1)) (k : G F Y X nL em zf z (pc + 1) lv (.long (x >>> (y.toInt64 &&& 63)) :: rest) hp o) : G F Y X nL em zf z pc lv (.int y :: .long x :: rest) hp o := fun r hr ls H locs h1 h2 h3 => lv_lshr C.1 C.2.1 dd rfl (k r hr ls H locs h1 h2 h3)
theorem q_lshl (C : Cx F Y X cc nL own ret d zf) {x : Int64} {y : Int32} (dd : decode cc pc = .ok (.lshl, 1)) (k : G F Y X nL em zf z (pc + 1) lv (.long (x <<< (y.toInt64 &&& 63)) :: rest) hp o) : G F Y X nL em zf z pc lv (.int y :: .long x :: rest) hp o := fun r hr ls H locs h1 h2 h3 => lv_lshl C.1 C.2.1 dd rfl (k r hr ls H locs h1 h2 h3)
theorem q_i2l (C : Cx F Y X cc nL own ret d zf) {x : Int32} (dd : decode cc pc = .ok (.i2l, 1)) (k : G F Y X nL em zf z (pc + 1) lv (.long x.toInt64 :: rest) hp o) : G F Y X nL em zf z pc lv (.int x :: rest) hp o := fun r hr ls H locs h1 h2 h3 => lv_i2l C.1 C.2.1 dd rfl (k r hr ls H locs h1 h2 h3)
theorem q_l2i (C : Cx F Y X cc nL own ret d zf) {x : Int64} (dd : decode cc pc = .ok (.l2i, 1)) (k : G F Y X nL em zf z (pc + 1) lv (.int x.toInt32 :: rest) hp o) : G F Y X nL em zf z pc lv (.long x :: rest) hp o := fun r hr ls H locs h1 h2 h3 => lv_l2i C.1 C.2.1 dd rfl (k r hr ls H locs h1 h2 h3)
theorem q_i2b (C : Cx F Y X cc nL own ret d zf) {x : Int32} (dd : decode cc pc = .ok (.i2b, 1)) (k : G F Y X nL em zf z (pc + 1) lv (.int x.toInt8.toInt32 :: rest) hp o) : G F Y X nL em zf z pc lv (.int x :: rest) hp o := fun r hr ls H locs h1 h2 h3 => lv_i2b C.1 C.2.1 dd rfl (k r hr ls H locs h1 h2 h3)
theorem q_i2s (C : Cx F Y X cc nL own ret d zf) {x : Int32} (dd : decode cc pc = .ok (.i2s, 1)) (k : G F Y X nL em zf z (pc + 1) lv (.int x.toInt16.toInt32 :: rest) hp o) : G F Y X nL em zf z pc lv (.int x :: rest) hp o := fun r hr ls H locs h1 h2 h3 => lv_i2s C.1 C.2.1 dd rfl (k r hr ls H locs h1 h2 h3)
theorem q_i2c (C : Cx F Y X cc nL own ret d zf) {x : Int32} (dd : decode cc pc = .ok (.i2c, 1)) (k : G F Y X nL em zf z (pc + 1) lv (.int (x.toUInt32 % 65536).toInt32 :: rest) hp o) : G F Y X nL em zf z pc lv (.int x :: rest) hp o := fun r hr ls H locs h1 h2 h3 => lv_i2c C.1 C.2.1 dd rfl (k r hr ls H locs h1 h2 h3)
theorem q_lcmp (C : Cx F Y X cc nL own ret d zf) {x y : Int64} (dd : decode cc pc = .ok (.lcmp, 1)) (k : G F Y X nL em zf z (pc + 1) lv (.int (lg_cmp x y) :: rest) hp o) : G F Y X nL em zf z pc lv (.long y :: .long x :: rest) hp o := fun r hr ls H locs h1 h2 h3 => W.lcmp C.1 C.2.1 dd (k r hr ls H locs h1 h2 h3)
theorem q_dup (C : Cx F Y X cc nL own ret d zf) {v : Value} (dd : decode cc pc = .ok (.dup, 1)) (hv : v.category = 1) (k : G F Y X nL em zf z (pc + 1) lv (v :: v :: rest) hp o) : G F Y X nL em zf z pc lv (v :: rest) hp o := fun r hr ls H locs h1 h2 h3 => lv_dup C.1 C.2.1 dd hv (k r hr ls H locs h1 h2 h3)
theorem q_pop (C : Cx F Y X cc nL own ret d zf) {v : Value} (dd : decode cc pc = .ok (.pop, 1)) (hv : v.category = 1) (k : G F Y X nL em zf z (pc + 1) lv rest hp o) : G F Y X nL em zf z pc lv (v :: rest) hp o := fun r hr ls H locs h1 h2 h3 => lv_pop C.1 C.2.1 dd hv (k r hr ls H locs h1 h2 h3)
theorem q_dup_x1 (C : Cx F Y X cc nL own ret d zf) {va vb : Value} (dd : decode cc pc = .ok (.dup_x1, 1)) (hva : va.category = 1) (hvb : vb.category = 1) (k : G F Y X nL em zf z (pc + 1) lv (va :: vb :: va :: rest) hp o) : G F Y X nL em zf z pc lv (va :: vb :: rest) hp o := fun r hr ls H locs h1 h2 h3 => lv_dup_x1 C.1 C.2.1 dd hva hvb (k r hr ls H locs h1 h2 h3)
theorem q_dup_x2 (C : Cx F Y X cc nL own ret d zf) {va vb vd : Value} (dd : decode cc pc = .ok (.dup_x2, 1)) (hva : va.category = 1) (hvb : vb.category = 1) (hvd : vd.category = 1) (k : G F Y X nL em zf z (pc + 1) lv (va :: vb :: vd :: va :: rest) hp o) : G F Y X nL em zf z pc lv (va :: vb :: vd :: rest) hp o := fun r hr ls H locs h1 h2 h3 => lv_dup_x2 C.1 C.2.1 dd hva hvb hvd (k r hr ls H locs h1 h2 h3)
theorem q_dup2 (C : Cx F Y X cc nL own ret d zf) {va vb : Value} (dd : decode cc pc = .ok (.dup2, 1)) (hva : va.category = 1) (hvb : vb.category = 1) (k : G F Y X nL em zf z (pc + 1) lv (va :: vb :: va :: vb :: rest) hp o) : G F Y X nL em zf z pc lv (va :: vb :: rest) hp o := fun r hr ls H locs h1 h2 h3 => lv_dup2_11 C.1 C.2.1 dd hva hvb (k r hr ls H locs h1 h2 h3)
theorem q_goto (C : Cx F Y X cc nL own ret d zf) {off : Int} (tgt : Nat) (dd : decode cc pc = .ok (.goto off, 3)) (ht : (pc : Int) + off = (tgt : Int)) (k : G F Y X nL em zf z tgt lv rest hp o) : G F Y X nL em zf z pc lv rest hp o := fun r hr ls H locs h1 h2 h3 => lv_goto C.1 C.2.1 dd ht (k r hr ls H locs h1 h2 h3)
theorem q_icmp_eq (C : Cx F Y X cc nL own ret d zf) {x y : Int32} {off : Int} {ot of : Option ρ} (tgt : Nat) (dd : decode cc pc = .ok (.if_icmp .eq off, 3)) (ht : (pc : Int) + off = (tgt : Int)) (kt : x = y → G F Y X nL em zf z tgt lv rest hp ot) (kf : ¬ x = y → G F Y X nL em zf z (pc + 3) lv rest hp of) : G F Y X nL em zf z pc lv (.int y :: .int x :: rest) hp (if x = y then ot else of) :=
  fun r hr ls H locs h1 h2 h3 => lv_icmp_eq C.1 C.2.1 dd ht (fun h => kt h r (by rw [if_pos h] at hr; exact hr) ls H locs h1 h2 h3) (fun h => kf h r (by rw [if_neg h] at hr; exact hr) ls H locs h1 h2 h3)
theorem q_icmp_ne (C : Cx F Y X cc nL own ret d zf) {x y : Int32} {off : Int} {ot of : Option ρ} (tgt : Nat) (dd : decode cc pc = .ok (.if_icmp .ne off, 3)) (ht : (pc : Int) + off = (tgt : Int)) (kt : ¬ x = y → G F Y X nL em zf z tgt lv rest hp ot) (kf : x = y → G F Y X nL em zf z (pc + 3) lv rest hp of) : G F Y X nL em zf z pc lv (.int y :: .int x :: rest) hp (if x = y then of else ot) :=
  fun r hr ls H locs h1 h2 h3 => lv_icmp_ne C.1 C.2.1 dd ht (fun h => kt h r (by rw [if_neg h] at hr; exact hr) ls H locs h1 h2 h3) (fun h => kf h r (by rw [if_pos h] at hr; exact hr) ls H locs h1 h2 h3)
theorem q_icmp_lt (C : Cx F Y X cc nL own ret d zf) {x y : Int32} {off : Int} {ot of : Option ρ} (tgt : Nat) (dd : decode cc pc = .ok (.if_icmp .lt off, 3)) (ht : (pc : Int) + off = (tgt : Int)) (kt : x < y → G F Y X nL em zf z tgt lv rest hp ot) (kf : ¬ x < y → G F Y X nL em zf z (pc + 3) lv rest hp of) : G F Y X nL em zf z pc lv (.int y :: .int x :: rest) hp (if x < y then ot else of) :=
  fun r hr ls H locs h1 h2 h3 => lv_icmp_lt C.1 C.2.1 dd ht (fun h => kt h r (by rw [if_pos h] at hr; exact hr) ls H locs h1 h2 h3) (fun h => kf h r (by rw [if_neg h] at hr; exact hr) ls H locs h1 h2 h3)
theorem q_icmp_ge (C : Cx F Y X cc nL own ret d zf) {x y : Int32} {off : Int} {ot of : Option ρ} (tgt : Nat) (dd : decode cc pc = .ok (.if_icmp .ge off, 3)) (ht : (pc : Int) + off = (tgt : Int)) (kt : y ≤ x → G F Y X nL em zf z tgt lv rest hp ot) (kf : ¬ y ≤ x → G F Y X nL em zf z (pc + 3) lv rest hp of) : G F Y X nL em zf z pc lv (.int y :: .int x :: rest) hp (if y ≤ x then ot else of) :=
  fun r hr ls H locs h1 h2 h3 => lv_icmp_ge C.1 C.2.1 dd ht (fun h => kt h r (by rw [if_pos h] at hr; exact hr) ls H locs h1 h2 h3) (fun h => kf h r (by rw [if_neg h] at hr; exact hr) ls H locs h1 h2 h3)
theorem q_icmp_gt (C : Cx F Y X cc nL own ret d zf) {x y : Int32} {off : Int} {ot of : Option ρ} (tgt : Nat) (dd : decode cc pc = .ok (.if_icmp .gt off, 3)) (ht : (pc : Int) + off = (tgt : Int)) (kt : y < x → G F Y X nL em zf z tgt lv rest hp ot) (kf : ¬ y < x → G F Y X nL em zf z (pc + 3) lv rest hp of) : G F Y X nL em zf z pc lv (.int y :: .int x :: rest) hp (if y < x then ot else of) :=
  fun r hr ls H locs h1 h2 h3 => lv_icmp_gt C.1 C.2.1 dd ht (fun h => kt h r (by rw [if_pos h] at hr; exact hr) ls H locs h1 h2 h3) (fun h => kf h r (by rw [if_neg h] at hr; exact hr) ls H locs h1 h2 h3)
theorem q_icmp_le (C : Cx F Y X cc nL own ret d zf) {x y : Int32} {off : Int} {ot of : Option ρ} (tgt : Nat) (dd : decode cc pc = .ok (.if_icmp .le off, 3)) (ht : (pc : Int) + off = (tgt : Int)) (kt : x ≤ y → G F Y X nL em zf z tgt lv rest hp ot) (kf : ¬ x ≤ y → G F Y X nL em zf z (pc + 3) lv rest hp of) : G F Y X nL em zf z pc lv (.int y :: .int x :: rest) hp (if x ≤ y then ot else of) :=
  fun r hr ls H locs h1 h2 h3 => lv_icmp_le C.1 C.2.1 dd ht (fun h => kt h r (by rw [if_pos h] at hr; exact hr) ls H locs h1 h2 h3) (fun h => kf h r (by rw [if_neg h] at hr; exact hr) ls H locs h1 h2 h3)
theorem q_if_eq (C : Cx F Y X cc nL own ret d zf) {x : Int32} {off : Int} {ot of : Option ρ} (tgt : Nat) (dd : decode cc pc = .ok (.ifCond .eq off, 3)) (ht : (pc : Int) + off = (tgt : Int)) (kt : x = 0 → G F Y X nL em zf z tgt lv rest hp ot) (kf : ¬ x = 0 → G F Y X nL em zf z (pc + 3) lv rest hp of) : G F Y X nL em zf z pc lv (.int x :: rest) hp (if x = 0 then ot else of) :=
  fun r hr ls H locs h1 h2 h3 => lv_if_eq C.1 C.2.1 dd ht (fun h => kt h r (by rw [if_pos h] at hr; exact hr) ls H locs h1 h2 h3) (fun h => kf h r (by rw [if_neg h] at hr; exact hr) ls H locs h1 h2 h3)
theorem q_if_ne (C : Cx F Y X cc nL own ret d zf) {x : Int32} {off : Int} {ot of : Option ρ} (tgt : Nat) (dd : decode cc pc = .ok (.ifCond .ne off, 3)) (ht : (pc : Int) + off = (tgt : Int)) (kt : ¬ x = 0 → G F Y X nL em zf z tgt lv rest hp ot) (kf : x = 0 → G F Y X nL em zf z (pc + 3) lv rest hp of) : G F Y X nL em zf z pc lv (.int x :: rest) hp (if x = 0 then of else ot) :=
  fun r hr ls H locs h1 h2 h3 => lv_if_ne C.1 C.2.1 dd ht (fun h => kt h r (by rw [if_neg h] at hr; exact hr) ls H locs h1 h2 h3) (fun h => kf h r (by rw [if_pos h] at hr; exact hr) ls H locs h1 h2 h3)
theorem q_if_lt (C : Cx F Y X cc nL own ret d zf) {x : Int32} {off : Int} {ot of : Option ρ} (tgt : Nat) (dd : decode cc pc = .ok (.ifCond .lt off, 3)) (ht : (pc : Int) + off = (tgt : Int)) (kt : x < 0 → G F Y X nL em zf z tgt lv rest hp ot) (kf : ¬ x < 0 → G F Y X nL em zf z (pc + 3) lv rest hp of) : G F Y X nL em zf z pc lv (.int x :: rest) hp (if x < 0 then ot else of) :=
  fun r hr ls H locs h1 h2 h3 => lv_if_lt C.1 C.2.1 dd ht (fun h => kt h r (by rw [if_pos h] at hr; exact hr) ls H locs h1 h2 h3) (fun h => kf h r (by rw [if_neg h] at hr; exact hr) ls H locs h1 h2 h3)
theorem q_if_ge (C : Cx F Y X cc nL own ret d zf) {x : Int32} {off : Int} {ot of : Option ρ} (tgt : Nat) (dd : decode cc pc = .ok (.ifCond .ge off, 3)) (ht : (pc : Int) + off = (tgt : Int)) (kt : 0 ≤ x → G F Y X nL em zf z tgt lv rest hp ot) (kf : ¬ 0 ≤ x → G F Y X nL em zf z (pc + 3) lv rest hp of) : G F Y X nL em zf z pc lv (.int x :: rest) hp (if 0 ≤ x then ot else of) :=
  fun r hr ls H locs h1 h2 h3 => lv_if_ge C.1 C.2.1 dd ht (fun h => kt h r (by rw [if_pos h] at hr; exact hr) ls H locs h1 h2 h3) (fun h => kf h r (by rw [if_neg h] at hr; exact hr) ls H locs h1 h2 h3)
theorem q_if_gt (C : Cx F Y X cc nL own ret d zf) {x : Int32} {off : Int} {ot of : Option ρ} (tgt : Nat) (dd : decode cc pc = .ok (.ifCond .gt off, 3)) (ht : (pc : Int) + off = (tgt : Int)) (kt : 0 < x → G F Y X nL em zf z tgt lv rest hp ot) (kf : ¬ 0 < x → G F Y X nL em zf z (pc + 3) lv rest hp of) : G F Y X nL em zf z pc lv (.int x :: rest) hp (if 0 < x then ot else of) :=
  fun r hr ls H locs h1 h2 h3 => lv_if_gt C.1 C.2.1 dd ht (fun h => kt h r (by rw [if_pos h] at hr; exact hr) ls H locs h1 h2 h3) (fun h => kf h r (by rw [if_neg h] at hr; exact hr) ls H locs h1 h2 h3)
theorem q_if_le (C : Cx F Y X cc nL own ret d zf) {x : Int32} {off : Int} {ot of : Option ρ} (tgt : Nat) (dd : decode cc pc = .ok (.ifCond .le off, 3)) (ht : (pc : Int) + off = (tgt : Int)) (kt : x ≤ 0 → G F Y X nL em zf z tgt lv rest hp ot) (kf : ¬ x ≤ 0 → G F Y X nL em zf z (pc + 3) lv rest hp of) : G F Y X nL em zf z pc lv (.int x :: rest) hp (if x ≤ 0 then ot else of) :=
  fun r hr ls H locs h1 h2 h3 => lv_if_le C.1 C.2.1 dd ht (fun h => kt h r (by rw [if_pos h] at hr; exact hr) ls H locs h1 h2 h3) (fun h => kf h r (by rw [if_neg h] at hr; exact hr) ls H locs h1 h2 h3)
theorem q_ifnull (C : Cx F Y X cc nL own ret d zf) {n : Nat} {off : Int} {ot of : Option ρ} (tgt : Nat) (dd : decode cc pc = .ok (.ifnull off, 3)) (ht : (pc : Int) + off = (tgt : Int)) (kt : n = 0 → G F Y X nL em zf z tgt lv rest hp ot) (kf : ¬ n = 0 → G F Y X nL em zf z (pc + 3) lv rest hp of) : G F Y X nL em zf z pc lv (nrf Y n :: rest) hp (if n = 0 then ot else of) := by
  intro r hr ls H locs h1 h2 h3
  by_cases h : n = 0
  · rw [show nrf Y n = .null by unfold nrf; rw [if_pos h]]
    exact lv_ifnullN C.1 C.2.1 dd ht (kt h r (by rw [if_pos h] at hr; exact hr) ls H locs h1 h2 h3)
  · rw [show nrf Y n = Rf Y n by unfold nrf; rw [if_neg h]]
    exact lv_ifnull C.1 C.2.1 dd (kf h r (by rw [if_neg h] at hr; exact hr) ls H locs h1 h2 h3)
theorem q_ifnonnull (C : Cx F Y X cc nL own ret d zf) {n : Nat} {off : Int} {ot of : Option ρ} (tgt : Nat) (dd : decode cc pc = .ok (.ifnonnull off, 3)) (ht : (pc : Int) + off = (tgt : Int)) (kt : ¬ n = 0 → G F Y X nL em zf z tgt lv rest hp ot) (kf : n = 0 → G F Y X nL em zf z (pc + 3) lv rest hp of) : G F Y X nL em zf z pc lv (nrf Y n :: rest) hp (if n = 0 then of else ot) := by
  intro r hr ls H locs h1 h2 h3
  by_cases h : n = 0
  · rw [show nrf Y n = .null by unfold nrf; rw [if_pos h]]
    exact lv_ifnonnullN C.1 C.2.1 dd (kf h r (by rw [if_pos h] at hr; exact hr) ls H locs h1 h2 h3)
  · rw [show nrf Y n = Rf Y n by unfold nrf; rw [if_neg h]]
    exact lv_ifnonnull C.1 C.2.1 dd ht (kt h r (by rw [if_neg h] at hr; exact hr) ls H locs h1 h2 h3)
theorem q_null (C : Cx F Y X cc nL own ret d zf) (dd : decode cc pc = .ok (.aconst_null, 1)) (k : G F Y X nL em zf z (pc + 1) lv (nrf Y 0 :: rest) hp o) : G F Y X nL em zf z pc lv rest hp o :=
  fun r hr ls H locs h1 h2 h3 => lv_null C.1 C.2.1 dd (k r hr ls H locs h1 h2 h3)
/-- a nullable reference that is known not to be null -/
theorem G.nonnull {n : Nat} (h : ¬ n = 0) (k : G F Y X nL em zf z pc lv (Rf Y n :: rest) hp o) : G F Y X nL em zf z pc lv (nrf Y n :: rest) hp o := by
  rw [show nrf Y n = Rf Y n by unfold nrf; rw [if_neg h]]; exact k
theorem q_tsw_in (C : Cx F Y X cc nL own ret d zf) {dflt lo hi : Int} {offs : Array Int} {len : Nat} {x : Int32} {off : Int} (tgt : Nat) (dd : decode cc pc = .ok (.tableswitch dflt lo hi offs, len)) {v : Int32} (hx : x = v) (h1 : ¬ v.toInt < lo) (h2 : ¬ hi < v.toInt) (ho : offs[(v.toInt - lo).toNat]? = some off) (ht : (pc : Int) + off = (tgt : Int)) (k : G F Y X nL em zf z tgt lv rest hp o) : G F Y X nL em zf z pc lv (.int x :: rest) hp o := by
  subst hx
  exact fun r hr ls H locs a1 a2 a3 => lv_tableIn C.1 C.2.1 dd h1 h2 ho ht (k r hr ls H locs a1 a2 a3)
theorem q_tsw_out (C : Cx F Y X cc nL own ret d zf) {dflt lo hi : Int} {offs : Array Int} {len : Nat} {x : Int32} (tgt : Nat) (dd : decode cc pc = .ok (.tableswitch dflt lo hi offs, len)) (h : x.toInt < lo ∨ hi < x.toInt) (ht : (pc : Int) + dflt = (tgt : Int)) (k : G F Y X nL em zf z tgt lv rest hp o) : G F Y X nL em zf z pc lv (.int x :: rest) hp o :=
  fun r hr ls H locs a1 a2 a3 => lv_tableOut C.1 C.2.1 dd h ht (k r hr ls H locs a1 a2 a3)
theorem q_lsw (C : Cx F Y X cc nL own ret d zf) {dflt : Int} {ps : Array (Int × Int)} {len : Nat} {x : Int32} {off : Int} (tgt : Nat) (dd : decode cc pc = .ok (.lookupswitch dflt ps, len)) (hp0 : (ps.toList.zip (ps.toList.drop 1)).all (fun (a, next) => a.1 < next.1) = true) (ho : Op.lookupswitch.offset ps.toList dflt x.toInt = off) (ht : (pc : Int) + off = (tgt : Int)) (k : G F Y X nL em zf z tgt lv rest hp o) : G F Y X nL em zf z pc lv (.int x :: rest) hp o :=
  fun r hr ls H locs a1 a2 a3 => lv_lookup C.1 C.2.1 dd hp0 ho ht (k r hr ls H locs a1 a2 a3)
/-- returns -/
theorem q_ireti {F : FT} {Y : YT} {X : XT} {cc : ByteArray} {nL : Nat} {own : String} {d : Nat} {z : Nat × Nat} {em : ρ → Option Value × (Heap → Prop)} {pc : Nat} {lv : List (Nat × Value)} {hp : Heap → Prop} (C : Cx F Y X cc nL own (some .int) d z) {v : Int32} {r0 : ρ} (he : em r0 = (some (.int v), hp)) (dd : decode cc pc = .ok (.ireturn, 1)) : G F Y X nL em z z pc lv [.int v] hp (some r0) := by
  intro r hr ls H locs h1 h2 h3
  cases hr
  exact W.iret (v := v) C.1 C.2.1 C.2.2.2.2.2.2.2.1 (fun t ht hW => ⟨by rw [he], by rw [he, ht]; exact h2, h3.F ht⟩) h3.2.2 dd (hlocks := C.2.2.2.2.2.2.1)
theorem q_iretz {F : FT} {Y : YT} {X : XT} {cc : ByteArray} {nL : Nat} {own : String} {d : Nat} {z : Nat × Nat} {em : ρ → Option Value × (Heap → Prop)} {pc : Nat} {lv : List (Nat × Value)} {hp : Heap → Prop} (C : Cx F Y X cc nL own (some .boolean) d z) {v : Int32} {r0 : ρ} (hv : v = 0 ∨ v = 1) (he : em r0 = (some (.int v), hp)) (dd : decode cc pc = .ok (.ireturn, 1)) : G F Y X nL em z z pc lv [.int v] hp (some r0) := by
  intro r hr ls H locs h1 h2 h3
  cases hr
  exact W.zret (v := v) C.1 C.2.1 C.2.2.2.2.2.2.2.1 (by rcases hv with rfl | rfl <;> rfl) (fun t ht hW => ⟨by rw [he], by rw [he, ht]; exact h2, h3.F ht⟩) h3.2.2 dd (hlocks := C.2.2.2.2.2.2.1)
theorem q_vret {F : FT} {Y : YT} {X : XT} {cc : ByteArray} {nL : Nat} {own : String} {d : Nat} {z : Nat × Nat} {em : ρ → Option Value × (Heap → Prop)} {pc : Nat} {lv : List (Nat × Value)} {hp : Heap → Prop} (C : Cx F Y X cc nL own none d z) {r0 : ρ} (he : em r0 = (none, hp)) (dd : decode cc pc = .ok (.return_, 1)) : G F Y X nL em z z pc lv [] hp (some r0) := by
  intro r hr ls H locs h1 h2 h3
  cases hr
  exact W.vret C.1 C.2.1 C.2.2.2.2.2.2.2.1 (fun t ht hW => ⟨by rw [he], by rw [he, ht]; exact h2, h3.F ht⟩) h3.2.2 dd (hlocks := C.2.2.2.2.2.2.1)
theorem q_aret {F : FT} {Y : YT} {X : XT} {cc : ByteArray} {nL : Nat} {own nm : String} {d : Nat} {z : Nat × Nat} {em : ρ → Option Value × (Heap → Prop)} {pc : Nat} {lv : List (Nat × Value)} {hp : Heap → Prop} (C : Cx F Y X cc nL own (some (.object nm)) d z) {v : Value} {r0 : ρ} (hv : v = .null ∨ ∃ a, v = .ref a) (he : em r0 = (some v, hp)) (dd : decode cc pc = .ok (.areturn, 1)) : G F Y X nL em z z pc lv [v] hp (some r0) := by
  intro r hr ls H locs h1 h2 h3
  cases hr
  exact W.aret (v := v) C.1 C.2.1 C.2.2.2.2.2.2.2.1 (Or.inl ⟨nm, rfl⟩) hv (fun t ht hW => ⟨by rw [he], by rw [he, ht]; exact h2, h3.F ht⟩) h3.2.2 dd (hlocks := C.2.2.2.2.2.2.1)
theorem nrf_ref (Y : YT) (n : Nat) : nrf Y n = .null ∨ ∃ a, nrf Y n = .ref a := by
  unfold nrf
  split
  · exact Or.inl rfl
  · exact Or.inr ⟨_, rfl⟩
end ROWS
/-! calls -/
theorem Ex.same {F : FT} {Y : YT} {s U : State} (h : Ex F Y s) (hv : s.vm = U.vm) (hh : U.heap = s.heap) : Ex F Y U := by
  obtain ⟨h1, h2, h3, h4, ⟨t0, t1, a1, a2, a3, a4⟩, h6⟩ := h
  have ha : s.vm.Alike U.vm := by rw [← hv]; exact Vm.Alike.refl _
  rw [← hh] at h3 a1 a2 a3 a4 h6
  exact ⟨va_K.moved ha h1, fun q hq => va_Nw.same rfl hv (h2 q hq), vk_S.moved ha h3, fun q hq => vk_R.same hv.symm (h4 q hq), ⟨t0, t1, va_Z.moved ha a1, va_Z.moved ha a2, va_T.moved ha a3, va_T.moved ha a4⟩, va_Z.moved ha h6⟩
theorem PcG.blind {F : FT} {Y : YT} {as : List Value} {hp : Heap → Prop} : FrameBlind (PcG F Y as hp) := fun a U g mk q => ⟨q.1, q.2.1, q.2.2.same rfl rfl⟩
def LkV (own : String) (idx : Nat) (y : MethodName) (bytes : ByteArray) (maxL : Nat) (ret : Option FieldType) (n : Nat) : Prop :=
  (∀ w ∈ [Cond.methodLink own idx y, .instanceMethod y, .selects y.cls y y, .initialized y.cls, .code y bytes maxL ret], w ∈ TB) ∧ y.cls ≠ "java/lang/invoke/MethodHandle" ∧ y.cls ≠ "java/lang/invoke/VarHandle" ∧ (parseMethodDescriptor y.desc).map (fun d => d.parameters.length) = some n
def LkS (own : String) (idx : Nat) (y : MethodName) (bytes : ByteArray) (maxL : Nat) (ret : Option FieldType) (n : Nat) : Prop :=
  (∀ w ∈ [Cond.methodLink own idx y, .static y, .initialized y.cls, .code y bytes maxL ret], w ∈ TB) ∧ y.cls ≠ "java/lang/invoke/MethodHandle" ∧ y.cls ≠ "java/lang/invoke/VarHandle" ∧ (parseMethodDescriptor y.desc).map (fun d => d.parameters.length) = some n
def LkSN (own : String) (idx : Nat) (y : MethodName) (host : String) (bytes : ByteArray) (maxL : Nat) (ret : Option FieldType) (n : Nat) : Prop :=
  (∀ w ∈ [Cond.static y, .initialized y.cls, .code y bytes maxL ret], w ∈ TB) ∧ (own, idx, y, host) ∈ NW ∧ y.cls ≠ "java/lang/invoke/MethodHandle" ∧ y.cls ≠ "java/lang/invoke/VarHandle" ∧ (parseMethodDescriptor y.desc).map (fun d => d.parameters.length) = some n
def LkI (own : String) (idx : Nat) (y : MethodName) (bytes : ByteArray) (maxL : Nat) (n : Nat) : Prop :=
  (∀ w ∈ [Cond.methodLink own idx y, .instanceMethod y, .initialized y.cls, .code y bytes maxL none], w ∈ TB) ∧ y.name = "<init>" ∧ y.cls ≠ "java/lang/invoke/MethodHandle" ∧ y.cls ≠ "java/lang/invoke/VarHandle" ∧ (parseMethodDescriptor y.desc).map (fun d => d.parameters.length) = some n
def LkIN (own : String) (idx : Nat) (y : MethodName) (host : String) (bytes : ByteArray) (maxL : Nat) (n : Nat) : Prop :=
  (∀ w ∈ [Cond.instanceMethod y, .initialized y.cls, .code y bytes maxL none], w ∈ TB) ∧ (own, idx, y, host) ∈ NW ∧ y.name = "<init>" ∧ y.cls ≠ "java/lang/invoke/MethodHandle" ∧ y.cls ≠ "java/lang/invoke/VarHandle" ∧ (parseMethodDescriptor y.desc).map (fun d => d.parameters.length) = some n
theorem good_w {w : Cond} (h : w ∈ TB) : w ∈ TB ∧ ((w.onTables && w.keeps) = true ∨ ∃ ty, w = .arrayClass ty) := TB_good w h
theorem good_ws {w : Cond} {l : List Cond} (hc : w ∈ TB) (hl : ∀ x ∈ l, x ∈ TB) : GoodIn TB (l ++ w :: TB) := by
  intro x hx
  rcases List.mem_append.mp hx with h | h
  · exact good_w (hl x h)
  · rcases List.mem_cons.mp h with h | h
    · exact h ▸ good_w hc
    · exact good_w h
section CALLS
variable {ρ : Type} {F : FT} {Y : YT} {X : XT} {cc : ByteArray} {nL : Nat} {own : String} {ret : Option FieldType} {d : Nat} {zf z : Nat × Nat} {em : ρ → Option Value × (Heap → Prop)} {pc : Nat} {lv : List (Nat × Value)} {rest st : List Value} {hp hp' : Heap → Prop} {o : Option ρ}
variable {idx : Nat} {y : MethodName} {host : String} {bytes : ByteArray} {maxL n d' mc ms b : Nat} {ret' : Option FieldType} {As : List Value} {v : Option Value}
theorem q_back {ls : Array Slot} {H : Heap} {locs : List Loc} {Q : State → Prop} (h3 : va_S (AF F Y) (sX X).heap H locs) {a : Array Value}
    (run : va_Run X.1 X.2.1 X.2.2.1 X.2.2.2.1 (sX X) X.2.2.2.2.2.1 X.2.2.2.2.2.2.1 X.2.2.2.2.2.2.2.1 X.2.2.2.2.2.2.2.2.1 X.2.2.2.2.2.2.2.2.2 H locs z.1 z.2 mc ms (F0 X.2.2.2.2.2.1 pc ls st) rest (Qof (AF F Y) v hp' a) (AF F Y))
    (k : ∀ (H1 : Heap) (locs1 : List Loc), hp' H1 → va_S (AF F Y) (sX X).heap H1 locs1 → W X.1 X.2.1 X.2.2.1 X.2.2.2.1 (sX X) X.2.2.2.2.2.1 X.2.2.2.2.2.2.1 X.2.2.2.2.2.2.2.1 X.2.2.2.2.2.2.2.2.1 X.2.2.2.2.2.2.2.2.2 H1 locs1 (z.1 + mc) (z.2 + ms) Q (F0 X.2.2.2.2.2.1 (pc + 3) ls (v.toList ++ rest))) :
    W X.1 X.2.1 X.2.2.1 X.2.2.2.1 (sX X) X.2.2.2.2.2.1 X.2.2.2.2.2.2.1 X.2.2.2.2.2.2.2.1 X.2.2.2.2.2.2.2.2.1 X.2.2.2.2.2.2.2.2.2 H locs z.1 z.2 Q (F0 X.2.2.2.2.2.1 pc ls st) := by
  intro T hT X0
  obtain ⟨v', st₀, t, T', L, h0, X', hL, e1, e2, ⟨hv', hh', hz1, hk1⟩, stp⟩ := run T hT X0
  cases hv'
  rw [h0] at hz1 hk1
  obtain ⟨t2, a1, b1⟩ := k T'.heap (locs ++ L) (by rw [e1]; exact hh')
    ⟨Nat.le_trans h3.1 (by rw [e1]; exact hz1), fun q h1 h2 => by rw [e1, hk1 q (Nat.lt_of_lt_of_le h1 h3.1) h2]; exact h3.2.1 q h1 h2, fun q hq => by
      rcases List.mem_append.mp hq with h | h
      · exact h3.2.2 q h
      · exact hL q h⟩ T' rfl X'
  exact ⟨t2, stp t2 a1, b1⟩
theorem rm_ok {R : Room} (hR : R = rmD d zf.1 zf.2) (hd : d' + 1 ≤ d) (hm : Nat.ble maxL 45 = true) : (rmD d' mc ms).frames + 1 ≤ R.frames ∧ 8 + (maxL + 11) + (rmD d' mc ms).locals ≤ R.locals := by
  have hm' := Nat.le_of_ble_eq_true hm
  subst hR
  refine ⟨hd, ?_⟩
  show 8 + (maxL + 11) + 64 * d' ≤ 64 * d
  omega
theorem q_callV (C : Cx F Y X cc nL own ret d zf) (lk : LkV own idx y bytes maxL ret' n) (hct : Ct F Y y bytes maxL ret' d' mc ms (.ref b :: As) hp v hp') (hd : d' + 1 ≤ d) (hm : Nat.ble maxL 45 = true)
    (hrcv : ∀ (H : Heap) (locs : List Loc), hp H → va_S (AF F Y) (sX X).heap H locs → ∃ cell : Cell, H[b]? = some cell ∧ cell.vm.isStatics = false ∧ (sX X).vm.findClass y.cls = some cell.cls)
    (hn : As.length = n) (hst : st = As.reverse ++ .ref b :: rest) (hW : (rest.map fun v => v.category).sum ≤ 8) (dd : decode cc pc = .ok (.invokevirtual idx, 3)) (hz : z.1 + mc ≤ zf.1 ∧ z.2 + ms ≤ zf.2)
    (k : G F Y X nL em zf (z.1 + mc, z.2 + ms) (pc + 3) lv (v.toList ++ rest) hp' o) : G F Y X nL em zf z pc lv st hp o := by
  intro r hr ls H locs h1 h2 h3
  obtain ⟨hx, hb, hml, hown, hts, hE, hlocks, hret, hR⟩ := C
  obtain ⟨lw, c1, c2, c3⟩ := lk
  have hG : GoodIn TB (wsV own idx y.cls y (.code y bytes maxL ret' :: TB)) := good_ws (l := [Cond.methodLink own idx y, .instanceMethod y, .selects y.cls y y, .initialized y.cls]) (lw _ (by simp)) (fun x hx => lw x (by simp at hx ⊢; rcases hx with h | h | h | h <;> simp [h]))
  have cw := cwV (R := X.2.2.2.1) (args := X.2.2.2.2.2.2.1) (rm := rmD d' mc ms) n hts hG rfl rfl rfl ⟨rfl, c1, c2, c3⟩ (rm_ok hR hd hm)
  exact q_back h3 (va_runV ⟨hx, hb, hml, hown, hts⟩ (hct X.2.1) cw ⟨PcG.blind, hrcv H locs h2 h3, fun U hU hW => ⟨rfl, by rw [hU]; exact h2, hE.moved hW (by rw [hU]; exact h3.2.1)⟩⟩ rfl hn h1.1 hst (lv_room hW) dd (by rw [hR]; exact hz)) (fun H1 locs1 a1 a2 => k r hr ls H1 locs1 h1 a1 a2)
theorem q_callS (C : Cx F Y X cc nL own ret d zf) (lk : LkS own idx y bytes maxL ret' n) (hct : Ct F Y y bytes maxL ret' d' mc ms As hp v hp') (hd : d' + 1 ≤ d) (hm : Nat.ble maxL 45 = true)
    (hn : As.length = n) (hst : st = As.reverse ++ rest) (hW : (rest.map fun v => v.category).sum ≤ 8) (dd : decode cc pc = .ok (.invokestatic idx, 3)) (hz : z.1 + mc ≤ zf.1 ∧ z.2 + ms ≤ zf.2)
    (k : G F Y X nL em zf (z.1 + mc, z.2 + ms) (pc + 3) lv (v.toList ++ rest) hp' o) : G F Y X nL em zf z pc lv st hp o := by
  intro r hr ls H locs h1 h2 h3
  obtain ⟨hx, hb, hml, hown, hts, hE, hlocks, hret, hR⟩ := C
  obtain ⟨lw, c1, c2, c3⟩ := lk
  have hG : GoodIn TB (va_wsS own idx y (.code y bytes maxL ret' :: TB)) := good_ws (l := [Cond.methodLink own idx y, .static y, .initialized y.cls]) (lw _ (by simp)) (fun x hx => lw x (by simp at hx ⊢; rcases hx with h | h | h <;> simp [h]))
  have cw := va_cwS (R := X.2.2.2.1) (args := X.2.2.2.2.2.2.1) (rm := rmD d' mc ms) n hts hG rfl rfl rfl ⟨c1, c2, c3⟩ (rm_ok hR hd hm)
  exact q_back h3 (va_runS ⟨hx, hb, hml, hown, hts⟩ (hct X.2.1) cw ⟨PcG.blind, fun U hU hW => ⟨rfl, by rw [hU]; exact h2, hE.moved hW (by rw [hU]; exact h3.2.1)⟩⟩ rfl hn h1.1 hst (lv_room hW) dd (by rw [hR]; exact hz)) (fun H1 locs1 a1 a2 => k r hr ls H1 locs1 h1 a1 a2)
theorem q_callSN (C : Cx F Y X cc nL own ret d zf) (lk : LkSN own idx y host bytes maxL ret' n) (hct : Ct F Y y bytes maxL ret' d' mc ms As hp v hp') (hd : d' + 1 ≤ d) (hm : Nat.ble maxL 45 = true)
    (hn : As.length = n) (hst : st = As.reverse ++ rest) (hW : (rest.map fun v => v.category).sum ≤ 8) (dd : decode cc pc = .ok (.invokestatic idx, 3)) (hz : z.1 + mc ≤ zf.1 ∧ z.2 + ms ≤ zf.2)
    (k : G F Y X nL em zf (z.1 + mc, z.2 + ms) (pc + 3) lv (v.toList ++ rest) hp' o) : G F Y X nL em zf z pc lv st hp o := by
  intro r hr ls H locs h1 h2 h3
  obtain ⟨hx, hb, hml, hown, hts, hE, hlocks, hret, hR⟩ := C
  obtain ⟨lw, hnw, c1, c2, c3⟩ := lk
  have hG : GoodIn TB (.code y bytes maxL ret' :: TB) := good_ws (l := []) (lw _ (by simp)) (fun x hx => by cases hx)
  have cw := va_cnB (R := X.2.2.2.1) (args := X.2.2.2.2.2.2.1) (rm := rmD d' mc ms) n hts hG rfl rfl rfl (hE.2.1 _ hnw) (hts _ (lw _ (by simp))) ⟨c1, c2, c3⟩ (rm_ok hR hd hm)
  exact q_back h3 (va_runSN ⟨hx, hb, hml, hown, hts⟩ (hct X.2.1) ⟨cw, hts _ (lw _ (by simp)), trivial⟩ ⟨PcG.blind, fun U hU hW => ⟨rfl, by rw [hU]; exact h2, hE.moved hW (by rw [hU]; exact h3.2.1)⟩⟩ rfl hn h1.1 hst (lv_room hW) dd (by rw [hR]; exact hz)) (fun H1 locs1 a1 a2 => k r hr ls H1 locs1 h1 a1 a2)
theorem q_callI (C : Cx F Y X cc nL own ret d zf) (lk : LkI own idx y bytes maxL n) (hct : Ct F Y y bytes maxL none d' mc ms (.ref b :: As) hp none hp') (hd : d' + 1 ≤ d) (hm : Nat.ble maxL 45 = true)
    (hn : As.length = n) (hst : st = As.reverse ++ .ref b :: rest) (hW : (rest.map fun v => v.category).sum ≤ 8) (dd : decode cc pc = .ok (.invokespecial idx, 3)) (hz : z.1 + mc ≤ zf.1 ∧ z.2 + ms ≤ zf.2)
    (k : G F Y X nL em zf (z.1 + mc, z.2 + ms) (pc + 3) lv rest hp' o) : G F Y X nL em zf z pc lv st hp o := by
  intro r hr ls H locs h1 h2 h3
  obtain ⟨hx, hb, hml, hown, hts, hE, hlocks, hret, hR⟩ := C
  obtain ⟨lw, hi, c1, c2, c3⟩ := lk
  have hG : GoodIn TB (.code y bytes maxL none :: TB) := good_ws (l := []) (lw _ (by simp)) (fun x hx => by cases hx)
  have cw := cwI (R := X.2.2.2.1) (args := X.2.2.2.2.2.2.1) (rm := rmD d' mc ms) n hts hG rfl rfl rfl (hts _ (lw (.initialized y.cls) (by simp))) (hts _ (lw (.methodLink own idx y) (by simp))) (hts _ (lw (.instanceMethod y) (by simp))) hi ⟨c1, c2, c3⟩ (rm_ok hR hd hm)
  exact q_back (v := none) h3 (va_runI ⟨hx, hb, hml, hown, hts⟩ (hct X.2.1) cw ⟨PcG.blind, fun U hU hW => ⟨rfl, by rw [hU]; exact h2, hE.moved hW (by rw [hU]; exact h3.2.1)⟩⟩ rfl hn h1.1 hst (lv_room hW) dd (by rw [hR]; exact hz)) (fun H1 locs1 a1 a2 => k r hr ls H1 locs1 h1 a1 a2)
theorem q_callIN (C : Cx F Y X cc nL own ret d zf) (lk : LkIN own idx y host bytes maxL n) (hct : Ct F Y y bytes maxL none d' mc ms (.ref b :: As) hp none hp') (hd : d' + 1 ≤ d) (hm : Nat.ble maxL 45 = true)
    (hn : As.length = n) (hst : st = As.reverse ++ .ref b :: rest) (hW : (rest.map fun v => v.category).sum ≤ 8) (dd : decode cc pc = .ok (.invokespecial idx, 3)) (hz : z.1 + mc ≤ zf.1 ∧ z.2 + ms ≤ zf.2)
    (k : G F Y X nL em zf (z.1 + mc, z.2 + ms) (pc + 3) lv rest hp' o) : G F Y X nL em zf z pc lv st hp o := by
  intro r hr ls H locs h1 h2 h3
  obtain ⟨hx, hb, hml, hown, hts, hE, hlocks, hret, hR⟩ := C
  obtain ⟨lw, hnw, hi, c1, c2, c3⟩ := lk
  have hG : GoodIn TB (.code y bytes maxL none :: TB) := good_ws (l := []) (lw _ (by simp)) (fun x hx => by cases hx)
  have cw := va_cnB (R := X.2.2.2.1) (args := X.2.2.2.2.2.2.1) (rm := rmD d' mc ms) n hts hG rfl rfl rfl (hE.2.1 _ hnw) (hts _ (lw _ (by simp))) ⟨c1, c2, c3⟩ (rm_ok hR hd hm)
  exact q_back (v := none) h3 (va_runIN ⟨hx, hb, hml, hown, hts⟩ (hct X.2.1) ⟨cw, hi, hts _ (lw _ (by simp))⟩ ⟨PcG.blind, fun U hU hW => ⟨rfl, by rw [hU]; exact h2, hE.moved hW (by rw [hU]; exact h3.2.1)⟩⟩ rfl hn h1.1 hst (lv_room hW) dd (by rw [hR]; exact hz)) (fun H1 locs1 a1 a2 => k r hr ls H1 locs1 h1 a1 a2)
end CALLS
end
section
theorem zz_last : 1 = 1 := rfl
end
