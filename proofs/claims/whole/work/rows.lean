section
-- ===== PART A: goes FIRST, ahead of the names: the tables' words, and 'selects' of the private methods out of them =====
/-- a private method of a class that the tables say can be made, by its rows of tables_1 -/
def lw_okq (q : MethodName × Nat) : Prop := (q.1.cls ≠ "java/lang/invoke/MethodHandle" ∧ q.1.cls ≠ "java/lang/invoke/VarHandle") ∧ Cond.instantiable q.1.cls q.2 ∈ tables_1 ∧ Cond.privateMethod q.1 ∈ tables_1 ∧ Cond.instanceMethod q.1 ∈ tables_1
theorem lw_p0 : lw_okq (⟨"GridHouse$Tape", "learn", "(Ljava/lang/String;I)I"⟩, 8) := ⟨⟨by decide +kernel, by decide +kernel⟩, List.mem_of_getElem? (i := 37) (by decide +kernel), List.mem_of_getElem? (i := 45) (by decide +kernel), List.mem_of_getElem? (i := 46) (by decide +kernel)⟩
theorem lw_p1 : lw_okq (⟨"GridHouse$Tape", "readOn", "(I)V"⟩, 8) := ⟨⟨by decide +kernel, by decide +kernel⟩, List.mem_of_getElem? (i := 37) (by decide +kernel), List.mem_of_getElem? (i := 904) (by decide +kernel), List.mem_of_getElem? (i := 905) (by decide +kernel)⟩
theorem lw_p2 : lw_okq (⟨"GridHouse$Net", "readObject", "(LGridHouse$Tape;)Z"⟩, 8) := ⟨⟨by decide +kernel, by decide +kernel⟩, List.mem_of_getElem? (i := 130) (by decide +kernel), List.mem_of_getElem? (i := 909) (by decide +kernel), List.mem_of_getElem? (i := 910) (by decide +kernel)⟩
theorem lw_p3 : lw_okq (⟨"GridHouse$Net", "blank", "(II)V"⟩, 8) := ⟨⟨by decide +kernel, by decide +kernel⟩, List.mem_of_getElem? (i := 130) (by decide +kernel), List.mem_of_getElem? (i := 926) (by decide +kernel), List.mem_of_getElem? (i := 927) (by decide +kernel)⟩
theorem lw_p4 : lw_okq (⟨"GridHouse$Net", "readEnds", "(LGridHouse$Tape;II)Z"⟩, 8) := ⟨⟨by decide +kernel, by decide +kernel⟩, List.mem_of_getElem? (i := 130) (by decide +kernel), List.mem_of_getElem? (i := 938) (by decide +kernel), List.mem_of_getElem? (i := 939) (by decide +kernel)⟩
theorem lw_p5 : lw_okq (⟨"GridHouse$Net", "readState", "(LGridHouse$Tape;I)Z"⟩, 8) := ⟨⟨by decide +kernel, by decide +kernel⟩, List.mem_of_getElem? (i := 130) (by decide +kernel), List.mem_of_getElem? (i := 950) (by decide +kernel), List.mem_of_getElem? (i := 951) (by decide +kernel)⟩
theorem lw_p6 : lw_okq (⟨"GridHouse$Net", "readNumbers", "(LGridHouse$Tape;II)Z"⟩, 8) := ⟨⟨by decide +kernel, by decide +kernel⟩, List.mem_of_getElem? (i := 130) (by decide +kernel), List.mem_of_getElem? (i := 954) (by decide +kernel), List.mem_of_getElem? (i := 955) (by decide +kernel)⟩
theorem lw_p7 : lw_okq (⟨"GridHouse$Net", "agrees", "(III)Z"⟩, 8) := ⟨⟨by decide +kernel, by decide +kernel⟩, List.mem_of_getElem? (i := 130) (by decide +kernel), List.mem_of_getElem? (i := 971) (by decide +kernel), List.mem_of_getElem? (i := 972) (by decide +kernel)⟩
theorem lw_p8 : lw_okq (⟨"GridHouse", "changed", "()V"⟩, 15) := ⟨⟨by decide +kernel, by decide +kernel⟩, List.mem_of_getElem? (i := 29) (by decide +kernel), List.mem_of_getElem? (i := 1006) (by decide +kernel), List.mem_of_getElem? (i := 1007) (by decide +kernel)⟩
theorem lw_p9 : lw_okq (⟨"GridHouse$Rules", "readRule", "(LGridHouse$Tape;LGridHouse$Net;)Z"⟩, 20) := ⟨⟨by decide +kernel, by decide +kernel⟩, List.mem_of_getElem? (i := 757) (by decide +kernel), List.mem_of_getElem? (i := 1020) (by decide +kernel), List.mem_of_getElem? (i := 1021) (by decide +kernel)⟩
theorem lw_p10 : lw_okq (⟨"GridHouse$Rules", "put", "(I)V"⟩, 20) := ⟨⟨by decide +kernel, by decide +kernel⟩, List.mem_of_getElem? (i := 757) (by decide +kernel), List.mem_of_getElem? (i := 1028) (by decide +kernel), List.mem_of_getElem? (i := 1029) (by decide +kernel)⟩
theorem lw_p11 : lw_okq (⟨"GridHouse$Rules", "readCondition", "(LGridHouse$Tape;LGridHouse$Net;I)Z"⟩, 20) := ⟨⟨by decide +kernel, by decide +kernel⟩, List.mem_of_getElem? (i := 757) (by decide +kernel), List.mem_of_getElem? (i := 1032) (by decide +kernel), List.mem_of_getElem? (i := 1033) (by decide +kernel)⟩
theorem lw_p12 : lw_okq (⟨"GridHouse$Rules", "push", "(I)V"⟩, 20) := ⟨⟨by decide +kernel, by decide +kernel⟩, List.mem_of_getElem? (i := 757) (by decide +kernel), List.mem_of_getElem? (i := 1036) (by decide +kernel), List.mem_of_getElem? (i := 1037) (by decide +kernel)⟩
theorem lw_p13 : lw_okq (⟨"GridHouse$Rules", "readAsked", "(LGridHouse$Tape;)I"⟩, 20) := ⟨⟨by decide +kernel, by decide +kernel⟩, List.mem_of_getElem? (i := 757) (by decide +kernel), List.mem_of_getElem? (i := 1041) (by decide +kernel), List.mem_of_getElem? (i := 1042) (by decide +kernel)⟩
theorem lw_p14 : lw_okq (⟨"GridHouse$Rules", "readBound", "(LGridHouse$Tape;)Z"⟩, 20) := ⟨⟨by decide +kernel, by decide +kernel⟩, List.mem_of_getElem? (i := 757) (by decide +kernel), List.mem_of_getElem? (i := 1048) (by decide +kernel), List.mem_of_getElem? (i := 1049) (by decide +kernel)⟩
theorem lw_p15 : lw_okq (⟨"GridHouse$Rules", "readObjects", "(LGridHouse$Tape;LGridHouse$Net;II)Z"⟩, 20) := ⟨⟨by decide +kernel, by decide +kernel⟩, List.mem_of_getElem? (i := 757) (by decide +kernel), List.mem_of_getElem? (i := 1052) (by decide +kernel), List.mem_of_getElem? (i := 1053) (by decide +kernel)⟩
def lw_privs_1 : List (MethodName × Nat) := [(⟨"GridHouse$Tape", "learn", "(Ljava/lang/String;I)I"⟩, 8), (⟨"GridHouse$Tape", "readOn", "(I)V"⟩, 8), (⟨"GridHouse$Net", "readObject", "(LGridHouse$Tape;)Z"⟩, 8), (⟨"GridHouse$Net", "blank", "(II)V"⟩, 8), (⟨"GridHouse$Net", "readEnds", "(LGridHouse$Tape;II)Z"⟩, 8), (⟨"GridHouse$Net", "readState", "(LGridHouse$Tape;I)Z"⟩, 8), (⟨"GridHouse$Net", "readNumbers", "(LGridHouse$Tape;II)Z"⟩, 8), (⟨"GridHouse$Net", "agrees", "(III)Z"⟩, 8), (⟨"GridHouse", "changed", "()V"⟩, 15), (⟨"GridHouse$Rules", "readRule", "(LGridHouse$Tape;LGridHouse$Net;)Z"⟩, 20), (⟨"GridHouse$Rules", "put", "(I)V"⟩, 20), (⟨"GridHouse$Rules", "readCondition", "(LGridHouse$Tape;LGridHouse$Net;I)Z"⟩, 20), (⟨"GridHouse$Rules", "push", "(I)V"⟩, 20), (⟨"GridHouse$Rules", "readAsked", "(LGridHouse$Tape;)I"⟩, 20), (⟨"GridHouse$Rules", "readBound", "(LGridHouse$Tape;)Z"⟩, 20), (⟨"GridHouse$Rules", "readObjects", "(LGridHouse$Tape;LGridHouse$Net;II)Z"⟩, 20)]
theorem lw_r1 : ∀ q ∈ lw_privs_1, lw_okq q := List.forall_mem_cons.mpr ⟨lw_p0, List.forall_mem_cons.mpr ⟨lw_p1, List.forall_mem_cons.mpr ⟨lw_p2, List.forall_mem_cons.mpr ⟨lw_p3, List.forall_mem_cons.mpr ⟨lw_p4, List.forall_mem_cons.mpr ⟨lw_p5, List.forall_mem_cons.mpr ⟨lw_p6, List.forall_mem_cons.mpr ⟨lw_p7, List.forall_mem_cons.mpr ⟨lw_p8, List.forall_mem_cons.mpr ⟨lw_p9, List.forall_mem_cons.mpr ⟨lw_p10, List.forall_mem_cons.mpr ⟨lw_p11, List.forall_mem_cons.mpr ⟨lw_p12, List.forall_mem_cons.mpr ⟨lw_p13, List.forall_mem_cons.mpr ⟨lw_p14, List.forall_mem_cons.mpr ⟨lw_p15, fun _ h => absurd h List.not_mem_nil⟩⟩⟩⟩⟩⟩⟩⟩⟩⟩⟩⟩⟩⟩⟩⟩
theorem lw_p16 : lw_okq (⟨"GridHouse$Rules", "release", "(I)V"⟩, 20) := ⟨⟨by decide +kernel, by decide +kernel⟩, List.mem_of_getElem? (i := 757) (by decide +kernel), List.mem_of_getElem? (i := 1062) (by decide +kernel), List.mem_of_getElem? (i := 1063) (by decide +kernel)⟩
theorem lw_p17 : lw_okq (⟨"GridHouse$Rules", "closeBrackets", "(LGridHouse$Tape;I)I"⟩, 20) := ⟨⟨by decide +kernel, by decide +kernel⟩, List.mem_of_getElem? (i := 757) (by decide +kernel), List.mem_of_getElem? (i := 1066) (by decide +kernel), List.mem_of_getElem? (i := 1067) (by decide +kernel)⟩
theorem lw_p18 : lw_okq (⟨"GridHouse", "now", "()LGridHouse$Flow;"⟩, 15) := ⟨⟨by decide +kernel, by decide +kernel⟩, List.mem_of_getElem? (i := 29) (by decide +kernel), List.mem_of_getElem? (i := 1103) (by decide +kernel), List.mem_of_getElem? (i := 1104) (by decide +kernel)⟩
theorem lw_p19 : lw_okq (⟨"GridHouse$Shape", "tally", "()V"⟩, 12) := ⟨⟨by decide +kernel, by decide +kernel⟩, List.mem_of_getElem? (i := 314) (by decide +kernel), List.mem_of_getElem? (i := 1128) (by decide +kernel), List.mem_of_getElem? (i := 1129) (by decide +kernel)⟩
theorem lw_p20 : lw_okq (⟨"GridHouse$Flow", "addLoads", "()V"⟩, 17) := ⟨⟨by decide +kernel, by decide +kernel⟩, List.mem_of_getElem? (i := 300) (by decide +kernel), List.mem_of_getElem? (i := 1132) (by decide +kernel), List.mem_of_getElem? (i := 1133) (by decide +kernel)⟩
theorem lw_p21 : lw_okq (⟨"GridHouse$Flow", "addMachines", "()V"⟩, 17) := ⟨⟨by decide +kernel, by decide +kernel⟩, List.mem_of_getElem? (i := 300) (by decide +kernel), List.mem_of_getElem? (i := 1141) (by decide +kernel), List.mem_of_getElem? (i := 1142) (by decide +kernel)⟩
theorem lw_p22 : lw_okq (⟨"GridHouse$Flow", "solve", "()V"⟩, 17) := ⟨⟨by decide +kernel, by decide +kernel⟩, List.mem_of_getElem? (i := 300) (by decide +kernel), List.mem_of_getElem? (i := 1158) (by decide +kernel), List.mem_of_getElem? (i := 1159) (by decide +kernel)⟩
theorem lw_p23 : lw_okq (⟨"GridHouse$Flow", "inject", "(I)V"⟩, 17) := ⟨⟨by decide +kernel, by decide +kernel⟩, List.mem_of_getElem? (i := 300) (by decide +kernel), List.mem_of_getElem? (i := 1208) (by decide +kernel), List.mem_of_getElem? (i := 1209) (by decide +kernel)⟩
theorem lw_p24 : lw_okq (⟨"GridHouse$Flow", "given", "(I)I"⟩, 17) := ⟨⟨by decide +kernel, by decide +kernel⟩, List.mem_of_getElem? (i := 300) (by decide +kernel), List.mem_of_getElem? (i := 1216) (by decide +kernel), List.mem_of_getElem? (i := 1217) (by decide +kernel)⟩
theorem lw_p25 : lw_okq (⟨"GridHouse$Solver", "clear", "(IIII)V"⟩, 9) := ⟨⟨by decide +kernel, by decide +kernel⟩, List.mem_of_getElem? (i := 253) (by decide +kernel), List.mem_of_getElem? (i := 1240) (by decide +kernel), List.mem_of_getElem? (i := 1241) (by decide +kernel)⟩
theorem lw_p26 : lw_okq (⟨"GridHouse$Big", "trim", "()V"⟩, 3) := ⟨⟨by decide +kernel, by decide +kernel⟩, List.mem_of_getElem? (i := 191) (by decide +kernel), List.mem_of_getElem? (i := 1264) (by decide +kernel), List.mem_of_getElem? (i := 1265) (by decide +kernel)⟩
theorem lw_p27 : lw_okq (⟨"GridHouse$Big", "shrink", "(LGridHouse$Big;LGridHouse$Big;)V"⟩, 3) := ⟨⟨by decide +kernel, by decide +kernel⟩, List.mem_of_getElem? (i := 191) (by decide +kernel), List.mem_of_getElem? (i := 1291) (by decide +kernel), List.mem_of_getElem? (i := 1292) (by decide +kernel)⟩
theorem lw_p28 : lw_okq (⟨"GridHouse$Flow", "carried", "(ILGridHouse$Big;LGridHouse$Big;)V"⟩, 17) := ⟨⟨by decide +kernel, by decide +kernel⟩, List.mem_of_getElem? (i := 300) (by decide +kernel), List.mem_of_getElem? (i := 1295) (by decide +kernel), List.mem_of_getElem? (i := 1296) (by decide +kernel)⟩
theorem lw_p29 : lw_okq (⟨"GridHouse$Big", "grow", "(LGridHouse$Big;)V"⟩, 3) := ⟨⟨by decide +kernel, by decide +kernel⟩, List.mem_of_getElem? (i := 191) (by decide +kernel), List.mem_of_getElem? (i := 1306) (by decide +kernel), List.mem_of_getElem? (i := 1307) (by decide +kernel)⟩
theorem lw_p30 : lw_okq (⟨"GridHouse$Flow", "note", "(ILGridHouse$Flow;)V"⟩, 17) := ⟨⟨by decide +kernel, by decide +kernel⟩, List.mem_of_getElem? (i := 300) (by decide +kernel), List.mem_of_getElem? (i := 1320) (by decide +kernel), List.mem_of_getElem? (i := 1321) (by decide +kernel)⟩
theorem lw_p31 : lw_okq (⟨"GridHouse", "estimated", "()LGridHouse$Meters;"⟩, 15) := ⟨⟨by decide +kernel, by decide +kernel⟩, List.mem_of_getElem? (i := 29) (by decide +kernel), List.mem_of_getElem? (i := 1328) (by decide +kernel), List.mem_of_getElem? (i := 1329) (by decide +kernel)⟩
def lw_privs_2 : List (MethodName × Nat) := [(⟨"GridHouse$Rules", "release", "(I)V"⟩, 20), (⟨"GridHouse$Rules", "closeBrackets", "(LGridHouse$Tape;I)I"⟩, 20), (⟨"GridHouse", "now", "()LGridHouse$Flow;"⟩, 15), (⟨"GridHouse$Shape", "tally", "()V"⟩, 12), (⟨"GridHouse$Flow", "addLoads", "()V"⟩, 17), (⟨"GridHouse$Flow", "addMachines", "()V"⟩, 17), (⟨"GridHouse$Flow", "solve", "()V"⟩, 17), (⟨"GridHouse$Flow", "inject", "(I)V"⟩, 17), (⟨"GridHouse$Flow", "given", "(I)I"⟩, 17), (⟨"GridHouse$Solver", "clear", "(IIII)V"⟩, 9), (⟨"GridHouse$Big", "trim", "()V"⟩, 3), (⟨"GridHouse$Big", "shrink", "(LGridHouse$Big;LGridHouse$Big;)V"⟩, 3), (⟨"GridHouse$Flow", "carried", "(ILGridHouse$Big;LGridHouse$Big;)V"⟩, 17), (⟨"GridHouse$Big", "grow", "(LGridHouse$Big;)V"⟩, 3), (⟨"GridHouse$Flow", "note", "(ILGridHouse$Flow;)V"⟩, 17), (⟨"GridHouse", "estimated", "()LGridHouse$Meters;"⟩, 15)]
theorem lw_r2 : ∀ q ∈ lw_privs_2, lw_okq q := List.forall_mem_cons.mpr ⟨lw_p16, List.forall_mem_cons.mpr ⟨lw_p17, List.forall_mem_cons.mpr ⟨lw_p18, List.forall_mem_cons.mpr ⟨lw_p19, List.forall_mem_cons.mpr ⟨lw_p20, List.forall_mem_cons.mpr ⟨lw_p21, List.forall_mem_cons.mpr ⟨lw_p22, List.forall_mem_cons.mpr ⟨lw_p23, List.forall_mem_cons.mpr ⟨lw_p24, List.forall_mem_cons.mpr ⟨lw_p25, List.forall_mem_cons.mpr ⟨lw_p26, List.forall_mem_cons.mpr ⟨lw_p27, List.forall_mem_cons.mpr ⟨lw_p28, List.forall_mem_cons.mpr ⟨lw_p29, List.forall_mem_cons.mpr ⟨lw_p30, List.forall_mem_cons.mpr ⟨lw_p31, fun _ h => absurd h List.not_mem_nil⟩⟩⟩⟩⟩⟩⟩⟩⟩⟩⟩⟩⟩⟩⟩⟩
theorem lw_p32 : lw_okq (⟨"GridHouse$Meters", "markSeen", "()V"⟩, 19) := ⟨⟨by decide +kernel, by decide +kernel⟩, List.mem_of_getElem? (i := 457) (by decide +kernel), List.mem_of_getElem? (i := 1336) (by decide +kernel), List.mem_of_getElem? (i := 1337) (by decide +kernel)⟩
theorem lw_p33 : lw_okq (⟨"GridHouse$Meters", "rankByPrime", "(I)I"⟩, 19) := ⟨⟨by decide +kernel, by decide +kernel⟩, List.mem_of_getElem? (i := 457) (by decide +kernel), List.mem_of_getElem? (i := 1348) (by decide +kernel), List.mem_of_getElem? (i := 1349) (by decide +kernel)⟩
theorem lw_p34 : lw_okq (⟨"GridHouse$Meters", "lay", "(I[J)V"⟩, 19) := ⟨⟨by decide +kernel, by decide +kernel⟩, List.mem_of_getElem? (i := 457) (by decide +kernel), List.mem_of_getElem? (i := 1353) (by decide +kernel), List.mem_of_getElem? (i := 1354) (by decide +kernel)⟩
theorem lw_p35 : lw_okq (⟨"GridHouse$Meters", "layLine", "(II[J)V"⟩, 19) := ⟨⟨by decide +kernel, by decide +kernel⟩, List.mem_of_getElem? (i := 457) (by decide +kernel), List.mem_of_getElem? (i := 1357) (by decide +kernel), List.mem_of_getElem? (i := 1358) (by decide +kernel)⟩
theorem lw_p36 : lw_okq (⟨"GridHouse$Meters", "layAngle", "(IJ[J)V"⟩, 19) := ⟨⟨by decide +kernel, by decide +kernel⟩, List.mem_of_getElem? (i := 457) (by decide +kernel), List.mem_of_getElem? (i := 1368) (by decide +kernel), List.mem_of_getElem? (i := 1369) (by decide +kernel)⟩
theorem lw_p37 : lw_okq (⟨"GridHouse$Meters", "isFixed", "(II)Z"⟩, 19) := ⟨⟨by decide +kernel, by decide +kernel⟩, List.mem_of_getElem? (i := 457) (by decide +kernel), List.mem_of_getElem? (i := 1373) (by decide +kernel), List.mem_of_getElem? (i := 1374) (by decide +kernel)⟩
theorem lw_p38 : lw_okq (⟨"GridHouse$Meters", "markWhole", "()V"⟩, 19) := ⟨⟨by decide +kernel, by decide +kernel⟩, List.mem_of_getElem? (i := 457) (by decide +kernel), List.mem_of_getElem? (i := 1379) (by decide +kernel), List.mem_of_getElem? (i := 1380) (by decide +kernel)⟩
theorem lw_p39 : lw_okq (⟨"GridHouse$Meters", "weigh", "()V"⟩, 19) := ⟨⟨by decide +kernel, by decide +kernel⟩, List.mem_of_getElem? (i := 457) (by decide +kernel), List.mem_of_getElem? (i := 1383) (by decide +kernel), List.mem_of_getElem? (i := 1384) (by decide +kernel)⟩
theorem lw_p40 : lw_okq (⟨"GridHouse$Meters", "heaviest", "()I"⟩, 19) := ⟨⟨by decide +kernel, by decide +kernel⟩, List.mem_of_getElem? (i := 457) (by decide +kernel), List.mem_of_getElem? (i := 1391) (by decide +kernel), List.mem_of_getElem? (i := 1392) (by decide +kernel)⟩
theorem lw_p41 : lw_okq (⟨"GridHouse$Meters", "fill", "(I)J"⟩, 19) := ⟨⟨by decide +kernel, by decide +kernel⟩, List.mem_of_getElem? (i := 457) (by decide +kernel), List.mem_of_getElem? (i := 1397) (by decide +kernel), List.mem_of_getElem? (i := 1398) (by decide +kernel)⟩
theorem lw_p42 : lw_okq (⟨"GridHouse$Meters", "islandOf", "(I)I"⟩, 19) := ⟨⟨by decide +kernel, by decide +kernel⟩, List.mem_of_getElem? (i := 457) (by decide +kernel), List.mem_of_getElem? (i := 1405) (by decide +kernel), List.mem_of_getElem? (i := 1406) (by decide +kernel)⟩
theorem lw_p43 : lw_okq (⟨"GridHouse$Meters", "addMeter", "(II)V"⟩, 19) := ⟨⟨by decide +kernel, by decide +kernel⟩, List.mem_of_getElem? (i := 457) (by decide +kernel), List.mem_of_getElem? (i := 1409) (by decide +kernel), List.mem_of_getElem? (i := 1410) (by decide +kernel)⟩
theorem lw_p44 : lw_okq (⟨"GridHouse$Meters", "foldMeters", "(IJ)V"⟩, 19) := ⟨⟨by decide +kernel, by decide +kernel⟩, List.mem_of_getElem? (i := 457) (by decide +kernel), List.mem_of_getElem? (i := 1421) (by decide +kernel), List.mem_of_getElem? (i := 1422) (by decide +kernel)⟩
theorem lw_p45 : lw_okq (⟨"GridHouse$Meters", "dot", "(III)J"⟩, 19) := ⟨⟨by decide +kernel, by decide +kernel⟩, List.mem_of_getElem? (i := 457) (by decide +kernel), List.mem_of_getElem? (i := 1425) (by decide +kernel), List.mem_of_getElem? (i := 1426) (by decide +kernel)⟩
theorem lw_p46 : lw_okq (⟨"GridHouse$Meters", "isWorse", "(II)Z"⟩, 19) := ⟨⟨by decide +kernel, by decide +kernel⟩, List.mem_of_getElem? (i := 457) (by decide +kernel), List.mem_of_getElem? (i := 1439) (by decide +kernel), List.mem_of_getElem? (i := 1440) (by decide +kernel)⟩
theorem lw_p47 : lw_okq (⟨"GridHouse$Meters", "weighed", "(IILGridHouse$Big;)V"⟩, 19) := ⟨⟨by decide +kernel, by decide +kernel⟩, List.mem_of_getElem? (i := 457) (by decide +kernel), List.mem_of_getElem? (i := 1443) (by decide +kernel), List.mem_of_getElem? (i := 1444) (by decide +kernel)⟩
def lw_privs_3 : List (MethodName × Nat) := [(⟨"GridHouse$Meters", "markSeen", "()V"⟩, 19), (⟨"GridHouse$Meters", "rankByPrime", "(I)I"⟩, 19), (⟨"GridHouse$Meters", "lay", "(I[J)V"⟩, 19), (⟨"GridHouse$Meters", "layLine", "(II[J)V"⟩, 19), (⟨"GridHouse$Meters", "layAngle", "(IJ[J)V"⟩, 19), (⟨"GridHouse$Meters", "isFixed", "(II)Z"⟩, 19), (⟨"GridHouse$Meters", "markWhole", "()V"⟩, 19), (⟨"GridHouse$Meters", "weigh", "()V"⟩, 19), (⟨"GridHouse$Meters", "heaviest", "()I"⟩, 19), (⟨"GridHouse$Meters", "fill", "(I)J"⟩, 19), (⟨"GridHouse$Meters", "islandOf", "(I)I"⟩, 19), (⟨"GridHouse$Meters", "addMeter", "(II)V"⟩, 19), (⟨"GridHouse$Meters", "foldMeters", "(IJ)V"⟩, 19), (⟨"GridHouse$Meters", "dot", "(III)J"⟩, 19), (⟨"GridHouse$Meters", "isWorse", "(II)Z"⟩, 19), (⟨"GridHouse$Meters", "weighed", "(IILGridHouse$Big;)V"⟩, 19)]
theorem lw_r3 : ∀ q ∈ lw_privs_3, lw_okq q := List.forall_mem_cons.mpr ⟨lw_p32, List.forall_mem_cons.mpr ⟨lw_p33, List.forall_mem_cons.mpr ⟨lw_p34, List.forall_mem_cons.mpr ⟨lw_p35, List.forall_mem_cons.mpr ⟨lw_p36, List.forall_mem_cons.mpr ⟨lw_p37, List.forall_mem_cons.mpr ⟨lw_p38, List.forall_mem_cons.mpr ⟨lw_p39, List.forall_mem_cons.mpr ⟨lw_p40, List.forall_mem_cons.mpr ⟨lw_p41, List.forall_mem_cons.mpr ⟨lw_p42, List.forall_mem_cons.mpr ⟨lw_p43, List.forall_mem_cons.mpr ⟨lw_p44, List.forall_mem_cons.mpr ⟨lw_p45, List.forall_mem_cons.mpr ⟨lw_p46, List.forall_mem_cons.mpr ⟨lw_p47, fun _ h => absurd h List.not_mem_nil⟩⟩⟩⟩⟩⟩⟩⟩⟩⟩⟩⟩⟩⟩⟩⟩
theorem lw_p48 : lw_okq (⟨"GridHouse$Dispatch", "cut", "()V"⟩, 20) := ⟨⟨by decide +kernel, by decide +kernel⟩, List.mem_of_getElem? (i := 685) (by decide +kernel), List.mem_of_getElem? (i := 1486) (by decide +kernel), List.mem_of_getElem? (i := 1487) (by decide +kernel)⟩
theorem lw_p49 : lw_okq (⟨"GridHouse$Dispatch", "addPart", "(III)V"⟩, 20) := ⟨⟨by decide +kernel, by decide +kernel⟩, List.mem_of_getElem? (i := 685) (by decide +kernel), List.mem_of_getElem? (i := 1493) (by decide +kernel), List.mem_of_getElem? (i := 1494) (by decide +kernel)⟩
theorem lw_p50 : lw_okq (⟨"GridHouse$Dispatch", "share", "(I)Z"⟩, 20) := ⟨⟨by decide +kernel, by decide +kernel⟩, List.mem_of_getElem? (i := 685) (by decide +kernel), List.mem_of_getElem? (i := 1497) (by decide +kernel), List.mem_of_getElem? (i := 1498) (by decide +kernel)⟩
theorem lw_p51 : lw_okq (⟨"GridHouse$Dispatch", "shareIn", "(II)Z"⟩, 20) := ⟨⟨by decide +kernel, by decide +kernel⟩, List.mem_of_getElem? (i := 685) (by decide +kernel), List.mem_of_getElem? (i := 1501) (by decide +kernel), List.mem_of_getElem? (i := 1502) (by decide +kernel)⟩
theorem lw_p52 : lw_okq (⟨"GridHouse$Dispatch", "islandOf", "(I)I"⟩, 20) := ⟨⟨by decide +kernel, by decide +kernel⟩, List.mem_of_getElem? (i := 685) (by decide +kernel), List.mem_of_getElem? (i := 1507) (by decide +kernel), List.mem_of_getElem? (i := 1508) (by decide +kernel)⟩
theorem lw_p53 : lw_okq (⟨"GridHouse$Dispatch", "setOut", "()V"⟩, 20) := ⟨⟨by decide +kernel, by decide +kernel⟩, List.mem_of_getElem? (i := 685) (by decide +kernel), List.mem_of_getElem? (i := 1511) (by decide +kernel), List.mem_of_getElem? (i := 1512) (by decide +kernel)⟩
theorem lw_p54 : lw_okq (⟨"GridHouse$Dispatch", "measureLines", "(I)V"⟩, 20) := ⟨⟨by decide +kernel, by decide +kernel⟩, List.mem_of_getElem? (i := 685) (by decide +kernel), List.mem_of_getElem? (i := 1517) (by decide +kernel), List.mem_of_getElem? (i := 1518) (by decide +kernel)⟩
theorem lw_p55 : lw_okq (⟨"GridHouse$Dispatch", "injectStart", "(II)V"⟩, 20) := ⟨⟨by decide +kernel, by decide +kernel⟩, List.mem_of_getElem? (i := 685) (by decide +kernel), List.mem_of_getElem? (i := 1528) (by decide +kernel), List.mem_of_getElem? (i := 1529) (by decide +kernel)⟩
theorem lw_p56 : lw_okq (⟨"GridHouse$Dispatch", "injectColumn", "(II)V"⟩, 20) := ⟨⟨by decide +kernel, by decide +kernel⟩, List.mem_of_getElem? (i := 685) (by decide +kernel), List.mem_of_getElem? (i := 1536) (by decide +kernel), List.mem_of_getElem? (i := 1537) (by decide +kernel)⟩
theorem lw_p57 : lw_okq (⟨"GridHouse$Dispatch", "foldLines", "(IJ)V"⟩, 20) := ⟨⟨by decide +kernel, by decide +kernel⟩, List.mem_of_getElem? (i := 685) (by decide +kernel), List.mem_of_getElem? (i := 1542) (by decide +kernel), List.mem_of_getElem? (i := 1543) (by decide +kernel)⟩
theorem lw_p58 : lw_okq (⟨"GridHouse$Dispatch", "at", "(II)LGridHouse$Big;"⟩, 20) := ⟨⟨by decide +kernel, by decide +kernel⟩, List.mem_of_getElem? (i := 685) (by decide +kernel), List.mem_of_getElem? (i := 1549) (by decide +kernel), List.mem_of_getElem? (i := 1550) (by decide +kernel)⟩
theorem lw_p59 : lw_okq (⟨"GridHouse$Dispatch", "fillParts", "()V"⟩, 20) := ⟨⟨by decide +kernel, by decide +kernel⟩, List.mem_of_getElem? (i := 685) (by decide +kernel), List.mem_of_getElem? (i := 1556) (by decide +kernel), List.mem_of_getElem? (i := 1557) (by decide +kernel)⟩
theorem lw_p60 : lw_okq (⟨"GridHouse$Dispatch", "add", "(IIJ)V"⟩, 20) := ⟨⟨by decide +kernel, by decide +kernel⟩, List.mem_of_getElem? (i := 685) (by decide +kernel), List.mem_of_getElem? (i := 1560) (by decide +kernel), List.mem_of_getElem? (i := 1561) (by decide +kernel)⟩
theorem lw_p61 : lw_okq (⟨"GridHouse$Dispatch", "takeFromKeeper", "(III)V"⟩, 20) := ⟨⟨by decide +kernel, by decide +kernel⟩, List.mem_of_getElem? (i := 685) (by decide +kernel), List.mem_of_getElem? (i := 1570) (by decide +kernel), List.mem_of_getElem? (i := 1571) (by decide +kernel)⟩
theorem lw_p62 : lw_okq (⟨"GridHouse$Dispatch", "leaving", "()I"⟩, 20) := ⟨⟨by decide +kernel, by decide +kernel⟩, List.mem_of_getElem? (i := 685) (by decide +kernel), List.mem_of_getElem? (i := 1574) (by decide +kernel), List.mem_of_getElem? (i := 1575) (by decide +kernel)⟩
theorem lw_p63 : lw_okq (⟨"GridHouse$Dispatch", "turn", "(I)V"⟩, 20) := ⟨⟨by decide +kernel, by decide +kernel⟩, List.mem_of_getElem? (i := 685) (by decide +kernel), List.mem_of_getElem? (i := 1583) (by decide +kernel), List.mem_of_getElem? (i := 1584) (by decide +kernel)⟩
def lw_privs_4 : List (MethodName × Nat) := [(⟨"GridHouse$Dispatch", "cut", "()V"⟩, 20), (⟨"GridHouse$Dispatch", "addPart", "(III)V"⟩, 20), (⟨"GridHouse$Dispatch", "share", "(I)Z"⟩, 20), (⟨"GridHouse$Dispatch", "shareIn", "(II)Z"⟩, 20), (⟨"GridHouse$Dispatch", "islandOf", "(I)I"⟩, 20), (⟨"GridHouse$Dispatch", "setOut", "()V"⟩, 20), (⟨"GridHouse$Dispatch", "measureLines", "(I)V"⟩, 20), (⟨"GridHouse$Dispatch", "injectStart", "(II)V"⟩, 20), (⟨"GridHouse$Dispatch", "injectColumn", "(II)V"⟩, 20), (⟨"GridHouse$Dispatch", "foldLines", "(IJ)V"⟩, 20), (⟨"GridHouse$Dispatch", "at", "(II)LGridHouse$Big;"⟩, 20), (⟨"GridHouse$Dispatch", "fillParts", "()V"⟩, 20), (⟨"GridHouse$Dispatch", "add", "(IIJ)V"⟩, 20), (⟨"GridHouse$Dispatch", "takeFromKeeper", "(III)V"⟩, 20), (⟨"GridHouse$Dispatch", "leaving", "()I"⟩, 20), (⟨"GridHouse$Dispatch", "turn", "(I)V"⟩, 20)]
theorem lw_r4 : ∀ q ∈ lw_privs_4, lw_okq q := List.forall_mem_cons.mpr ⟨lw_p48, List.forall_mem_cons.mpr ⟨lw_p49, List.forall_mem_cons.mpr ⟨lw_p50, List.forall_mem_cons.mpr ⟨lw_p51, List.forall_mem_cons.mpr ⟨lw_p52, List.forall_mem_cons.mpr ⟨lw_p53, List.forall_mem_cons.mpr ⟨lw_p54, List.forall_mem_cons.mpr ⟨lw_p55, List.forall_mem_cons.mpr ⟨lw_p56, List.forall_mem_cons.mpr ⟨lw_p57, List.forall_mem_cons.mpr ⟨lw_p58, List.forall_mem_cons.mpr ⟨lw_p59, List.forall_mem_cons.mpr ⟨lw_p60, List.forall_mem_cons.mpr ⟨lw_p61, List.forall_mem_cons.mpr ⟨lw_p62, List.forall_mem_cons.mpr ⟨lw_p63, fun _ h => absurd h List.not_mem_nil⟩⟩⟩⟩⟩⟩⟩⟩⟩⟩⟩⟩⟩⟩⟩⟩
theorem lw_p64 : lw_okq (⟨"GridHouse$Dispatch", "entering", "(I)I"⟩, 20) := ⟨⟨by decide +kernel, by decide +kernel⟩, List.mem_of_getElem? (i := 685) (by decide +kernel), List.mem_of_getElem? (i := 1591) (by decide +kernel), List.mem_of_getElem? (i := 1592) (by decide +kernel)⟩
theorem lw_p65 : lw_okq (⟨"GridHouse$Dispatch", "isAhead", "(III)Z"⟩, 20) := ⟨⟨by decide +kernel, by decide +kernel⟩, List.mem_of_getElem? (i := 685) (by decide +kernel), List.mem_of_getElem? (i := 1595) (by decide +kernel), List.mem_of_getElem? (i := 1596) (by decide +kernel)⟩
theorem lw_p66 : lw_okq (⟨"GridHouse$Dispatch", "pivot", "(II)V"⟩, 20) := ⟨⟨by decide +kernel, by decide +kernel⟩, List.mem_of_getElem? (i := 685) (by decide +kernel), List.mem_of_getElem? (i := 1600) (by decide +kernel), List.mem_of_getElem? (i := 1601) (by decide +kernel)⟩
theorem lw_p67 : lw_okq (⟨"GridHouse$Dispatch", "update", "(LGridHouse$Big;LGridHouse$Big;LGridHouse$Big;LGridHouse$Big;)V"⟩, 20) := ⟨⟨by decide +kernel, by decide +kernel⟩, List.mem_of_getElem? (i := 685) (by decide +kernel), List.mem_of_getElem? (i := 1604) (by decide +kernel), List.mem_of_getElem? (i := 1605) (by decide +kernel)⟩
theorem lw_p68 : lw_okq (⟨"GridHouse$Big", "takeOff", "(LGridHouse$Big;I)J"⟩, 3) := ⟨⟨by decide +kernel, by decide +kernel⟩, List.mem_of_getElem? (i := 191) (by decide +kernel), List.mem_of_getElem? (i := 1618) (by decide +kernel), List.mem_of_getElem? (i := 1619) (by decide +kernel)⟩
theorem lw_p69 : lw_okq (⟨"GridHouse$Big", "addBack", "(LGridHouse$Big;I)V"⟩, 3) := ⟨⟨by decide +kernel, by decide +kernel⟩, List.mem_of_getElem? (i := 191) (by decide +kernel), List.mem_of_getElem? (i := 1628) (by decide +kernel), List.mem_of_getElem? (i := 1629) (by decide +kernel)⟩
theorem lw_p70 : lw_okq (⟨"GridHouse$Rules", "firstAgainst", "(IILGridHouse$Flow;LGridHouse$Flow;)I"⟩, 20) := ⟨⟨by decide +kernel, by decide +kernel⟩, List.mem_of_getElem? (i := 757) (by decide +kernel), List.mem_of_getElem? (i := 1649) (by decide +kernel), List.mem_of_getElem? (i := 1650) (by decide +kernel)⟩
theorem lw_p71 : lw_okq (⟨"GridHouse$Rules", "holds", "(IIILGridHouse$Flow;LGridHouse$Flow;)Z"⟩, 20) := ⟨⟨by decide +kernel, by decide +kernel⟩, List.mem_of_getElem? (i := 757) (by decide +kernel), List.mem_of_getElem? (i := 1653) (by decide +kernel), List.mem_of_getElem? (i := 1654) (by decide +kernel)⟩
theorem lw_p72 : lw_okq (⟨"GridHouse$Rules", "isSo", "(IIILGridHouse$Flow;)Z"⟩, 20) := ⟨⟨by decide +kernel, by decide +kernel⟩, List.mem_of_getElem? (i := 757) (by decide +kernel), List.mem_of_getElem? (i := 1658) (by decide +kernel), List.mem_of_getElem? (i := 1659) (by decide +kernel)⟩
theorem lw_p73 : lw_okq (⟨"java/lang/Throwable", "fillInStackTrace", "(I)Ljava/lang/Throwable;"⟩, 6) := ⟨⟨by decide +kernel, by decide +kernel⟩, List.mem_of_getElem? (i := 1725) (by decide +kernel), List.mem_of_getElem? (i := 1723) (by decide +kernel), List.mem_of_getElem? (i := 1724) (by decide +kernel)⟩
theorem lw_p74 : lw_okq (⟨"GridHouse", "countTold", "(I)I"⟩, 15) := ⟨⟨by decide +kernel, by decide +kernel⟩, List.mem_of_getElem? (i := 29) (by decide +kernel), List.mem_of_getElem? (i := 1790) (by decide +kernel), List.mem_of_getElem? (i := 1791) (by decide +kernel)⟩
theorem lw_p75 : lw_okq (⟨"GridHouse", "countFound", "(I)I"⟩, 15) := ⟨⟨by decide +kernel, by decide +kernel⟩, List.mem_of_getElem? (i := 29) (by decide +kernel), List.mem_of_getElem? (i := 1794) (by decide +kernel), List.mem_of_getElem? (i := 1795) (by decide +kernel)⟩
theorem lw_p76 : lw_okq (⟨"GridHouse", "testBar", "(I)V"⟩, 15) := ⟨⟨by decide +kernel, by decide +kernel⟩, List.mem_of_getElem? (i := 29) (by decide +kernel), List.mem_of_getElem? (i := 1859) (by decide +kernel), List.mem_of_getElem? (i := 1860) (by decide +kernel)⟩
theorem lw_p77 : lw_okq (⟨"GridHouse", "maybeLive", "(I)Z"⟩, 15) := ⟨⟨by decide +kernel, by decide +kernel⟩, List.mem_of_getElem? (i := 29) (by decide +kernel), List.mem_of_getElem? (i := 1868) (by decide +kernel), List.mem_of_getElem? (i := 1869) (by decide +kernel)⟩
theorem lw_p78 : lw_okq (⟨"GridHouse", "testLine", "(I)V"⟩, 15) := ⟨⟨by decide +kernel, by decide +kernel⟩, List.mem_of_getElem? (i := 29) (by decide +kernel), List.mem_of_getElem? (i := 1896) (by decide +kernel), List.mem_of_getElem? (i := 1897) (by decide +kernel)⟩
theorem lw_p79 : lw_okq (⟨"GridHouse", "testMachine", "(I)V"⟩, 15) := ⟨⟨by decide +kernel, by decide +kernel⟩, List.mem_of_getElem? (i := 29) (by decide +kernel), List.mem_of_getElem? (i := 1912) (by decide +kernel), List.mem_of_getElem? (i := 1913) (by decide +kernel)⟩
def lw_privs_5 : List (MethodName × Nat) := [(⟨"GridHouse$Dispatch", "entering", "(I)I"⟩, 20), (⟨"GridHouse$Dispatch", "isAhead", "(III)Z"⟩, 20), (⟨"GridHouse$Dispatch", "pivot", "(II)V"⟩, 20), (⟨"GridHouse$Dispatch", "update", "(LGridHouse$Big;LGridHouse$Big;LGridHouse$Big;LGridHouse$Big;)V"⟩, 20), (⟨"GridHouse$Big", "takeOff", "(LGridHouse$Big;I)J"⟩, 3), (⟨"GridHouse$Big", "addBack", "(LGridHouse$Big;I)V"⟩, 3), (⟨"GridHouse$Rules", "firstAgainst", "(IILGridHouse$Flow;LGridHouse$Flow;)I"⟩, 20), (⟨"GridHouse$Rules", "holds", "(IIILGridHouse$Flow;LGridHouse$Flow;)Z"⟩, 20), (⟨"GridHouse$Rules", "isSo", "(IIILGridHouse$Flow;)Z"⟩, 20), (⟨"java/lang/Throwable", "fillInStackTrace", "(I)Ljava/lang/Throwable;"⟩, 6), (⟨"GridHouse", "countTold", "(I)I"⟩, 15), (⟨"GridHouse", "countFound", "(I)I"⟩, 15), (⟨"GridHouse", "testBar", "(I)V"⟩, 15), (⟨"GridHouse", "maybeLive", "(I)Z"⟩, 15), (⟨"GridHouse", "testLine", "(I)V"⟩, 15), (⟨"GridHouse", "testMachine", "(I)V"⟩, 15)]
theorem lw_r5 : ∀ q ∈ lw_privs_5, lw_okq q := List.forall_mem_cons.mpr ⟨lw_p64, List.forall_mem_cons.mpr ⟨lw_p65, List.forall_mem_cons.mpr ⟨lw_p66, List.forall_mem_cons.mpr ⟨lw_p67, List.forall_mem_cons.mpr ⟨lw_p68, List.forall_mem_cons.mpr ⟨lw_p69, List.forall_mem_cons.mpr ⟨lw_p70, List.forall_mem_cons.mpr ⟨lw_p71, List.forall_mem_cons.mpr ⟨lw_p72, List.forall_mem_cons.mpr ⟨lw_p73, List.forall_mem_cons.mpr ⟨lw_p74, List.forall_mem_cons.mpr ⟨lw_p75, List.forall_mem_cons.mpr ⟨lw_p76, List.forall_mem_cons.mpr ⟨lw_p77, List.forall_mem_cons.mpr ⟨lw_p78, List.forall_mem_cons.mpr ⟨lw_p79, fun _ h => absurd h List.not_mem_nil⟩⟩⟩⟩⟩⟩⟩⟩⟩⟩⟩⟩⟩⟩⟩⟩
theorem lw_p80 : lw_okq (⟨"GridHouse$Hand", "bringLow", "()V"⟩, 8) := ⟨⟨by decide +kernel, by decide +kernel⟩, List.mem_of_getElem? (i := 185) (by decide +kernel), List.mem_of_getElem? (i := 1932) (by decide +kernel), List.mem_of_getElem? (i := 1933) (by decide +kernel)⟩
theorem lw_p81 : lw_okq (⟨"GridHouse$Hand", "common", "()LGridHouse$Big;"⟩, 8) := ⟨⟨by decide +kernel, by decide +kernel⟩, List.mem_of_getElem? (i := 185) (by decide +kernel), List.mem_of_getElem? (i := 1936) (by decide +kernel), List.mem_of_getElem? (i := 1937) (by decide +kernel)⟩
theorem lw_p82 : lw_okq (⟨"GridHouse$Hand", "divide", "(LGridHouse$Big;LGridHouse$Big;)V"⟩, 8) := ⟨⟨by decide +kernel, by decide +kernel⟩, List.mem_of_getElem? (i := 185) (by decide +kernel), List.mem_of_getElem? (i := 1954) (by decide +kernel), List.mem_of_getElem? (i := 1955) (by decide +kernel)⟩
theorem lw_p83 : lw_okq (⟨"GridHouse$Hand", "write", "(ILGridHouse$Big;)V"⟩, 8) := ⟨⟨by decide +kernel, by decide +kernel⟩, List.mem_of_getElem? (i := 185) (by decide +kernel), List.mem_of_getElem? (i := 1958) (by decide +kernel), List.mem_of_getElem? (i := 1959) (by decide +kernel)⟩
theorem lw_p84 : lw_okq (⟨"GridHouse", "testMeter", "(I)V"⟩, 15) := ⟨⟨by decide +kernel, by decide +kernel⟩, List.mem_of_getElem? (i := 29) (by decide +kernel), List.mem_of_getElem? (i := 2010) (by decide +kernel), List.mem_of_getElem? (i := 2011) (by decide +kernel)⟩
theorem lw_p85 : lw_okq (⟨"GridHouse", "shorted", "()LGridHouse$Shorts;"⟩, 15) := ⟨⟨by decide +kernel, by decide +kernel⟩, List.mem_of_getElem? (i := 29) (by decide +kernel), List.mem_of_getElem? (i := 2073) (by decide +kernel), List.mem_of_getElem? (i := 2074) (by decide +kernel)⟩
theorem lw_p86 : lw_okq (⟨"GridHouse$Shorts", "isThere", "()Z"⟩, 20) := ⟨⟨by decide +kernel, by decide +kernel⟩, List.mem_of_getElem? (i := 530) (by decide +kernel), List.mem_of_getElem? (i := 2082) (by decide +kernel), List.mem_of_getElem? (i := 2083) (by decide +kernel)⟩
theorem lw_p87 : lw_okq (⟨"GridHouse$Shorts", "isOnLine", "()Z"⟩, 20) := ⟨⟨by decide +kernel, by decide +kernel⟩, List.mem_of_getElem? (i := 530) (by decide +kernel), List.mem_of_getElem? (i := 2086) (by decide +kernel), List.mem_of_getElem? (i := 2087) (by decide +kernel)⟩
theorem lw_p88 : lw_okq (⟨"GridHouse$Shorts", "sequence", "(Z)V"⟩, 20) := ⟨⟨by decide +kernel, by decide +kernel⟩, List.mem_of_getElem? (i := 530) (by decide +kernel), List.mem_of_getElem? (i := 2093) (by decide +kernel), List.mem_of_getElem? (i := 2094) (by decide +kernel)⟩
theorem lw_p89 : lw_okq (⟨"GridHouse$Shorts", "bits", "(Z)I"⟩, 20) := ⟨⟨by decide +kernel, by decide +kernel⟩, List.mem_of_getElem? (i := 530) (by decide +kernel), List.mem_of_getElem? (i := 2098) (by decide +kernel), List.mem_of_getElem? (i := 2099) (by decide +kernel)⟩
theorem lw_p90 : lw_okq (⟨"GridHouse$Shorts", "lay", "(ZI)J"⟩, 20) := ⟨⟨by decide +kernel, by decide +kernel⟩, List.mem_of_getElem? (i := 530) (by decide +kernel), List.mem_of_getElem? (i := 2110) (by decide +kernel), List.mem_of_getElem? (i := 2111) (by decide +kernel)⟩
theorem lw_p91 : lw_okq (⟨"GridHouse$Shorts", "sixteenths", "(I)I"⟩, 20) := ⟨⟨by decide +kernel, by decide +kernel⟩, List.mem_of_getElem? (i := 530) (by decide +kernel), List.mem_of_getElem? (i := 2118) (by decide +kernel), List.mem_of_getElem? (i := 2119) (by decide +kernel)⟩
theorem lw_p92 : lw_okq (⟨"GridHouse$Shorts", "isGrounded", "()Z"⟩, 20) := ⟨⟨by decide +kernel, by decide +kernel⟩, List.mem_of_getElem? (i := 530) (by decide +kernel), List.mem_of_getElem? (i := 2132) (by decide +kernel), List.mem_of_getElem? (i := 2133) (by decide +kernel)⟩
theorem lw_p93 : lw_okq (⟨"GridHouse$Shorts", "isOdd", "()Z"⟩, 20) := ⟨⟨by decide +kernel, by decide +kernel⟩, List.mem_of_getElem? (i := 530) (by decide +kernel), List.mem_of_getElem? (i := 2136) (by decide +kernel), List.mem_of_getElem? (i := 2137) (by decide +kernel)⟩
theorem lw_p94 : lw_okq (⟨"GridHouse$Shorts", "weigh", "()V"⟩, 20) := ⟨⟨by decide +kernel, by decide +kernel⟩, List.mem_of_getElem? (i := 530) (by decide +kernel), List.mem_of_getElem? (i := 2140) (by decide +kernel), List.mem_of_getElem? (i := 2141) (by decide +kernel)⟩
theorem lw_p95 : lw_okq (⟨"GridHouse$Shorts", "weighOdd", "(LGridHouse$Big;LGridHouse$Big;)V"⟩, 20) := ⟨⟨by decide +kernel, by decide +kernel⟩, List.mem_of_getElem? (i := 530) (by decide +kernel), List.mem_of_getElem? (i := 2144) (by decide +kernel), List.mem_of_getElem? (i := 2145) (by decide +kernel)⟩
def lw_privs_6 : List (MethodName × Nat) := [(⟨"GridHouse$Hand", "bringLow", "()V"⟩, 8), (⟨"GridHouse$Hand", "common", "()LGridHouse$Big;"⟩, 8), (⟨"GridHouse$Hand", "divide", "(LGridHouse$Big;LGridHouse$Big;)V"⟩, 8), (⟨"GridHouse$Hand", "write", "(ILGridHouse$Big;)V"⟩, 8), (⟨"GridHouse", "testMeter", "(I)V"⟩, 15), (⟨"GridHouse", "shorted", "()LGridHouse$Shorts;"⟩, 15), (⟨"GridHouse$Shorts", "isThere", "()Z"⟩, 20), (⟨"GridHouse$Shorts", "isOnLine", "()Z"⟩, 20), (⟨"GridHouse$Shorts", "sequence", "(Z)V"⟩, 20), (⟨"GridHouse$Shorts", "bits", "(Z)I"⟩, 20), (⟨"GridHouse$Shorts", "lay", "(ZI)J"⟩, 20), (⟨"GridHouse$Shorts", "sixteenths", "(I)I"⟩, 20), (⟨"GridHouse$Shorts", "isGrounded", "()Z"⟩, 20), (⟨"GridHouse$Shorts", "isOdd", "()Z"⟩, 20), (⟨"GridHouse$Shorts", "weigh", "()V"⟩, 20), (⟨"GridHouse$Shorts", "weighOdd", "(LGridHouse$Big;LGridHouse$Big;)V"⟩, 20)]
theorem lw_r6 : ∀ q ∈ lw_privs_6, lw_okq q := List.forall_mem_cons.mpr ⟨lw_p80, List.forall_mem_cons.mpr ⟨lw_p81, List.forall_mem_cons.mpr ⟨lw_p82, List.forall_mem_cons.mpr ⟨lw_p83, List.forall_mem_cons.mpr ⟨lw_p84, List.forall_mem_cons.mpr ⟨lw_p85, List.forall_mem_cons.mpr ⟨lw_p86, List.forall_mem_cons.mpr ⟨lw_p87, List.forall_mem_cons.mpr ⟨lw_p88, List.forall_mem_cons.mpr ⟨lw_p89, List.forall_mem_cons.mpr ⟨lw_p90, List.forall_mem_cons.mpr ⟨lw_p91, List.forall_mem_cons.mpr ⟨lw_p92, List.forall_mem_cons.mpr ⟨lw_p93, List.forall_mem_cons.mpr ⟨lw_p94, List.forall_mem_cons.mpr ⟨lw_p95, fun _ h => absurd h List.not_mem_nil⟩⟩⟩⟩⟩⟩⟩⟩⟩⟩⟩⟩⟩⟩⟩⟩
theorem lw_p96 : lw_okq (⟨"GridHouse$Shorts", "scaleAll", "(I)V"⟩, 20) := ⟨⟨by decide +kernel, by decide +kernel⟩, List.mem_of_getElem? (i := 530) (by decide +kernel), List.mem_of_getElem? (i := 2170) (by decide +kernel), List.mem_of_getElem? (i := 2171) (by decide +kernel)⟩
theorem lw_p97 : lw_okq (⟨"GridHouse$Shorts", "squares", "()V"⟩, 20) := ⟨⟨by decide +kernel, by decide +kernel⟩, List.mem_of_getElem? (i := 530) (by decide +kernel), List.mem_of_getElem? (i := 2178) (by decide +kernel), List.mem_of_getElem? (i := 2179) (by decide +kernel)⟩
theorem lw_p98 : lw_okq (⟨"GridHouse$Shorts", "belowSquares", "(LGridHouse$Big;)V"⟩, 20) := ⟨⟨by decide +kernel, by decide +kernel⟩, List.mem_of_getElem? (i := 530) (by decide +kernel), List.mem_of_getElem? (i := 2184) (by decide +kernel), List.mem_of_getElem? (i := 2185) (by decide +kernel)⟩
theorem lw_p99 : lw_okq (⟨"GridHouse", "testSwitch", "(I)V"⟩, 15) := ⟨⟨by decide +kernel, by decide +kernel⟩, List.mem_of_getElem? (i := 29) (by decide +kernel), List.mem_of_getElem? (i := 2206) (by decide +kernel), List.mem_of_getElem? (i := 2207) (by decide +kernel)⟩
theorem lw_p100 : lw_okq (⟨"GridHouse$Relays", "look", "(J)I"⟩, 20) := ⟨⟨by decide +kernel, by decide +kernel⟩, List.mem_of_getElem? (i := 603) (by decide +kernel), List.mem_of_getElem? (i := 2282) (by decide +kernel), List.mem_of_getElem? (i := 2283) (by decide +kernel)⟩
theorem lw_p101 : lw_okq (⟨"GridHouse$Relays", "note", "(IZJ)V"⟩, 20) := ⟨⟨by decide +kernel, by decide +kernel⟩, List.mem_of_getElem? (i := 603) (by decide +kernel), List.mem_of_getElem? (i := 2288) (by decide +kernel), List.mem_of_getElem? (i := 2289) (by decide +kernel)⟩
theorem lw_p102 : lw_okq (⟨"GridHouse$Relays", "nextTime", "()J"⟩, 20) := ⟨⟨by decide +kernel, by decide +kernel⟩, List.mem_of_getElem? (i := 603) (by decide +kernel), List.mem_of_getElem? (i := 2305) (by decide +kernel), List.mem_of_getElem? (i := 2306) (by decide +kernel)⟩
theorem lw_p103 : lw_okq (⟨"GridHouse$Relays", "openAll", "(J)I"⟩, 20) := ⟨⟨by decide +kernel, by decide +kernel⟩, List.mem_of_getElem? (i := 603) (by decide +kernel), List.mem_of_getElem? (i := 2311) (by decide +kernel), List.mem_of_getElem? (i := 2312) (by decide +kernel)⟩
theorem lw_p104 : lw_okq (⟨"GridHouse$Relays", "backUpAll", "(J)I"⟩, 20) := ⟨⟨by decide +kernel, by decide +kernel⟩, List.mem_of_getElem? (i := 603) (by decide +kernel), List.mem_of_getElem? (i := 2316) (by decide +kernel), List.mem_of_getElem? (i := 2317) (by decide +kernel)⟩
theorem lw_p105 : lw_okq (⟨"GridHouse$Relays", "backUp", "(IJ)V"⟩, 20) := ⟨⟨by decide +kernel, by decide +kernel⟩, List.mem_of_getElem? (i := 603) (by decide +kernel), List.mem_of_getElem? (i := 2320) (by decide +kernel), List.mem_of_getElem? (i := 2321) (by decide +kernel)⟩
theorem lw_p106 : lw_okq (⟨"GridHouse$Relays", "nodeOf", "(II)I"⟩, 20) := ⟨⟨by decide +kernel, by decide +kernel⟩, List.mem_of_getElem? (i := 603) (by decide +kernel), List.mem_of_getElem? (i := 2324) (by decide +kernel), List.mem_of_getElem? (i := 2325) (by decide +kernel)⟩
theorem lw_p107 : lw_okq (⟨"GridHouse$Relays", "command", "(IJ)Z"⟩, 20) := ⟨⟨by decide +kernel, by decide +kernel⟩, List.mem_of_getElem? (i := 603) (by decide +kernel), List.mem_of_getElem? (i := 2329) (by decide +kernel), List.mem_of_getElem? (i := 2330) (by decide +kernel)⟩
theorem lw_p108 : lw_okq (⟨"GridHouse$Relays", "tripAll", "(J)I"⟩, 20) := ⟨⟨by decide +kernel, by decide +kernel⟩, List.mem_of_getElem? (i := 603) (by decide +kernel), List.mem_of_getElem? (i := 2334) (by decide +kernel), List.mem_of_getElem? (i := 2335) (by decide +kernel)⟩
theorem lw_p109 : lw_okq (⟨"GridHouse", "testDispatch", "()V"⟩, 15) := ⟨⟨by decide +kernel, by decide +kernel⟩, List.mem_of_getElem? (i := 29) (by decide +kernel), List.mem_of_getElem? (i := 2346) (by decide +kernel), List.mem_of_getElem? (i := 2347) (by decide +kernel)⟩
theorem lw_p110 : lw_okq (⟨"GridHouse$Rules", "isFree", "(III)Z"⟩, 20) := ⟨⟨by decide +kernel, by decide +kernel⟩, List.mem_of_getElem? (i := 757) (by decide +kernel), List.mem_of_getElem? (i := 2403) (by decide +kernel), List.mem_of_getElem? (i := 2404) (by decide +kernel)⟩
theorem lw_p111 : lw_okq (⟨"GridHouse$Rules", "weigh", "(II)V"⟩, 20) := ⟨⟨by decide +kernel, by decide +kernel⟩, List.mem_of_getElem? (i := 757) (by decide +kernel), List.mem_of_getElem? (i := 2407) (by decide +kernel), List.mem_of_getElem? (i := 2408) (by decide +kernel)⟩
def lw_privs_7 : List (MethodName × Nat) := [(⟨"GridHouse$Shorts", "scaleAll", "(I)V"⟩, 20), (⟨"GridHouse$Shorts", "squares", "()V"⟩, 20), (⟨"GridHouse$Shorts", "belowSquares", "(LGridHouse$Big;)V"⟩, 20), (⟨"GridHouse", "testSwitch", "(I)V"⟩, 15), (⟨"GridHouse$Relays", "look", "(J)I"⟩, 20), (⟨"GridHouse$Relays", "note", "(IZJ)V"⟩, 20), (⟨"GridHouse$Relays", "nextTime", "()J"⟩, 20), (⟨"GridHouse$Relays", "openAll", "(J)I"⟩, 20), (⟨"GridHouse$Relays", "backUpAll", "(J)I"⟩, 20), (⟨"GridHouse$Relays", "backUp", "(IJ)V"⟩, 20), (⟨"GridHouse$Relays", "nodeOf", "(II)I"⟩, 20), (⟨"GridHouse$Relays", "command", "(IJ)Z"⟩, 20), (⟨"GridHouse$Relays", "tripAll", "(J)I"⟩, 20), (⟨"GridHouse", "testDispatch", "()V"⟩, 15), (⟨"GridHouse$Rules", "isFree", "(III)Z"⟩, 20), (⟨"GridHouse$Rules", "weigh", "(II)V"⟩, 20)]
theorem lw_r7 : ∀ q ∈ lw_privs_7, lw_okq q := List.forall_mem_cons.mpr ⟨lw_p96, List.forall_mem_cons.mpr ⟨lw_p97, List.forall_mem_cons.mpr ⟨lw_p98, List.forall_mem_cons.mpr ⟨lw_p99, List.forall_mem_cons.mpr ⟨lw_p100, List.forall_mem_cons.mpr ⟨lw_p101, List.forall_mem_cons.mpr ⟨lw_p102, List.forall_mem_cons.mpr ⟨lw_p103, List.forall_mem_cons.mpr ⟨lw_p104, List.forall_mem_cons.mpr ⟨lw_p105, List.forall_mem_cons.mpr ⟨lw_p106, List.forall_mem_cons.mpr ⟨lw_p107, List.forall_mem_cons.mpr ⟨lw_p108, List.forall_mem_cons.mpr ⟨lw_p109, List.forall_mem_cons.mpr ⟨lw_p110, List.forall_mem_cons.mpr ⟨lw_p111, fun _ h => absurd h List.not_mem_nil⟩⟩⟩⟩⟩⟩⟩⟩⟩⟩⟩⟩⟩⟩⟩⟩
theorem lw_p112 : lw_okq (⟨"GridHouseModel", "findWords", "()V"⟩, 145) := ⟨⟨by decide +kernel, by decide +kernel⟩, List.mem_of_getElem? (i := 2441) (by decide +kernel), List.mem_of_getElem? (i := 2439) (by decide +kernel), List.mem_of_getElem? (i := 2440) (by decide +kernel)⟩
theorem lw_p113 : lw_okq (⟨"GridHouseModel", "readNet", "()V"⟩, 145) := ⟨⟨by decide +kernel, by decide +kernel⟩, List.mem_of_getElem? (i := 2441) (by decide +kernel), List.mem_of_getElem? (i := 2450) (by decide +kernel), List.mem_of_getElem? (i := 2451) (by decide +kernel)⟩
theorem lw_p114 : lw_okq (⟨"GridHouseModel", "is", "(Ljava/lang/String;)Z"⟩, 145) := ⟨⟨by decide +kernel, by decide +kernel⟩, List.mem_of_getElem? (i := 2441) (by decide +kernel), List.mem_of_getElem? (i := 2455) (by decide +kernel), List.mem_of_getElem? (i := 2456) (by decide +kernel)⟩
theorem lw_p115 : lw_okq (⟨"GridHouseModel", "wrong", "()V"⟩, 145) := ⟨⟨by decide +kernel, by decide +kernel⟩, List.mem_of_getElem? (i := 2441) (by decide +kernel), List.mem_of_getElem? (i := 2468) (by decide +kernel), List.mem_of_getElem? (i := 2469) (by decide +kernel)⟩
theorem lw_p116 : lw_okq (⟨"GridHouseModel", "readObject", "(I)V"⟩, 145) := ⟨⟨by decide +kernel, by decide +kernel⟩, List.mem_of_getElem? (i := 2441) (by decide +kernel), List.mem_of_getElem? (i := 2472) (by decide +kernel), List.mem_of_getElem? (i := 2473) (by decide +kernel)⟩
theorem lw_p117 : lw_okq (⟨"GridHouseModel", "newOne", "(I)V"⟩, 145) := ⟨⟨by decide +kernel, by decide +kernel⟩, List.mem_of_getElem? (i := 2441) (by decide +kernel), List.mem_of_getElem? (i := 2476) (by decide +kernel), List.mem_of_getElem? (i := 2477) (by decide +kernel)⟩
theorem lw_p118 : lw_okq (⟨"GridHouseModel", "isName", "()Z"⟩, 145) := ⟨⟨by decide +kernel, by decide +kernel⟩, List.mem_of_getElem? (i := 2441) (by decide +kernel), List.mem_of_getElem? (i := 2480) (by decide +kernel), List.mem_of_getElem? (i := 2481) (by decide +kernel)⟩
theorem lw_p119 : lw_okq (⟨"GridHouseModel", "isKey", "(I)Z"⟩, 145) := ⟨⟨by decide +kernel, by decide +kernel⟩, List.mem_of_getElem? (i := 2441) (by decide +kernel), List.mem_of_getElem? (i := 2484) (by decide +kernel), List.mem_of_getElem? (i := 2485) (by decide +kernel)⟩
theorem lw_p120 : lw_okq (⟨"GridHouseModel", "isAt", "(II)Z"⟩, 145) := ⟨⟨by decide +kernel, by decide +kernel⟩, List.mem_of_getElem? (i := 2441) (by decide +kernel), List.mem_of_getElem? (i := 2489) (by decide +kernel), List.mem_of_getElem? (i := 2490) (by decide +kernel)⟩
theorem lw_p121 : lw_okq (⟨"GridHouseModel", "named", "(IZ)I"⟩, 145) := ⟨⟨by decide +kernel, by decide +kernel⟩, List.mem_of_getElem? (i := 2441) (by decide +kernel), List.mem_of_getElem? (i := 2493) (by decide +kernel), List.mem_of_getElem? (i := 2494) (by decide +kernel)⟩
theorem lw_p122 : lw_okq (⟨"GridHouseModel", "newBar", "(I)I"⟩, 145) := ⟨⟨by decide +kernel, by decide +kernel⟩, List.mem_of_getElem? (i := 2441) (by decide +kernel), List.mem_of_getElem? (i := 2500) (by decide +kernel), List.mem_of_getElem? (i := 2501) (by decide +kernel)⟩
theorem lw_p123 : lw_okq (⟨"GridHouseModel", "takes", "(Ljava/lang/String;)Z"⟩, 145) := ⟨⟨by decide +kernel, by decide +kernel⟩, List.mem_of_getElem? (i := 2441) (by decide +kernel), List.mem_of_getElem? (i := 2506) (by decide +kernel), List.mem_of_getElem? (i := 2507) (by decide +kernel)⟩
theorem lw_p124 : lw_okq (⟨"GridHouseModel", "number", "(II)I"⟩, 145) := ⟨⟨by decide +kernel, by decide +kernel⟩, List.mem_of_getElem? (i := 2441) (by decide +kernel), List.mem_of_getElem? (i := 2511) (by decide +kernel), List.mem_of_getElem? (i := 2512) (by decide +kernel)⟩
theorem lw_p125 : lw_okq (⟨"GridHouseModel", "readMachine", "(II)V"⟩, 145) := ⟨⟨by decide +kernel, by decide +kernel⟩, List.mem_of_getElem? (i := 2441) (by decide +kernel), List.mem_of_getElem? (i := 2515) (by decide +kernel), List.mem_of_getElem? (i := 2516) (by decide +kernel)⟩
theorem lw_p126 : lw_okq (⟨"GridHouseModel", "want", "(Ljava/lang/String;)V"⟩, 145) := ⟨⟨by decide +kernel, by decide +kernel⟩, List.mem_of_getElem? (i := 2441) (by decide +kernel), List.mem_of_getElem? (i := 2520) (by decide +kernel), List.mem_of_getElem? (i := 2521) (by decide +kernel)⟩
theorem lw_p127 : lw_okq (⟨"GridHouseModel", "changed", "()V"⟩, 145) := ⟨⟨by decide +kernel, by decide +kernel⟩, List.mem_of_getElem? (i := 2441) (by decide +kernel), List.mem_of_getElem? (i := 2525) (by decide +kernel), List.mem_of_getElem? (i := 2526) (by decide +kernel)⟩
def lw_privs_8 : List (MethodName × Nat) := [(⟨"GridHouseModel", "findWords", "()V"⟩, 145), (⟨"GridHouseModel", "readNet", "()V"⟩, 145), (⟨"GridHouseModel", "is", "(Ljava/lang/String;)Z"⟩, 145), (⟨"GridHouseModel", "wrong", "()V"⟩, 145), (⟨"GridHouseModel", "readObject", "(I)V"⟩, 145), (⟨"GridHouseModel", "newOne", "(I)V"⟩, 145), (⟨"GridHouseModel", "isName", "()Z"⟩, 145), (⟨"GridHouseModel", "isKey", "(I)Z"⟩, 145), (⟨"GridHouseModel", "isAt", "(II)Z"⟩, 145), (⟨"GridHouseModel", "named", "(IZ)I"⟩, 145), (⟨"GridHouseModel", "newBar", "(I)I"⟩, 145), (⟨"GridHouseModel", "takes", "(Ljava/lang/String;)Z"⟩, 145), (⟨"GridHouseModel", "number", "(II)I"⟩, 145), (⟨"GridHouseModel", "readMachine", "(II)V"⟩, 145), (⟨"GridHouseModel", "want", "(Ljava/lang/String;)V"⟩, 145), (⟨"GridHouseModel", "changed", "()V"⟩, 145)]
theorem lw_r8 : ∀ q ∈ lw_privs_8, lw_okq q := List.forall_mem_cons.mpr ⟨lw_p112, List.forall_mem_cons.mpr ⟨lw_p113, List.forall_mem_cons.mpr ⟨lw_p114, List.forall_mem_cons.mpr ⟨lw_p115, List.forall_mem_cons.mpr ⟨lw_p116, List.forall_mem_cons.mpr ⟨lw_p117, List.forall_mem_cons.mpr ⟨lw_p118, List.forall_mem_cons.mpr ⟨lw_p119, List.forall_mem_cons.mpr ⟨lw_p120, List.forall_mem_cons.mpr ⟨lw_p121, List.forall_mem_cons.mpr ⟨lw_p122, List.forall_mem_cons.mpr ⟨lw_p123, List.forall_mem_cons.mpr ⟨lw_p124, List.forall_mem_cons.mpr ⟨lw_p125, List.forall_mem_cons.mpr ⟨lw_p126, List.forall_mem_cons.mpr ⟨lw_p127, fun _ h => absurd h List.not_mem_nil⟩⟩⟩⟩⟩⟩⟩⟩⟩⟩⟩⟩⟩⟩⟩⟩
theorem lw_p128 : lw_okq (⟨"GridHouseModel", "isObject", "(II)Z"⟩, 145) := ⟨⟨by decide +kernel, by decide +kernel⟩, List.mem_of_getElem? (i := 2441) (by decide +kernel), List.mem_of_getElem? (i := 2537) (by decide +kernel), List.mem_of_getElem? (i := 2538) (by decide +kernel)⟩
theorem lw_p129 : lw_okq (⟨"GridHouseModel", "of", "(III)I"⟩, 145) := ⟨⟨by decide +kernel, by decide +kernel⟩, List.mem_of_getElem? (i := 2441) (by decide +kernel), List.mem_of_getElem? (i := 2549) (by decide +kernel), List.mem_of_getElem? (i := 2550) (by decide +kernel)⟩
theorem lw_p130 : lw_okq (⟨"GridHouseModel", "mayBe", "(IIII)Z"⟩, 145) := ⟨⟨by decide +kernel, by decide +kernel⟩, List.mem_of_getElem? (i := 2441) (by decide +kernel), List.mem_of_getElem? (i := 2557) (by decide +kernel), List.mem_of_getElem? (i := 2558) (by decide +kernel)⟩
theorem lw_p131 : lw_okq (⟨"GridHouseModel", "netFlows", "()V"⟩, 145) := ⟨⟨by decide +kernel, by decide +kernel⟩, List.mem_of_getElem? (i := 2441) (by decide +kernel), List.mem_of_getElem? (i := 2580) (by decide +kernel), List.mem_of_getElem? (i := 2581) (by decide +kernel)⟩
theorem lw_p132 : lw_okq (⟨"GridHouseModel", "asItIs", "()V"⟩, 145) := ⟨⟨by decide +kernel, by decide +kernel⟩, List.mem_of_getElem? (i := 2441) (by decide +kernel), List.mem_of_getElem? (i := 2584) (by decide +kernel), List.mem_of_getElem? (i := 2585) (by decide +kernel)⟩
theorem lw_p133 : lw_okq (⟨"GridHouseModel", "flows", "()V"⟩, 145) := ⟨⟨by decide +kernel, by decide +kernel⟩, List.mem_of_getElem? (i := 2441) (by decide +kernel), List.mem_of_getElem? (i := 2588) (by decide +kernel), List.mem_of_getElem? (i := 2589) (by decide +kernel)⟩
theorem lw_p134 : lw_okq (⟨"GridHouseModel", "topology", "()V"⟩, 145) := ⟨⟨by decide +kernel, by decide +kernel⟩, List.mem_of_getElem? (i := 2441) (by decide +kernel), List.mem_of_getElem? (i := 2592) (by decide +kernel), List.mem_of_getElem? (i := 2593) (by decide +kernel)⟩
theorem lw_p135 : lw_okq (⟨"GridHouseModel", "merge", "([III)V"⟩, 145) := ⟨⟨by decide +kernel, by decide +kernel⟩, List.mem_of_getElem? (i := 2441) (by decide +kernel), List.mem_of_getElem? (i := 2596) (by decide +kernel), List.mem_of_getElem? (i := 2597) (by decide +kernel)⟩
theorem lw_p136 : lw_okq (⟨"GridHouseModel", "put", "(IJ)V"⟩, 145) := ⟨⟨by decide +kernel, by decide +kernel⟩, List.mem_of_getElem? (i := 2441) (by decide +kernel), List.mem_of_getElem? (i := 2600) (by decide +kernel), List.mem_of_getElem? (i := 2601) (by decide +kernel)⟩
theorem lw_p137 : lw_okq (⟨"GridHouseModel", "flowsOf", "(I)V"⟩, 145) := ⟨⟨by decide +kernel, by decide +kernel⟩, List.mem_of_getElem? (i := 2441) (by decide +kernel), List.mem_of_getElem? (i := 2605) (by decide +kernel), List.mem_of_getElem? (i := 2606) (by decide +kernel)⟩
theorem lw_p138 : lw_okq (⟨"GridHouseModel", "listNodes", "(I)V"⟩, 145) := ⟨⟨by decide +kernel, by decide +kernel⟩, List.mem_of_getElem? (i := 2441) (by decide +kernel), List.mem_of_getElem? (i := 2609) (by decide +kernel), List.mem_of_getElem? (i := 2610) (by decide +kernel)⟩
theorem lw_p139 : lw_okq (⟨"GridHouseModel", "putAllIn", "(I)V"⟩, 145) := ⟨⟨by decide +kernel, by decide +kernel⟩, List.mem_of_getElem? (i := 2441) (by decide +kernel), List.mem_of_getElem? (i := 2613) (by decide +kernel), List.mem_of_getElem? (i := 2614) (by decide +kernel)⟩
theorem lw_p140 : lw_okq (⟨"GridHouseModel", "times", "(I)J"⟩, 145) := ⟨⟨by decide +kernel, by decide +kernel⟩, List.mem_of_getElem? (i := 2441) (by decide +kernel), List.mem_of_getElem? (i := 2617) (by decide +kernel), List.mem_of_getElem? (i := 2618) (by decide +kernel)⟩
theorem lw_p141 : lw_okq (⟨"GridHouseModel", "clearMatrix", "(II)V"⟩, 145) := ⟨⟨by decide +kernel, by decide +kernel⟩, List.mem_of_getElem? (i := 2441) (by decide +kernel), List.mem_of_getElem? (i := 2623) (by decide +kernel), List.mem_of_getElem? (i := 2624) (by decide +kernel)⟩
theorem lw_p142 : lw_okq (⟨"GridHouseModel", "joinLines", "(I)J"⟩, 145) := ⟨⟨by decide +kernel, by decide +kernel⟩, List.mem_of_getElem? (i := 2441) (by decide +kernel), List.mem_of_getElem? (i := 2627) (by decide +kernel), List.mem_of_getElem? (i := 2628) (by decide +kernel)⟩
theorem lw_p143 : lw_okq (⟨"GridHouseModel", "islandOfLine", "(I)I"⟩, 145) := ⟨⟨by decide +kernel, by decide +kernel⟩, List.mem_of_getElem? (i := 2441) (by decide +kernel), List.mem_of_getElem? (i := 2631) (by decide +kernel), List.mem_of_getElem? (i := 2632) (by decide +kernel)⟩
def lw_privs_9 : List (MethodName × Nat) := [(⟨"GridHouseModel", "isObject", "(II)Z"⟩, 145), (⟨"GridHouseModel", "of", "(III)I"⟩, 145), (⟨"GridHouseModel", "mayBe", "(IIII)Z"⟩, 145), (⟨"GridHouseModel", "netFlows", "()V"⟩, 145), (⟨"GridHouseModel", "asItIs", "()V"⟩, 145), (⟨"GridHouseModel", "flows", "()V"⟩, 145), (⟨"GridHouseModel", "topology", "()V"⟩, 145), (⟨"GridHouseModel", "merge", "([III)V"⟩, 145), (⟨"GridHouseModel", "put", "(IJ)V"⟩, 145), (⟨"GridHouseModel", "flowsOf", "(I)V"⟩, 145), (⟨"GridHouseModel", "listNodes", "(I)V"⟩, 145), (⟨"GridHouseModel", "putAllIn", "(I)V"⟩, 145), (⟨"GridHouseModel", "times", "(I)J"⟩, 145), (⟨"GridHouseModel", "clearMatrix", "(II)V"⟩, 145), (⟨"GridHouseModel", "joinLines", "(I)J"⟩, 145), (⟨"GridHouseModel", "islandOfLine", "(I)I"⟩, 145)]
theorem lw_r9 : ∀ q ∈ lw_privs_9, lw_okq q := List.forall_mem_cons.mpr ⟨lw_p128, List.forall_mem_cons.mpr ⟨lw_p129, List.forall_mem_cons.mpr ⟨lw_p130, List.forall_mem_cons.mpr ⟨lw_p131, List.forall_mem_cons.mpr ⟨lw_p132, List.forall_mem_cons.mpr ⟨lw_p133, List.forall_mem_cons.mpr ⟨lw_p134, List.forall_mem_cons.mpr ⟨lw_p135, List.forall_mem_cons.mpr ⟨lw_p136, List.forall_mem_cons.mpr ⟨lw_p137, List.forall_mem_cons.mpr ⟨lw_p138, List.forall_mem_cons.mpr ⟨lw_p139, List.forall_mem_cons.mpr ⟨lw_p140, List.forall_mem_cons.mpr ⟨lw_p141, List.forall_mem_cons.mpr ⟨lw_p142, List.forall_mem_cons.mpr ⟨lw_p143, fun _ h => absurd h List.not_mem_nil⟩⟩⟩⟩⟩⟩⟩⟩⟩⟩⟩⟩⟩⟩⟩⟩
theorem lw_p144 : lw_okq (⟨"GridHouseModel", "isBetween", "(I)Z"⟩, 145) := ⟨⟨by decide +kernel, by decide +kernel⟩, List.mem_of_getElem? (i := 2441) (by decide +kernel), List.mem_of_getElem? (i := 2635) (by decide +kernel), List.mem_of_getElem? (i := 2636) (by decide +kernel)⟩
theorem lw_p145 : lw_okq (⟨"GridHouseModel", "nodeOfLine", "(II)I"⟩, 145) := ⟨⟨by decide +kernel, by decide +kernel⟩, List.mem_of_getElem? (i := 2441) (by decide +kernel), List.mem_of_getElem? (i := 2639) (by decide +kernel), List.mem_of_getElem? (i := 2640) (by decide +kernel)⟩
theorem lw_p146 : lw_okq (⟨"GridHouseModel", "inverse", "(J)J"⟩, 145) := ⟨⟨by decide +kernel, by decide +kernel⟩, List.mem_of_getElem? (i := 2441) (by decide +kernel), List.mem_of_getElem? (i := 2643) (by decide +kernel), List.mem_of_getElem? (i := 2644) (by decide +kernel)⟩
theorem lw_p147 : lw_okq (⟨"GridHouseModel", "mod", "(J)J"⟩, 145) := ⟨⟨by decide +kernel, by decide +kernel⟩, List.mem_of_getElem? (i := 2441) (by decide +kernel), List.mem_of_getElem? (i := 2647) (by decide +kernel), List.mem_of_getElem? (i := 2648) (by decide +kernel)⟩
theorem lw_p148 : lw_okq (⟨"GridHouseModel", "inverse", "(JJ)J"⟩, 145) := ⟨⟨by decide +kernel, by decide +kernel⟩, List.mem_of_getElem? (i := 2441) (by decide +kernel), List.mem_of_getElem? (i := 2651) (by decide +kernel), List.mem_of_getElem? (i := 2652) (by decide +kernel)⟩
theorem lw_p149 : lw_okq (⟨"GridHouseModel", "join", "(IIJ)V"⟩, 145) := ⟨⟨by decide +kernel, by decide +kernel⟩, List.mem_of_getElem? (i := 2441) (by decide +kernel), List.mem_of_getElem? (i := 2655) (by decide +kernel), List.mem_of_getElem? (i := 2656) (by decide +kernel)⟩
theorem lw_p150 : lw_okq (⟨"GridHouseModel", "solve", "(II)J"⟩, 145) := ⟨⟨by decide +kernel, by decide +kernel⟩, List.mem_of_getElem? (i := 2441) (by decide +kernel), List.mem_of_getElem? (i := 2659) (by decide +kernel), List.mem_of_getElem? (i := 2660) (by decide +kernel)⟩
theorem lw_p151 : lw_okq (⟨"GridHouseModel", "swap", "(III)V"⟩, 145) := ⟨⟨by decide +kernel, by decide +kernel⟩, List.mem_of_getElem? (i := 2441) (by decide +kernel), List.mem_of_getElem? (i := 2663) (by decide +kernel), List.mem_of_getElem? (i := 2664) (by decide +kernel)⟩
theorem lw_p152 : lw_okq (⟨"GridHouseModel", "clear", "(IIII)V"⟩, 145) := ⟨⟨by decide +kernel, by decide +kernel⟩, List.mem_of_getElem? (i := 2441) (by decide +kernel), List.mem_of_getElem? (i := 2667) (by decide +kernel), List.mem_of_getElem? (i := 2668) (by decide +kernel)⟩
theorem lw_p153 : lw_okq (⟨"GridHouseModel", "tell", "(IJ)V"⟩, 145) := ⟨⟨by decide +kernel, by decide +kernel⟩, List.mem_of_getElem? (i := 2441) (by decide +kernel), List.mem_of_getElem? (i := 2671) (by decide +kernel), List.mem_of_getElem? (i := 2672) (by decide +kernel)⟩
theorem lw_p154 : lw_okq (⟨"GridHouseModel", "tellLines", "(IIJ)V"⟩, 145) := ⟨⟨by decide +kernel, by decide +kernel⟩, List.mem_of_getElem? (i := 2441) (by decide +kernel), List.mem_of_getElem? (i := 2675) (by decide +kernel), List.mem_of_getElem? (i := 2676) (by decide +kernel)⟩
theorem lw_p155 : lw_okq (⟨"GridHouseModel", "angleAt", "(II)J"⟩, 145) := ⟨⟨by decide +kernel, by decide +kernel⟩, List.mem_of_getElem? (i := 2441) (by decide +kernel), List.mem_of_getElem? (i := 2679) (by decide +kernel), List.mem_of_getElem? (i := 2680) (by decide +kernel)⟩
theorem lw_p156 : lw_okq (⟨"GridHouseModel", "usePrime", "(I)V"⟩, 145) := ⟨⟨by decide +kernel, by decide +kernel⟩, List.mem_of_getElem? (i := 2441) (by decide +kernel), List.mem_of_getElem? (i := 2683) (by decide +kernel), List.mem_of_getElem? (i := 2684) (by decide +kernel)⟩
theorem lw_p157 : lw_okq (⟨"GridHouseModel", "fromResidues", "(II)V"⟩, 145) := ⟨⟨by decide +kernel, by decide +kernel⟩, List.mem_of_getElem? (i := 2441) (by decide +kernel), List.mem_of_getElem? (i := 2687) (by decide +kernel), List.mem_of_getElem? (i := 2688) (by decide +kernel)⟩
theorem lw_p158 : lw_okq (⟨"GridHouseModel", "stretch", "(IJJ)V"⟩, 145) := ⟨⟨by decide +kernel, by decide +kernel⟩, List.mem_of_getElem? (i := 2441) (by decide +kernel), List.mem_of_getElem? (i := 2691) (by decide +kernel), List.mem_of_getElem? (i := 2692) (by decide +kernel)⟩
theorem lw_p159 : lw_okq (⟨"GridHouseModel", "finish", "(II)V"⟩, 145) := ⟨⟨by decide +kernel, by decide +kernel⟩, List.mem_of_getElem? (i := 2441) (by decide +kernel), List.mem_of_getElem? (i := 2695) (by decide +kernel), List.mem_of_getElem? (i := 2696) (by decide +kernel)⟩
def lw_privs_10 : List (MethodName × Nat) := [(⟨"GridHouseModel", "isBetween", "(I)Z"⟩, 145), (⟨"GridHouseModel", "nodeOfLine", "(II)I"⟩, 145), (⟨"GridHouseModel", "inverse", "(J)J"⟩, 145), (⟨"GridHouseModel", "mod", "(J)J"⟩, 145), (⟨"GridHouseModel", "inverse", "(JJ)J"⟩, 145), (⟨"GridHouseModel", "join", "(IIJ)V"⟩, 145), (⟨"GridHouseModel", "solve", "(II)J"⟩, 145), (⟨"GridHouseModel", "swap", "(III)V"⟩, 145), (⟨"GridHouseModel", "clear", "(IIII)V"⟩, 145), (⟨"GridHouseModel", "tell", "(IJ)V"⟩, 145), (⟨"GridHouseModel", "tellLines", "(IIJ)V"⟩, 145), (⟨"GridHouseModel", "angleAt", "(II)J"⟩, 145), (⟨"GridHouseModel", "usePrime", "(I)V"⟩, 145), (⟨"GridHouseModel", "fromResidues", "(II)V"⟩, 145), (⟨"GridHouseModel", "stretch", "(IJJ)V"⟩, 145), (⟨"GridHouseModel", "finish", "(II)V"⟩, 145)]
theorem lw_r10 : ∀ q ∈ lw_privs_10, lw_okq q := List.forall_mem_cons.mpr ⟨lw_p144, List.forall_mem_cons.mpr ⟨lw_p145, List.forall_mem_cons.mpr ⟨lw_p146, List.forall_mem_cons.mpr ⟨lw_p147, List.forall_mem_cons.mpr ⟨lw_p148, List.forall_mem_cons.mpr ⟨lw_p149, List.forall_mem_cons.mpr ⟨lw_p150, List.forall_mem_cons.mpr ⟨lw_p151, List.forall_mem_cons.mpr ⟨lw_p152, List.forall_mem_cons.mpr ⟨lw_p153, List.forall_mem_cons.mpr ⟨lw_p154, List.forall_mem_cons.mpr ⟨lw_p155, List.forall_mem_cons.mpr ⟨lw_p156, List.forall_mem_cons.mpr ⟨lw_p157, List.forall_mem_cons.mpr ⟨lw_p158, List.forall_mem_cons.mpr ⟨lw_p159, fun _ h => absurd h List.not_mem_nil⟩⟩⟩⟩⟩⟩⟩⟩⟩⟩⟩⟩⟩⟩⟩⟩
theorem lw_p160 : lw_okq (⟨"GridHouseModel", "plus", "(IIII)V"⟩, 145) := ⟨⟨by decide +kernel, by decide +kernel⟩, List.mem_of_getElem? (i := 2441) (by decide +kernel), List.mem_of_getElem? (i := 2699) (by decide +kernel), List.mem_of_getElem? (i := 2700) (by decide +kernel)⟩
theorem lw_p161 : lw_okq (⟨"GridHouseModel", "copy", "(II)V"⟩, 145) := ⟨⟨by decide +kernel, by decide +kernel⟩, List.mem_of_getElem? (i := 2441) (by decide +kernel), List.mem_of_getElem? (i := 2703) (by decide +kernel), List.mem_of_getElem? (i := 2704) (by decide +kernel)⟩
theorem lw_p162 : lw_okq (⟨"GridHouseModel", "addSizes", "(III)V"⟩, 145) := ⟨⟨by decide +kernel, by decide +kernel⟩, List.mem_of_getElem? (i := 2441) (by decide +kernel), List.mem_of_getElem? (i := 2707) (by decide +kernel), List.mem_of_getElem? (i := 2708) (by decide +kernel)⟩
theorem lw_p163 : lw_okq (⟨"GridHouseModel", "compareSizes", "(II)I"⟩, 145) := ⟨⟨by decide +kernel, by decide +kernel⟩, List.mem_of_getElem? (i := 2441) (by decide +kernel), List.mem_of_getElem? (i := 2712) (by decide +kernel), List.mem_of_getElem? (i := 2713) (by decide +kernel)⟩
theorem lw_p164 : lw_okq (⟨"GridHouseModel", "lessSizes", "(III)V"⟩, 145) := ⟨⟨by decide +kernel, by decide +kernel⟩, List.mem_of_getElem? (i := 2441) (by decide +kernel), List.mem_of_getElem? (i := 2716) (by decide +kernel), List.mem_of_getElem? (i := 2717) (by decide +kernel)⟩
theorem lw_p165 : lw_okq (⟨"GridHouseModel", "scale", "(IIJ)V"⟩, 145) := ⟨⟨by decide +kernel, by decide +kernel⟩, List.mem_of_getElem? (i := 2441) (by decide +kernel), List.mem_of_getElem? (i := 2720) (by decide +kernel), List.mem_of_getElem? (i := 2721) (by decide +kernel)⟩
theorem lw_p166 : lw_okq (⟨"GridHouseModel", "times", "(III)V"⟩, 145) := ⟨⟨by decide +kernel, by decide +kernel⟩, List.mem_of_getElem? (i := 2441) (by decide +kernel), List.mem_of_getElem? (i := 2724) (by decide +kernel), List.mem_of_getElem? (i := 2725) (by decide +kernel)⟩
theorem lw_p167 : lw_okq (⟨"GridHouseModel", "netTopology", "()V"⟩, 145) := ⟨⟨by decide +kernel, by decide +kernel⟩, List.mem_of_getElem? (i := 2441) (by decide +kernel), List.mem_of_getElem? (i := 2728) (by decide +kernel), List.mem_of_getElem? (i := 2729) (by decide +kernel)⟩
theorem lw_p168 : lw_okq (⟨"GridHouseModel", "make", "(II)I"⟩, 145) := ⟨⟨by decide +kernel, by decide +kernel⟩, List.mem_of_getElem? (i := 2441) (by decide +kernel), List.mem_of_getElem? (i := 2736) (by decide +kernel), List.mem_of_getElem? (i := 2737) (by decide +kernel)⟩
theorem lw_p169 : lw_okq (⟨"GridHouseModel", "lowest", "(II)V"⟩, 145) := ⟨⟨by decide +kernel, by decide +kernel⟩, List.mem_of_getElem? (i := 2441) (by decide +kernel), List.mem_of_getElem? (i := 2740) (by decide +kernel), List.mem_of_getElem? (i := 2741) (by decide +kernel)⟩
theorem lw_p170 : lw_okq (⟨"GridHouseModel", "common", "(III)V"⟩, 145) := ⟨⟨by decide +kernel, by decide +kernel⟩, List.mem_of_getElem? (i := 2441) (by decide +kernel), List.mem_of_getElem? (i := 2744) (by decide +kernel), List.mem_of_getElem? (i := 2745) (by decide +kernel)⟩
theorem lw_p171 : lw_okq (⟨"GridHouseModel", "divide", "(IIII)V"⟩, 145) := ⟨⟨by decide +kernel, by decide +kernel⟩, List.mem_of_getElem? (i := 2441) (by decide +kernel), List.mem_of_getElem? (i := 2748) (by decide +kernel), List.mem_of_getElem? (i := 2749) (by decide +kernel)⟩
theorem lw_p172 : lw_okq (⟨"GridHouseModel", "divideByOne", "(IIIJ)V"⟩, 145) := ⟨⟨by decide +kernel, by decide +kernel⟩, List.mem_of_getElem? (i := 2441) (by decide +kernel), List.mem_of_getElem? (i := 2752) (by decide +kernel), List.mem_of_getElem? (i := 2753) (by decide +kernel)⟩
theorem lw_p173 : lw_okq (⟨"GridHouseModel", "spread", "([IIJ)V"⟩, 145) := ⟨⟨by decide +kernel, by decide +kernel⟩, List.mem_of_getElem? (i := 2441) (by decide +kernel), List.mem_of_getElem? (i := 2756) (by decide +kernel), List.mem_of_getElem? (i := 2757) (by decide +kernel)⟩
theorem lw_p174 : lw_okq (⟨"GridHouseModel", "takeAway", "(IIJ)J"⟩, 145) := ⟨⟨by decide +kernel, by decide +kernel⟩, List.mem_of_getElem? (i := 2441) (by decide +kernel), List.mem_of_getElem? (i := 2760) (by decide +kernel), List.mem_of_getElem? (i := 2761) (by decide +kernel)⟩
theorem lw_p175 : lw_okq (⟨"GridHouseModel", "parts", "(III)V"⟩, 145) := ⟨⟨by decide +kernel, by decide +kernel⟩, List.mem_of_getElem? (i := 2441) (by decide +kernel), List.mem_of_getElem? (i := 2765) (by decide +kernel), List.mem_of_getElem? (i := 2766) (by decide +kernel)⟩
def lw_privs_11 : List (MethodName × Nat) := [(⟨"GridHouseModel", "plus", "(IIII)V"⟩, 145), (⟨"GridHouseModel", "copy", "(II)V"⟩, 145), (⟨"GridHouseModel", "addSizes", "(III)V"⟩, 145), (⟨"GridHouseModel", "compareSizes", "(II)I"⟩, 145), (⟨"GridHouseModel", "lessSizes", "(III)V"⟩, 145), (⟨"GridHouseModel", "scale", "(IIJ)V"⟩, 145), (⟨"GridHouseModel", "times", "(III)V"⟩, 145), (⟨"GridHouseModel", "netTopology", "()V"⟩, 145), (⟨"GridHouseModel", "make", "(II)I"⟩, 145), (⟨"GridHouseModel", "lowest", "(II)V"⟩, 145), (⟨"GridHouseModel", "common", "(III)V"⟩, 145), (⟨"GridHouseModel", "divide", "(IIII)V"⟩, 145), (⟨"GridHouseModel", "divideByOne", "(IIIJ)V"⟩, 145), (⟨"GridHouseModel", "spread", "([IIJ)V"⟩, 145), (⟨"GridHouseModel", "takeAway", "(IIJ)J"⟩, 145), (⟨"GridHouseModel", "parts", "(III)V"⟩, 145)]
theorem lw_r11 : ∀ q ∈ lw_privs_11, lw_okq q := List.forall_mem_cons.mpr ⟨lw_p160, List.forall_mem_cons.mpr ⟨lw_p161, List.forall_mem_cons.mpr ⟨lw_p162, List.forall_mem_cons.mpr ⟨lw_p163, List.forall_mem_cons.mpr ⟨lw_p164, List.forall_mem_cons.mpr ⟨lw_p165, List.forall_mem_cons.mpr ⟨lw_p166, List.forall_mem_cons.mpr ⟨lw_p167, List.forall_mem_cons.mpr ⟨lw_p168, List.forall_mem_cons.mpr ⟨lw_p169, List.forall_mem_cons.mpr ⟨lw_p170, List.forall_mem_cons.mpr ⟨lw_p171, List.forall_mem_cons.mpr ⟨lw_p172, List.forall_mem_cons.mpr ⟨lw_p173, List.forall_mem_cons.mpr ⟨lw_p174, List.forall_mem_cons.mpr ⟨lw_p175, fun _ h => absurd h List.not_mem_nil⟩⟩⟩⟩⟩⟩⟩⟩⟩⟩⟩⟩⟩⟩⟩⟩
theorem lw_p176 : lw_okq (⟨"GridHouseModel", "makeWhole", "(JJ)I"⟩, 145) := ⟨⟨by decide +kernel, by decide +kernel⟩, List.mem_of_getElem? (i := 2441) (by decide +kernel), List.mem_of_getElem? (i := 2777) (by decide +kernel), List.mem_of_getElem? (i := 2778) (by decide +kernel)⟩
theorem lw_p177 : lw_okq (⟨"GridHouseModel", "screenAll", "()V"⟩, 145) := ⟨⟨by decide +kernel, by decide +kernel⟩, List.mem_of_getElem? (i := 2441) (by decide +kernel), List.mem_of_getElem? (i := 2790) (by decide +kernel), List.mem_of_getElem? (i := 2791) (by decide +kernel)⟩
theorem lw_p178 : lw_okq (⟨"GridHouseModel", "estimates", "()V"⟩, 145) := ⟨⟨by decide +kernel, by decide +kernel⟩, List.mem_of_getElem? (i := 2441) (by decide +kernel), List.mem_of_getElem? (i := 2813) (by decide +kernel), List.mem_of_getElem? (i := 2814) (by decide +kernel)⟩
theorem lw_p179 : lw_okq (⟨"GridHouseModel", "estimateOf", "(II)V"⟩, 145) := ⟨⟨by decide +kernel, by decide +kernel⟩, List.mem_of_getElem? (i := 2441) (by decide +kernel), List.mem_of_getElem? (i := 2817) (by decide +kernel), List.mem_of_getElem? (i := 2818) (by decide +kernel)⟩
theorem lw_p180 : lw_okq (⟨"GridHouseModel", "showAll", "(I)V"⟩, 145) := ⟨⟨by decide +kernel, by decide +kernel⟩, List.mem_of_getElem? (i := 2441) (by decide +kernel), List.mem_of_getElem? (i := 2821) (by decide +kernel), List.mem_of_getElem? (i := 2822) (by decide +kernel)⟩
theorem lw_p181 : lw_okq (⟨"GridHouseModel", "islandOfMeter", "(I)I"⟩, 145) := ⟨⟨by decide +kernel, by decide +kernel⟩, List.mem_of_getElem? (i := 2441) (by decide +kernel), List.mem_of_getElem? (i := 2825) (by decide +kernel), List.mem_of_getElem? (i := 2826) (by decide +kernel)⟩
theorem lw_p182 : lw_okq (⟨"GridHouseModel", "addShown", "(IIJ)V"⟩, 145) := ⟨⟨by decide +kernel, by decide +kernel⟩, List.mem_of_getElem? (i := 2441) (by decide +kernel), List.mem_of_getElem? (i := 2829) (by decide +kernel), List.mem_of_getElem? (i := 2830) (by decide +kernel)⟩
theorem lw_p183 : lw_okq (⟨"GridHouseModel", "equations", "(II)J"⟩, 145) := ⟨⟨by decide +kernel, by decide +kernel⟩, List.mem_of_getElem? (i := 2441) (by decide +kernel), List.mem_of_getElem? (i := 2833) (by decide +kernel), List.mem_of_getElem? (i := 2834) (by decide +kernel)⟩
theorem lw_p184 : lw_okq (⟨"GridHouseModel", "counts", "(II)Z"⟩, 145) := ⟨⟨by decide +kernel, by decide +kernel⟩, List.mem_of_getElem? (i := 2441) (by decide +kernel), List.mem_of_getElem? (i := 2837) (by decide +kernel), List.mem_of_getElem? (i := 2838) (by decide +kernel)⟩
theorem lw_p185 : lw_okq (⟨"GridHouseModel", "tellEstimate", "(IIJ)V"⟩, 145) := ⟨⟨by decide +kernel, by decide +kernel⟩, List.mem_of_getElem? (i := 2441) (by decide +kernel), List.mem_of_getElem? (i := 2841) (by decide +kernel), List.mem_of_getElem? (i := 2842) (by decide +kernel)⟩
theorem lw_p186 : lw_okq (⟨"GridHouseModel", "seenOf", "(II)V"⟩, 145) := ⟨⟨by decide +kernel, by decide +kernel⟩, List.mem_of_getElem? (i := 2441) (by decide +kernel), List.mem_of_getElem? (i := 2845) (by decide +kernel), List.mem_of_getElem? (i := 2846) (by decide +kernel)⟩
theorem lw_p187 : lw_okq (⟨"GridHouseModel", "reduced", "(II)I"⟩, 145) := ⟨⟨by decide +kernel, by decide +kernel⟩, List.mem_of_getElem? (i := 2441) (by decide +kernel), List.mem_of_getElem? (i := 2849) (by decide +kernel), List.mem_of_getElem? (i := 2850) (by decide +kernel)⟩
theorem lw_p188 : lw_okq (⟨"GridHouseModel", "isNew", "(II)Z"⟩, 145) := ⟨⟨by decide +kernel, by decide +kernel⟩, List.mem_of_getElem? (i := 2441) (by decide +kernel), List.mem_of_getElem? (i := 2853) (by decide +kernel), List.mem_of_getElem? (i := 2854) (by decide +kernel)⟩
theorem lw_p189 : lw_okq (⟨"GridHouseModel", "isWorse", "(II)Z"⟩, 145) := ⟨⟨by decide +kernel, by decide +kernel⟩, List.mem_of_getElem? (i := 2441) (by decide +kernel), List.mem_of_getElem? (i := 2869) (by decide +kernel), List.mem_of_getElem? (i := 2870) (by decide +kernel)⟩
theorem lw_p190 : lw_okq (⟨"GridHouseModel", "worstOf", "(III)V"⟩, 145) := ⟨⟨by decide +kernel, by decide +kernel⟩, List.mem_of_getElem? (i := 2441) (by decide +kernel), List.mem_of_getElem? (i := 2873) (by decide +kernel), List.mem_of_getElem? (i := 2874) (by decide +kernel)⟩
theorem lw_p191 : lw_okq (⟨"GridHouseModel", "shortIs", "(IZIII)V"⟩, 145) := ⟨⟨by decide +kernel, by decide +kernel⟩, List.mem_of_getElem? (i := 2441) (by decide +kernel), List.mem_of_getElem? (i := 2881) (by decide +kernel), List.mem_of_getElem? (i := 2882) (by decide +kernel)⟩
def lw_privs_12 : List (MethodName × Nat) := [(⟨"GridHouseModel", "makeWhole", "(JJ)I"⟩, 145), (⟨"GridHouseModel", "screenAll", "()V"⟩, 145), (⟨"GridHouseModel", "estimates", "()V"⟩, 145), (⟨"GridHouseModel", "estimateOf", "(II)V"⟩, 145), (⟨"GridHouseModel", "showAll", "(I)V"⟩, 145), (⟨"GridHouseModel", "islandOfMeter", "(I)I"⟩, 145), (⟨"GridHouseModel", "addShown", "(IIJ)V"⟩, 145), (⟨"GridHouseModel", "equations", "(II)J"⟩, 145), (⟨"GridHouseModel", "counts", "(II)Z"⟩, 145), (⟨"GridHouseModel", "tellEstimate", "(IIJ)V"⟩, 145), (⟨"GridHouseModel", "seenOf", "(II)V"⟩, 145), (⟨"GridHouseModel", "reduced", "(II)I"⟩, 145), (⟨"GridHouseModel", "isNew", "(II)Z"⟩, 145), (⟨"GridHouseModel", "isWorse", "(II)Z"⟩, 145), (⟨"GridHouseModel", "worstOf", "(III)V"⟩, 145), (⟨"GridHouseModel", "shortIs", "(IZIII)V"⟩, 145)]
theorem lw_r12 : ∀ q ∈ lw_privs_12, lw_okq q := List.forall_mem_cons.mpr ⟨lw_p176, List.forall_mem_cons.mpr ⟨lw_p177, List.forall_mem_cons.mpr ⟨lw_p178, List.forall_mem_cons.mpr ⟨lw_p179, List.forall_mem_cons.mpr ⟨lw_p180, List.forall_mem_cons.mpr ⟨lw_p181, List.forall_mem_cons.mpr ⟨lw_p182, List.forall_mem_cons.mpr ⟨lw_p183, List.forall_mem_cons.mpr ⟨lw_p184, List.forall_mem_cons.mpr ⟨lw_p185, List.forall_mem_cons.mpr ⟨lw_p186, List.forall_mem_cons.mpr ⟨lw_p187, List.forall_mem_cons.mpr ⟨lw_p188, List.forall_mem_cons.mpr ⟨lw_p189, List.forall_mem_cons.mpr ⟨lw_p190, List.forall_mem_cons.mpr ⟨lw_p191, fun _ h => absurd h List.not_mem_nil⟩⟩⟩⟩⟩⟩⟩⟩⟩⟩⟩⟩⟩⟩⟩⟩
theorem lw_p192 : lw_okq (⟨"GridHouseModel", "netShort", "()V"⟩, 145) := ⟨⟨by decide +kernel, by decide +kernel⟩, List.mem_of_getElem? (i := 2441) (by decide +kernel), List.mem_of_getElem? (i := 2897) (by decide +kernel), List.mem_of_getElem? (i := 2898) (by decide +kernel)⟩
theorem lw_p193 : lw_okq (⟨"GridHouseModel", "shorts", "()V"⟩, 145) := ⟨⟨by decide +kernel, by decide +kernel⟩, List.mem_of_getElem? (i := 2441) (by decide +kernel), List.mem_of_getElem? (i := 2901) (by decide +kernel), List.mem_of_getElem? (i := 2902) (by decide +kernel)⟩
theorem lw_p194 : lw_okq (⟨"GridHouseModel", "isOnIn", "(II)Z"⟩, 145) := ⟨⟨by decide +kernel, by decide +kernel⟩, List.mem_of_getElem? (i := 2441) (by decide +kernel), List.mem_of_getElem? (i := 2905) (by decide +kernel), List.mem_of_getElem? (i := 2906) (by decide +kernel)⟩
theorem lw_p195 : lw_okq (⟨"GridHouseModel", "potentials", "(III)V"⟩, 145) := ⟨⟨by decide +kernel, by decide +kernel⟩, List.mem_of_getElem? (i := 2441) (by decide +kernel), List.mem_of_getElem? (i := 2909) (by decide +kernel), List.mem_of_getElem? (i := 2910) (by decide +kernel)⟩
theorem lw_p196 : lw_okq (⟨"GridHouseModel", "joinParts", "(II)J"⟩, 145) := ⟨⟨by decide +kernel, by decide +kernel⟩, List.mem_of_getElem? (i := 2441) (by decide +kernel), List.mem_of_getElem? (i := 2913) (by decide +kernel), List.mem_of_getElem? (i := 2914) (by decide +kernel)⟩
theorem lw_p197 : lw_okq (⟨"GridHouseModel", "placeRow", "()I"⟩, 145) := ⟨⟨by decide +kernel, by decide +kernel⟩, List.mem_of_getElem? (i := 2441) (by decide +kernel), List.mem_of_getElem? (i := 2918) (by decide +kernel), List.mem_of_getElem? (i := 2919) (by decide +kernel)⟩
theorem lw_p198 : lw_okq (⟨"GridHouseModel", "currentsOfShort", "()V"⟩, 145) := ⟨⟨by decide +kernel, by decide +kernel⟩, List.mem_of_getElem? (i := 2441) (by decide +kernel), List.mem_of_getElem? (i := 2922) (by decide +kernel), List.mem_of_getElem? (i := 2923) (by decide +kernel)⟩
theorem lw_p199 : lw_okq (⟨"GridHouseModel", "rowsOfShort", "()V"⟩, 145) := ⟨⟨by decide +kernel, by decide +kernel⟩, List.mem_of_getElem? (i := 2441) (by decide +kernel), List.mem_of_getElem? (i := 2931) (by decide +kernel), List.mem_of_getElem? (i := 2932) (by decide +kernel)⟩
theorem lw_p200 : lw_okq (⟨"GridHouseModel", "voltagesOf", "(I)V"⟩, 145) := ⟨⟨by decide +kernel, by decide +kernel⟩, List.mem_of_getElem? (i := 2441) (by decide +kernel), List.mem_of_getElem? (i := 2935) (by decide +kernel), List.mem_of_getElem? (i := 2936) (by decide +kernel)⟩
theorem lw_p201 : lw_okq (⟨"GridHouseModel", "makeOf", "(I)I"⟩, 145) := ⟨⟨by decide +kernel, by decide +kernel⟩, List.mem_of_getElem? (i := 2441) (by decide +kernel), List.mem_of_getElem? (i := 2939) (by decide +kernel), List.mem_of_getElem? (i := 2940) (by decide +kernel)⟩
theorem lw_p202 : lw_okq (⟨"GridHouseModel", "squareA", "(II)V"⟩, 145) := ⟨⟨by decide +kernel, by decide +kernel⟩, List.mem_of_getElem? (i := 2441) (by decide +kernel), List.mem_of_getElem? (i := 2943) (by decide +kernel), List.mem_of_getElem? (i := 2944) (by decide +kernel)⟩
theorem lw_p203 : lw_okq (⟨"GridHouseModel", "squareB", "(II)V"⟩, 145) := ⟨⟨by decide +kernel, by decide +kernel⟩, List.mem_of_getElem? (i := 2441) (by decide +kernel), List.mem_of_getElem? (i := 2947) (by decide +kernel), List.mem_of_getElem? (i := 2948) (by decide +kernel)⟩
theorem lw_p204 : lw_okq (⟨"GridHouseModel", "currentsInto", "(II)V"⟩, 145) := ⟨⟨by decide +kernel, by decide +kernel⟩, List.mem_of_getElem? (i := 2441) (by decide +kernel), List.mem_of_getElem? (i := 2955) (by decide +kernel), List.mem_of_getElem? (i := 2956) (by decide +kernel)⟩
theorem lw_p205 : lw_okq (⟨"GridHouseModel", "lookAt", "(I)V"⟩, 145) := ⟨⟨by decide +kernel, by decide +kernel⟩, List.mem_of_getElem? (i := 2441) (by decide +kernel), List.mem_of_getElem? (i := 2980) (by decide +kernel), List.mem_of_getElem? (i := 2981) (by decide +kernel)⟩
theorem lw_p206 : lw_okq (⟨"GridHouseModel", "isMet", "(II)Z"⟩, 145) := ⟨⟨by decide +kernel, by decide +kernel⟩, List.mem_of_getElem? (i := 2441) (by decide +kernel), List.mem_of_getElem? (i := 2984) (by decide +kernel), List.mem_of_getElem? (i := 2985) (by decide +kernel)⟩
theorem lw_p207 : lw_okq (⟨"GridHouseModel", "look", "(J)I"⟩, 145) := ⟨⟨by decide +kernel, by decide +kernel⟩, List.mem_of_getElem? (i := 2441) (by decide +kernel), List.mem_of_getElem? (i := 2993) (by decide +kernel), List.mem_of_getElem? (i := 2994) (by decide +kernel)⟩
def lw_privs_13 : List (MethodName × Nat) := [(⟨"GridHouseModel", "netShort", "()V"⟩, 145), (⟨"GridHouseModel", "shorts", "()V"⟩, 145), (⟨"GridHouseModel", "isOnIn", "(II)Z"⟩, 145), (⟨"GridHouseModel", "potentials", "(III)V"⟩, 145), (⟨"GridHouseModel", "joinParts", "(II)J"⟩, 145), (⟨"GridHouseModel", "placeRow", "()I"⟩, 145), (⟨"GridHouseModel", "currentsOfShort", "()V"⟩, 145), (⟨"GridHouseModel", "rowsOfShort", "()V"⟩, 145), (⟨"GridHouseModel", "voltagesOf", "(I)V"⟩, 145), (⟨"GridHouseModel", "makeOf", "(I)I"⟩, 145), (⟨"GridHouseModel", "squareA", "(II)V"⟩, 145), (⟨"GridHouseModel", "squareB", "(II)V"⟩, 145), (⟨"GridHouseModel", "currentsInto", "(II)V"⟩, 145), (⟨"GridHouseModel", "lookAt", "(I)V"⟩, 145), (⟨"GridHouseModel", "isMet", "(II)Z"⟩, 145), (⟨"GridHouseModel", "look", "(J)I"⟩, 145)]
theorem lw_r13 : ∀ q ∈ lw_privs_13, lw_okq q := List.forall_mem_cons.mpr ⟨lw_p192, List.forall_mem_cons.mpr ⟨lw_p193, List.forall_mem_cons.mpr ⟨lw_p194, List.forall_mem_cons.mpr ⟨lw_p195, List.forall_mem_cons.mpr ⟨lw_p196, List.forall_mem_cons.mpr ⟨lw_p197, List.forall_mem_cons.mpr ⟨lw_p198, List.forall_mem_cons.mpr ⟨lw_p199, List.forall_mem_cons.mpr ⟨lw_p200, List.forall_mem_cons.mpr ⟨lw_p201, List.forall_mem_cons.mpr ⟨lw_p202, List.forall_mem_cons.mpr ⟨lw_p203, List.forall_mem_cons.mpr ⟨lw_p204, List.forall_mem_cons.mpr ⟨lw_p205, List.forall_mem_cons.mpr ⟨lw_p206, List.forall_mem_cons.mpr ⟨lw_p207, fun _ h => absurd h List.not_mem_nil⟩⟩⟩⟩⟩⟩⟩⟩⟩⟩⟩⟩⟩⟩⟩⟩
theorem lw_p208 : lw_okq (⟨"GridHouseModel", "asInRun", "()V"⟩, 145) := ⟨⟨by decide +kernel, by decide +kernel⟩, List.mem_of_getElem? (i := 2441) (by decide +kernel), List.mem_of_getElem? (i := 2997) (by decide +kernel), List.mem_of_getElem? (i := 2998) (by decide +kernel)⟩
theorem lw_p209 : lw_okq (⟨"GridHouseModel", "nextTime", "()J"⟩, 145) := ⟨⟨by decide +kernel, by decide +kernel⟩, List.mem_of_getElem? (i := 2441) (by decide +kernel), List.mem_of_getElem? (i := 3005) (by decide +kernel), List.mem_of_getElem? (i := 3006) (by decide +kernel)⟩
theorem lw_p210 : lw_okq (⟨"GridHouseModel", "isDue", "(II)Z"⟩, 145) := ⟨⟨by decide +kernel, by decide +kernel⟩, List.mem_of_getElem? (i := 2441) (by decide +kernel), List.mem_of_getElem? (i := 3010) (by decide +kernel), List.mem_of_getElem? (i := 3011) (by decide +kernel)⟩
theorem lw_p211 : lw_okq (⟨"GridHouseModel", "actsAt", "(J)I"⟩, 145) := ⟨⟨by decide +kernel, by decide +kernel⟩, List.mem_of_getElem? (i := 2441) (by decide +kernel), List.mem_of_getElem? (i := 3014) (by decide +kernel), List.mem_of_getElem? (i := 3015) (by decide +kernel)⟩
theorem lw_p212 : lw_okq (⟨"GridHouseModel", "openAll", "(J)I"⟩, 145) := ⟨⟨by decide +kernel, by decide +kernel⟩, List.mem_of_getElem? (i := 2441) (by decide +kernel), List.mem_of_getElem? (i := 3018) (by decide +kernel), List.mem_of_getElem? (i := 3019) (by decide +kernel)⟩
theorem lw_p213 : lw_okq (⟨"GridHouseModel", "backUp", "(IJ)V"⟩, 145) := ⟨⟨by decide +kernel, by decide +kernel⟩, List.mem_of_getElem? (i := 2441) (by decide +kernel), List.mem_of_getElem? (i := 3022) (by decide +kernel), List.mem_of_getElem? (i := 3023) (by decide +kernel)⟩
theorem lw_p214 : lw_okq (⟨"GridHouseModel", "giveOrder", "(IJ)Z"⟩, 145) := ⟨⟨by decide +kernel, by decide +kernel⟩, List.mem_of_getElem? (i := 2441) (by decide +kernel), List.mem_of_getElem? (i := 3026) (by decide +kernel), List.mem_of_getElem? (i := 3027) (by decide +kernel)⟩
theorem lw_p215 : lw_okq (⟨"GridHouseModel", "dispatchNet", "()V"⟩, 145) := ⟨⟨by decide +kernel, by decide +kernel⟩, List.mem_of_getElem? (i := 2441) (by decide +kernel), List.mem_of_getElem? (i := 3042) (by decide +kernel), List.mem_of_getElem? (i := 3043) (by decide +kernel)⟩
theorem lw_p216 : lw_okq (⟨"GridHouseModel", "dispatchOf", "(I)Z"⟩, 145) := ⟨⟨by decide +kernel, by decide +kernel⟩, List.mem_of_getElem? (i := 2441) (by decide +kernel), List.mem_of_getElem? (i := 3046) (by decide +kernel), List.mem_of_getElem? (i := 3047) (by decide +kernel)⟩
theorem lw_p217 : lw_okq (⟨"GridHouseModel", "sharesOf", "(I)V"⟩, 145) := ⟨⟨by decide +kernel, by decide +kernel⟩, List.mem_of_getElem? (i := 2441) (by decide +kernel), List.mem_of_getElem? (i := 3050) (by decide +kernel), List.mem_of_getElem? (i := 3051) (by decide +kernel)⟩
theorem lw_p218 : lw_okq (⟨"GridHouseModel", "sharesBy", "(II)J"⟩, 145) := ⟨⟨by decide +kernel, by decide +kernel⟩, List.mem_of_getElem? (i := 2441) (by decide +kernel), List.mem_of_getElem? (i := 3054) (by decide +kernel), List.mem_of_getElem? (i := 3055) (by decide +kernel)⟩
theorem lw_p219 : lw_okq (⟨"GridHouseModel", "linePlanes", "(I)V"⟩, 145) := ⟨⟨by decide +kernel, by decide +kernel⟩, List.mem_of_getElem? (i := 2441) (by decide +kernel), List.mem_of_getElem? (i := 3058) (by decide +kernel), List.mem_of_getElem? (i := 3059) (by decide +kernel)⟩
theorem lw_p220 : lw_okq (⟨"GridHouseModel", "shorten", "(III)V"⟩, 145) := ⟨⟨by decide +kernel, by decide +kernel⟩, List.mem_of_getElem? (i := 2441) (by decide +kernel), List.mem_of_getElem? (i := 3065) (by decide +kernel), List.mem_of_getElem? (i := 3066) (by decide +kernel)⟩
theorem lw_p221 : lw_okq (⟨"GridHouseModel", "bestOfCell", "()Z"⟩, 145) := ⟨⟨by decide +kernel, by decide +kernel⟩, List.mem_of_getElem? (i := 2441) (by decide +kernel), List.mem_of_getElem? (i := 3070) (by decide +kernel), List.mem_of_getElem? (i := 3071) (by decide +kernel)⟩
theorem lw_p222 : lw_okq (⟨"GridHouseModel", "solveLevel", "(I)Z"⟩, 145) := ⟨⟨by decide +kernel, by decide +kernel⟩, List.mem_of_getElem? (i := 2441) (by decide +kernel), List.mem_of_getElem? (i := 3077) (by decide +kernel), List.mem_of_getElem? (i := 3078) (by decide +kernel)⟩
theorem lw_p223 : lw_okq (⟨"GridHouseModel", "compare", "(II)I"⟩, 145) := ⟨⟨by decide +kernel, by decide +kernel⟩, List.mem_of_getElem? (i := 2441) (by decide +kernel), List.mem_of_getElem? (i := 3084) (by decide +kernel), List.mem_of_getElem? (i := 3085) (by decide +kernel)⟩
def lw_privs_14 : List (MethodName × Nat) := [(⟨"GridHouseModel", "asInRun", "()V"⟩, 145), (⟨"GridHouseModel", "nextTime", "()J"⟩, 145), (⟨"GridHouseModel", "isDue", "(II)Z"⟩, 145), (⟨"GridHouseModel", "actsAt", "(J)I"⟩, 145), (⟨"GridHouseModel", "openAll", "(J)I"⟩, 145), (⟨"GridHouseModel", "backUp", "(IJ)V"⟩, 145), (⟨"GridHouseModel", "giveOrder", "(IJ)Z"⟩, 145), (⟨"GridHouseModel", "dispatchNet", "()V"⟩, 145), (⟨"GridHouseModel", "dispatchOf", "(I)Z"⟩, 145), (⟨"GridHouseModel", "sharesOf", "(I)V"⟩, 145), (⟨"GridHouseModel", "sharesBy", "(II)J"⟩, 145), (⟨"GridHouseModel", "linePlanes", "(I)V"⟩, 145), (⟨"GridHouseModel", "shorten", "(III)V"⟩, 145), (⟨"GridHouseModel", "bestOfCell", "()Z"⟩, 145), (⟨"GridHouseModel", "solveLevel", "(I)Z"⟩, 145), (⟨"GridHouseModel", "compare", "(II)I"⟩, 145)]
theorem lw_r14 : ∀ q ∈ lw_privs_14, lw_okq q := List.forall_mem_cons.mpr ⟨lw_p208, List.forall_mem_cons.mpr ⟨lw_p209, List.forall_mem_cons.mpr ⟨lw_p210, List.forall_mem_cons.mpr ⟨lw_p211, List.forall_mem_cons.mpr ⟨lw_p212, List.forall_mem_cons.mpr ⟨lw_p213, List.forall_mem_cons.mpr ⟨lw_p214, List.forall_mem_cons.mpr ⟨lw_p215, List.forall_mem_cons.mpr ⟨lw_p216, List.forall_mem_cons.mpr ⟨lw_p217, List.forall_mem_cons.mpr ⟨lw_p218, List.forall_mem_cons.mpr ⟨lw_p219, List.forall_mem_cons.mpr ⟨lw_p220, List.forall_mem_cons.mpr ⟨lw_p221, List.forall_mem_cons.mpr ⟨lw_p222, List.forall_mem_cons.mpr ⟨lw_p223, fun _ h => absurd h List.not_mem_nil⟩⟩⟩⟩⟩⟩⟩⟩⟩⟩⟩⟩⟩⟩⟩⟩
theorem lw_p224 : lw_okq (⟨"GridHouseModel", "onPlane", "(III)V"⟩, 145) := ⟨⟨by decide +kernel, by decide +kernel⟩, List.mem_of_getElem? (i := 2441) (by decide +kernel), List.mem_of_getElem? (i := 3088) (by decide +kernel), List.mem_of_getElem? (i := 3089) (by decide +kernel)⟩
theorem lw_p225 : lw_okq (⟨"GridHouseModel", "cross", "(IIIIII)V"⟩, 145) := ⟨⟨by decide +kernel, by decide +kernel⟩, List.mem_of_getElem? (i := 2441) (by decide +kernel), List.mem_of_getElem? (i := 3092) (by decide +kernel), List.mem_of_getElem? (i := 3093) (by decide +kernel)⟩
theorem lw_p226 : lw_okq (⟨"GridHouseModel", "boundRows", "(III)V"⟩, 145) := ⟨⟨by decide +kernel, by decide +kernel⟩, List.mem_of_getElem? (i := 2441) (by decide +kernel), List.mem_of_getElem? (i := 3096) (by decide +kernel), List.mem_of_getElem? (i := 3097) (by decide +kernel)⟩
theorem lw_p227 : lw_okq (⟨"GridHouseModel", "fromPlane", "(III)V"⟩, 145) := ⟨⟨by decide +kernel, by decide +kernel⟩, List.mem_of_getElem? (i := 2441) (by decide +kernel), List.mem_of_getElem? (i := 3100) (by decide +kernel), List.mem_of_getElem? (i := 3101) (by decide +kernel)⟩
theorem lw_p228 : lw_okq (⟨"GridHouseModel", "lowestPoint", "(II)V"⟩, 145) := ⟨⟨by decide +kernel, by decide +kernel⟩, List.mem_of_getElem? (i := 2441) (by decide +kernel), List.mem_of_getElem? (i := 3104) (by decide +kernel), List.mem_of_getElem? (i := 3105) (by decide +kernel)⟩
theorem lw_p229 : lw_okq (⟨"GridHouseModel", "turns", "(I)Z"⟩, 145) := ⟨⟨by decide +kernel, by decide +kernel⟩, List.mem_of_getElem? (i := 2441) (by decide +kernel), List.mem_of_getElem? (i := 3108) (by decide +kernel), List.mem_of_getElem? (i := 3109) (by decide +kernel)⟩
theorem lw_p230 : lw_okq (⟨"GridHouseModel", "sideOf", "(III)I"⟩, 145) := ⟨⟨by decide +kernel, by decide +kernel⟩, List.mem_of_getElem? (i := 2441) (by decide +kernel), List.mem_of_getElem? (i := 3112) (by decide +kernel), List.mem_of_getElem? (i := 3113) (by decide +kernel)⟩
theorem lw_p231 : lw_okq (⟨"GridHouseModel", "bestOf", "(I)Z"⟩, 145) := ⟨⟨by decide +kernel, by decide +kernel⟩, List.mem_of_getElem? (i := 2441) (by decide +kernel), List.mem_of_getElem? (i := 3116) (by decide +kernel), List.mem_of_getElem? (i := 3117) (by decide +kernel)⟩
theorem lw_p232 : lw_okq (⟨"GridHouseModel", "cell", "(I)V"⟩, 145) := ⟨⟨by decide +kernel, by decide +kernel⟩, List.mem_of_getElem? (i := 2441) (by decide +kernel), List.mem_of_getElem? (i := 3120) (by decide +kernel), List.mem_of_getElem? (i := 3121) (by decide +kernel)⟩
theorem lw_p233 : lw_okq (⟨"GridHouseModel", "isBetter", "()Z"⟩, 145) := ⟨⟨by decide +kernel, by decide +kernel⟩, List.mem_of_getElem? (i := 2441) (by decide +kernel), List.mem_of_getElem? (i := 3124) (by decide +kernel), List.mem_of_getElem? (i := 3125) (by decide +kernel)⟩
theorem lw_p234 : lw_okq (⟨"GridHouseModel", "costOf", "(III)V"⟩, 145) := ⟨⟨by decide +kernel, by decide +kernel⟩, List.mem_of_getElem? (i := 2441) (by decide +kernel), List.mem_of_getElem? (i := 3128) (by decide +kernel), List.mem_of_getElem? (i := 3129) (by decide +kernel)⟩
theorem lw_p235 : lw_okq (⟨"GridHouseModel", "addDispatch", "()V"⟩, 145) := ⟨⟨by decide +kernel, by decide +kernel⟩, List.mem_of_getElem? (i := 2441) (by decide +kernel), List.mem_of_getElem? (i := 3132) (by decide +kernel), List.mem_of_getElem? (i := 3133) (by decide +kernel)⟩
theorem lw_p236 : lw_okq (⟨"GridHouseModel", "act", "()I"⟩, 145) := ⟨⟨by decide +kernel, by decide +kernel⟩, List.mem_of_getElem? (i := 2441) (by decide +kernel), List.mem_of_getElem? (i := 3153) (by decide +kernel), List.mem_of_getElem? (i := 3154) (by decide +kernel)⟩
theorem lw_p237 : lw_okq (⟨"GridHouseModel", "condition", "(II)V"⟩, 145) := ⟨⟨by decide +kernel, by decide +kernel⟩, List.mem_of_getElem? (i := 2441) (by decide +kernel), List.mem_of_getElem? (i := 3163) (by decide +kernel), List.mem_of_getElem? (i := 3164) (by decide +kernel)⟩
theorem lw_p238 : lw_okq (⟨"GridHouseModel", "allOf", "(II)V"⟩, 145) := ⟨⟨by decide +kernel, by decide +kernel⟩, List.mem_of_getElem? (i := 2441) (by decide +kernel), List.mem_of_getElem? (i := 3167) (by decide +kernel), List.mem_of_getElem? (i := 3168) (by decide +kernel)⟩
theorem lw_p239 : lw_okq (⟨"GridHouseModel", "one", "(II)V"⟩, 145) := ⟨⟨by decide +kernel, by decide +kernel⟩, List.mem_of_getElem? (i := 2441) (by decide +kernel), List.mem_of_getElem? (i := 3171) (by decide +kernel), List.mem_of_getElem? (i := 3172) (by decide +kernel)⟩
def lw_privs_15 : List (MethodName × Nat) := [(⟨"GridHouseModel", "onPlane", "(III)V"⟩, 145), (⟨"GridHouseModel", "cross", "(IIIIII)V"⟩, 145), (⟨"GridHouseModel", "boundRows", "(III)V"⟩, 145), (⟨"GridHouseModel", "fromPlane", "(III)V"⟩, 145), (⟨"GridHouseModel", "lowestPoint", "(II)V"⟩, 145), (⟨"GridHouseModel", "turns", "(I)Z"⟩, 145), (⟨"GridHouseModel", "sideOf", "(III)I"⟩, 145), (⟨"GridHouseModel", "bestOf", "(I)Z"⟩, 145), (⟨"GridHouseModel", "cell", "(I)V"⟩, 145), (⟨"GridHouseModel", "isBetter", "()Z"⟩, 145), (⟨"GridHouseModel", "costOf", "(III)V"⟩, 145), (⟨"GridHouseModel", "addDispatch", "()V"⟩, 145), (⟨"GridHouseModel", "act", "()I"⟩, 145), (⟨"GridHouseModel", "condition", "(II)V"⟩, 145), (⟨"GridHouseModel", "allOf", "(II)V"⟩, 145), (⟨"GridHouseModel", "one", "(II)V"⟩, 145)]
theorem lw_r15 : ∀ q ∈ lw_privs_15, lw_okq q := List.forall_mem_cons.mpr ⟨lw_p224, List.forall_mem_cons.mpr ⟨lw_p225, List.forall_mem_cons.mpr ⟨lw_p226, List.forall_mem_cons.mpr ⟨lw_p227, List.forall_mem_cons.mpr ⟨lw_p228, List.forall_mem_cons.mpr ⟨lw_p229, List.forall_mem_cons.mpr ⟨lw_p230, List.forall_mem_cons.mpr ⟨lw_p231, List.forall_mem_cons.mpr ⟨lw_p232, List.forall_mem_cons.mpr ⟨lw_p233, List.forall_mem_cons.mpr ⟨lw_p234, List.forall_mem_cons.mpr ⟨lw_p235, List.forall_mem_cons.mpr ⟨lw_p236, List.forall_mem_cons.mpr ⟨lw_p237, List.forall_mem_cons.mpr ⟨lw_p238, List.forall_mem_cons.mpr ⟨lw_p239, fun _ h => absurd h List.not_mem_nil⟩⟩⟩⟩⟩⟩⟩⟩⟩⟩⟩⟩⟩⟩⟩⟩
theorem lw_p240 : lw_okq (⟨"GridHouseModel", "told", "(IZ)V"⟩, 145) := ⟨⟨by decide +kernel, by decide +kernel⟩, List.mem_of_getElem? (i := 2441) (by decide +kernel), List.mem_of_getElem? (i := 3179) (by decide +kernel), List.mem_of_getElem? (i := 3180) (by decide +kernel)⟩
theorem lw_p241 : lw_okq (⟨"GridHouseModel", "word", "(II)I"⟩, 145) := ⟨⟨by decide +kernel, by decide +kernel⟩, List.mem_of_getElem? (i := 2441) (by decide +kernel), List.mem_of_getElem? (i := 3184) (by decide +kernel), List.mem_of_getElem? (i := 3185) (by decide +kernel)⟩
theorem lw_p242 : lw_okq (⟨"GridHouseModel", "add", "(IZII)V"⟩, 145) := ⟨⟨by decide +kernel, by decide +kernel⟩, List.mem_of_getElem? (i := 2441) (by decide +kernel), List.mem_of_getElem? (i := 3194) (by decide +kernel), List.mem_of_getElem? (i := 3195) (by decide +kernel)⟩
theorem lw_p243 : lw_okq (⟨"GridHouseModel", "remember", "()V"⟩, 145) := ⟨⟨by decide +kernel, by decide +kernel⟩, List.mem_of_getElem? (i := 2441) (by decide +kernel), List.mem_of_getElem? (i := 3217) (by decide +kernel), List.mem_of_getElem? (i := 3218) (by decide +kernel)⟩
theorem lw_p244 : lw_okq (⟨"GridHouseModel", "goThrough", "()I"⟩, 145) := ⟨⟨by decide +kernel, by decide +kernel⟩, List.mem_of_getElem? (i := 2441) (by decide +kernel), List.mem_of_getElem? (i := 3221) (by decide +kernel), List.mem_of_getElem? (i := 3222) (by decide +kernel)⟩
theorem lw_p245 : lw_okq (⟨"GridHouseModel", "isBarred", "(II)Z"⟩, 145) := ⟨⟨by decide +kernel, by decide +kernel⟩, List.mem_of_getElem? (i := 2441) (by decide +kernel), List.mem_of_getElem? (i := 3225) (by decide +kernel), List.mem_of_getElem? (i := 3226) (by decide +kernel)⟩
theorem lw_p246 : lw_okq (⟨"GridHouseModel", "see", "(I)V"⟩, 145) := ⟨⟨by decide +kernel, by decide +kernel⟩, List.mem_of_getElem? (i := 2441) (by decide +kernel), List.mem_of_getElem? (i := 3235) (by decide +kernel), List.mem_of_getElem? (i := 3236) (by decide +kernel)⟩
theorem lw_p247 : lw_okq (⟨"GridHouseModel", "holds", "(II)Z"⟩, 145) := ⟨⟨by decide +kernel, by decide +kernel⟩, List.mem_of_getElem? (i := 2441) (by decide +kernel), List.mem_of_getElem? (i := 3239) (by decide +kernel), List.mem_of_getElem? (i := 3240) (by decide +kernel)⟩
theorem lw_p248 : lw_okq (⟨"GridHouseModel", "holdsCode", "(II)Z"⟩, 145) := ⟨⟨by decide +kernel, by decide +kernel⟩, List.mem_of_getElem? (i := 2441) (by decide +kernel), List.mem_of_getElem? (i := 3243) (by decide +kernel), List.mem_of_getElem? (i := 3244) (by decide +kernel)⟩
theorem lw_p249 : lw_okq (⟨"GridHouseModel", "objectOf", "(II)I"⟩, 145) := ⟨⟨by decide +kernel, by decide +kernel⟩, List.mem_of_getElem? (i := 2441) (by decide +kernel), List.mem_of_getElem? (i := 3247) (by decide +kernel), List.mem_of_getElem? (i := 3248) (by decide +kernel)⟩
theorem lw_p250 : lw_okq (⟨"GridHouseModel", "overOf", "(I)I"⟩, 145) := ⟨⟨by decide +kernel, by decide +kernel⟩, List.mem_of_getElem? (i := 2441) (by decide +kernel), List.mem_of_getElem? (i := 3251) (by decide +kernel), List.mem_of_getElem? (i := 3252) (by decide +kernel)⟩
theorem lw_p251 : lw_okq (⟨"GridHouseModel", "comeBack", "()V"⟩, 145) := ⟨⟨by decide +kernel, by decide +kernel⟩, List.mem_of_getElem? (i := 2441) (by decide +kernel), List.mem_of_getElem? (i := 3255) (by decide +kernel), List.mem_of_getElem? (i := 3256) (by decide +kernel)⟩
theorem lw_p252 : lw_okq (⟨"GridHouseModel", "wellBy", "(I)V"⟩, 145) := ⟨⟨by decide +kernel, by decide +kernel⟩, List.mem_of_getElem? (i := 2441) (by decide +kernel), List.mem_of_getElem? (i := 3268) (by decide +kernel), List.mem_of_getElem? (i := 3269) (by decide +kernel)⟩
theorem lw_p253 : lw_okq (⟨"GridHouseModel", "goOn", "(III)V"⟩, 145) := ⟨⟨by decide +kernel, by decide +kernel⟩, List.mem_of_getElem? (i := 2441) (by decide +kernel), List.mem_of_getElem? (i := 3272) (by decide +kernel), List.mem_of_getElem? (i := 3273) (by decide +kernel)⟩
def lw_privs_16 : List (MethodName × Nat) := [(⟨"GridHouseModel", "told", "(IZ)V"⟩, 145), (⟨"GridHouseModel", "word", "(II)I"⟩, 145), (⟨"GridHouseModel", "add", "(IZII)V"⟩, 145), (⟨"GridHouseModel", "remember", "()V"⟩, 145), (⟨"GridHouseModel", "goThrough", "()I"⟩, 145), (⟨"GridHouseModel", "isBarred", "(II)Z"⟩, 145), (⟨"GridHouseModel", "see", "(I)V"⟩, 145), (⟨"GridHouseModel", "holds", "(II)Z"⟩, 145), (⟨"GridHouseModel", "holdsCode", "(II)Z"⟩, 145), (⟨"GridHouseModel", "objectOf", "(II)I"⟩, 145), (⟨"GridHouseModel", "overOf", "(I)I"⟩, 145), (⟨"GridHouseModel", "comeBack", "()V"⟩, 145), (⟨"GridHouseModel", "wellBy", "(I)V"⟩, 145), (⟨"GridHouseModel", "goOn", "(III)V"⟩, 145)]
theorem lw_r16 : ∀ q ∈ lw_privs_16, lw_okq q := List.forall_mem_cons.mpr ⟨lw_p240, List.forall_mem_cons.mpr ⟨lw_p241, List.forall_mem_cons.mpr ⟨lw_p242, List.forall_mem_cons.mpr ⟨lw_p243, List.forall_mem_cons.mpr ⟨lw_p244, List.forall_mem_cons.mpr ⟨lw_p245, List.forall_mem_cons.mpr ⟨lw_p246, List.forall_mem_cons.mpr ⟨lw_p247, List.forall_mem_cons.mpr ⟨lw_p248, List.forall_mem_cons.mpr ⟨lw_p249, List.forall_mem_cons.mpr ⟨lw_p250, List.forall_mem_cons.mpr ⟨lw_p251, List.forall_mem_cons.mpr ⟨lw_p252, List.forall_mem_cons.mpr ⟨lw_p253, fun _ h => absurd h List.not_mem_nil⟩⟩⟩⟩⟩⟩⟩⟩⟩⟩⟩⟩⟩⟩
def lw_privs : List (MethodName × Nat) := lw_privs_1 ++ (lw_privs_2 ++ (lw_privs_3 ++ (lw_privs_4 ++ (lw_privs_5 ++ (lw_privs_6 ++ (lw_privs_7 ++ (lw_privs_8 ++ (lw_privs_9 ++ (lw_privs_10 ++ (lw_privs_11 ++ (lw_privs_12 ++ (lw_privs_13 ++ (lw_privs_14 ++ (lw_privs_15 ++ (lw_privs_16)))))))))))))))
def lw_tbl : List Cond := k2_sels lw_privs ++ tables_1
theorem lw_privs_ok : ∀ q ∈ lw_privs, lw_okq q := by
  show ∀ q ∈ lw_privs_1 ++ (lw_privs_2 ++ (lw_privs_3 ++ (lw_privs_4 ++ (lw_privs_5 ++ (lw_privs_6 ++ (lw_privs_7 ++ (lw_privs_8 ++ (lw_privs_9 ++ (lw_privs_10 ++ (lw_privs_11 ++ (lw_privs_12 ++ (lw_privs_13 ++ (lw_privs_14 ++ (lw_privs_15 ++ (lw_privs_16))))))))))))))), lw_okq q
  exact List.forall_mem_append.mpr ⟨lw_r1, List.forall_mem_append.mpr ⟨lw_r2, List.forall_mem_append.mpr ⟨lw_r3, List.forall_mem_append.mpr ⟨lw_r4, List.forall_mem_append.mpr ⟨lw_r5, List.forall_mem_append.mpr ⟨lw_r6, List.forall_mem_append.mpr ⟨lw_r7, List.forall_mem_append.mpr ⟨lw_r8, List.forall_mem_append.mpr ⟨lw_r9, List.forall_mem_append.mpr ⟨lw_r10, List.forall_mem_append.mpr ⟨lw_r11, List.forall_mem_append.mpr ⟨lw_r12, List.forall_mem_append.mpr ⟨lw_r13, List.forall_mem_append.mpr ⟨lw_r14, List.forall_mem_append.mpr ⟨lw_r15, lw_r16⟩⟩⟩⟩⟩⟩⟩⟩⟩⟩⟩⟩⟩⟩⟩
-- ===== end of PART A; then your names; then what follows =====
end
section
/-! ===== THE RUNNER: a machine over abstract values that the kernel runs; what it says is proved of the real one in the parts behind ===== -/
/-- an abstract value: an int's bits; a long's bits; a reference by its number; an int, a long between two (each plus 2^31, 2^63); null or some reference; an int with these last six bits -/
abbrev xA : Type := Nat ⊕ (Nat ⊕ (Nat ⊕ ((Nat × Nat) ⊕ ((Nat × Nat) ⊕ (Bool ⊕ Nat)))))
/-- a cell: an object (class, fields), an array (kind, length, bits, elements), a text -/
abbrev xC : Type := Option ((Nat × Lean.RArray xA) ⊕ ((Nat × (Nat × (Nat × Lean.RArray xA))) ⊕ List Nat))
/-- the cells; how many; whether the next one's address is known; how many cells and slots were made -/
abbrev xH : Type := Lean.RArray xC × (Nat × (Bool × (Nat × Nat)))
/-- an end: which (0 a return, 1 'new E("..")' that is thrown, 2 thrown by a callee), pc, stack, cells, exception -/
abbrev xE : Type := Nat × (Nat × (List xA × (xH × Nat)))
/-- a call's end: 0 returned, 1 threw -/
abbrev xO : Type := Nat × (Option xA × (xH × Nat))
/-- what a pool entry is -/
abbrev xP : Type := Nat × (Nat × (Nat × Nat))
/-- an instruction: its pc, itself, its length, the next one's pc -/
abbrev xI : Type := Nat × (Instr × (Nat × Nat))
/-- a method: its table, locals, kind of return, class, handlers (start, end, handler, exception) -/
abbrev xM : Type := Lean.RArray xI × (Nat × (Nat × (Nat × List (Nat × (Nat × (Nat × Nat))))))
noncomputable def xget {α : Type} (t : Lean.RArray α) (n : Nat) : α :=
  Lean.RArray.rec (fun x => x) (fun p _ _ l r => cond (Nat.ble p n) r l) t
noncomputable def xset {α : Type} (x : α) (n k : Nat) : Nat → Lean.RArray α → Lean.RArray α :=
  Nat.rec (fun _ _ => .leaf x)
    (fun k ih lo t => Lean.RArray.casesOn t
      (fun y => cond (Nat.ble (Nat.add lo (Nat.pow 2 k)) n) (.branch (Nat.add lo (Nat.pow 2 k)) (.leaf y) (ih (Nat.add lo (Nat.pow 2 k)) (.leaf y))) (.branch (Nat.add lo (Nat.pow 2 k)) (ih lo (.leaf y)) (.leaf y)))
      (fun _ l r => cond (Nat.ble (Nat.add lo (Nat.pow 2 k)) n) (.branch (Nat.add lo (Nat.pow 2 k)) l (ih (Nat.add lo (Nat.pow 2 k)) r)) (.branch (Nat.add lo (Nat.pow 2 k)) (ih lo l) r))) k
abbrev x32 (v : Int32) : Nat := v.toUInt32.toNat
abbrev x64 (v : Int64) : Nat := v.toUInt64.toNat
abbrev xm32 (n : Nat) : Nat := Nat.mod n 4294967296
abbrev xm64 (n : Nat) : Nat := Nat.mod n 18446744073709551616
abbrev xTop : xA := .inr (.inr (.inr (.inl (0, 4294967295))))
abbrev xTopL : xA := .inr (.inr (.inr (.inr (.inl (0, 18446744073709551615)))))
/-- between what an int lies (plus 2^31) -/
def xbd (a : xA) : Option (Nat × Nat) := match a with
  | .inl n => some (xm32 (Nat.add n 2147483648), xm32 (Nat.add n 2147483648))
  | .inr (.inr (.inr (.inl q))) => some q
  | .inr (.inr (.inr (.inr (.inr (.inr _))))) => some (0, 4294967295)
  | _ => none
def xbdl (a : xA) : Option (Nat × Nat) := match a with
  | .inr (.inl n) => some (xm64 (Nat.add n 9223372036854775808), xm64 (Nat.add n 9223372036854775808))
  | .inr (.inr (.inr (.inr (.inl q)))) => some q
  | _ => none
def xlt (p q : Nat × Nat) : Option Bool := cond (Nat.blt p.2 q.1) (some true) (cond (Nat.ble q.2 p.1) (some false) none)
def xeq (p q : Nat × Nat) : Option Bool := cond (Nat.blt p.2 q.1 || Nat.blt q.2 p.1) (some false) (cond (Nat.beq p.1 p.2 && (Nat.beq q.1 q.2 && Nat.beq p.1 q.1)) (some true) none)
def xnot (b : Option Bool) : Option Bool := match b with
  | some b => some (!b)
  | none => none
def xcnd (c : ClassFile.Cond) (p q : Nat × Nat) : Option Bool := match c with
  | .eq => xeq p q
  | .ne => xnot (xeq p q)
  | .lt => xlt p q
  | .ge => xnot (xlt p q)
  | .gt => xlt q p
  | .le => xnot (xlt q p)
def xbin (f : Nat → Nat → Nat) (a b : xA) : Option xA := match a, b with
  | .inl x, .inl y => some (.inl (f x y))
  | a, b => cond ((xbd a).isSome && (xbd b).isSome) (some xTop) none
def xbinl (f : Nat → Nat → Nat) (a b : xA) : Option xA := match a, b with
  | .inr (.inl x), .inr (.inl y) => some (.inr (.inl (f x y)))
  | a, b => cond ((xbdl a).isSome && (xbdl b).isSome) (some xTopL) none
/-- a long shifted by an int -/
def xshl (f : Nat → Nat → Nat) (a b : xA) : Option xA := match a, b with
  | .inr (.inl x), .inl y => some (.inr (.inl (f x y)))
  | _, _ => none
def xdivi (f : Nat → Nat → Nat) (a b : xA) : Option xA := match b with
  | .inl y => cond (Nat.beq (xm32 y) 0) none (xbin f a b)
  | _ => none
def xdivl (f : Nat → Nat → Nat) (a b : xA) : Option xA := match b with
  | .inr (.inl y) => cond (Nat.beq (xm64 y) 0) none (xbinl f a b)
  | _ => none
def xand (a b : xA) : Option xA := match a, b with
  | .inr (.inr (.inr (.inr (.inr (.inr k))))), .inl 63 => some (.inl k)
  | a, b => xbin (fun x y => x32 (Int32.ofNat x &&& Int32.ofNat y)) a b
def xneg (a : xA) : Option xA := match a with
  | .inl x => some (.inl (x32 (-Int32.ofNat x)))
  | a => cond (xbd a).isSome (some xTop) none
def xnegl (a : xA) : Option xA := match a with
  | .inr (.inl x) => some (.inr (.inl (x64 (-Int64.ofNat x))))
  | a => cond (xbdl a).isSome (some xTopL) none
def xi2l (a : xA) : Option xA := match a with
  | .inl x => some (.inr (.inl (x64 (Int32.ofNat x).toInt64)))
  | a => match xbd a with
    | some q => some (.inr (.inr (.inr (.inr (.inl (Nat.add q.1 9223372034707292160, Nat.add q.2 9223372034707292160))))))
    | none => none
def xl2i (a : xA) : Option xA := match a with
  | .inr (.inl x) => some (.inl (x32 (Int64.ofNat x).toInt32))
  | a => cond (xbdl a).isSome (some xTop) none
def xi2b (a : xA) : Option xA := match a with
  | .inl x => some (.inl (x32 (Int32.ofNat x).toInt8.toInt32))
  | a => cond (xbd a).isSome (some xTop) none
def xlcmp (a b : xA) : Option xA := match xbdl a, xbdl b with
  | some p, some q => match xeq p q with
    | some true => some (.inl 0)
    | some false => match xlt p q with
      | some true => some (.inl 4294967295)
      | some false => some (.inl 1)
      | none => none
    | none => none
  | _, _ => none
def xcat (a : xA) : Nat := match a with
  | .inr (.inl _) => 2
  | .inr (.inr (.inr (.inr (.inl _)))) => 2
  | _ => 1
noncomputable def xcats (l : List xA) : Nat := List.rec 0 (fun a _ ih => Nat.add (xcat a) ih) l
noncomputable def xlk (l : List (Nat × xA)) (i : Nat) : Option xA := List.rec none (fun q _ ih => cond (Nat.beq q.1 i) (some q.2) ih) l
def xst1 (l : List (Nat × xA)) (i : Nat) (a : xA) : List (Nat × xA) := (i, a) :: l.filter (fun q => !(Nat.beq q.1 i) && !(Nat.beq (Nat.add q.1 1) i && Nat.beq (xcat q.2) 2))
def xst2 (l : List (Nat × xA)) (i : Nat) (a : xA) : List (Nat × xA) := (i, a) :: l.filter (fun q => !(Nat.beq q.1 i) && (!(Nat.beq q.1 (Nat.add i 1)) && !(Nat.beq (Nat.add q.1 1) i && Nat.beq (xcat q.2) 2)))
noncomputable def xargs (l : List xA) : Nat → List (Nat × xA) := List.rec (fun _ => []) (fun a _ ih i => (i, a) :: ih (Nat.add i (xcat a))) l
noncomputable def xtake (n : Nat) : List xA → List xA → Option (List xA × List xA) :=
  Nat.rec (fun acc l => some (acc, l)) (fun _ ih acc l => List.casesOn l none (fun a t => ih (a :: acc) t)) n
noncomputable def xcell (h : xH) (k : Nat) : xC := xget h.1 k
noncomputable def xput (h : xH) (k : Nat) (c : xC) : xH := (xset c k 12 0 h.1, h.2)
/-- a new cell: its number, the cells; none where the next address is not known or the row is full -/
noncomputable def xnew (h : xH) (c : xC) (slots : Nat) : Option (Nat × xH) :=
  cond (h.2.2.1 && Nat.blt h.2.1 4096) (some (h.2.1, (xset c h.2.1 12 0 h.1, (Nat.add h.2.1 1, (true, (Nat.add h.2.2.2.1 1, Nat.add h.2.2.2.2 slots)))))) none
/-- a branch's target -/
def xtgt (pc : Nat) (off : Int) : Option Nat := match Int.add (Int.ofNat pc) off with
  | .ofNat t => some t
  | .negSucc _ => none
/-- whether a field of a kind (0 int, 1 long, 2 boolean, 3 a reference) may hold it -/
def xfit (ft : Nat) (a : xA) : Bool := match ft with
  | 0 => (xbd a).isSome
  | 1 => (xbdl a).isSome
  | 2 => match a with
    | .inl n => Nat.beq n 0 || Nat.beq n 1
    | _ => false
  | 3 => match a with
    | .inr (.inr (.inl _)) => true
    | .inr (.inr (.inr (.inr (.inr (.inl false))))) => true
    | _ => false
  | _ => false
/-- what an array of a kind (0 int, 1 long, 2 boolean, 3 byte) keeps of it -/
def xkeep (ty : Nat) (a : xA) : Option xA := match ty with
  | 0 => cond (xbd a).isSome (some a) none
  | 1 => cond (xbdl a).isSome (some a) none
  | 2 => match a with
    | .inl n => cond (Nat.beq n 0 || Nat.beq n 1) (some a) none
    | _ => none
  | 3 => match a with
    | .inl n => some (.inl (x32 (Int32.ofNat n).toInt8.toInt32))
    | a => cond (xbd a).isSome (some xTop) none
  | _ => none
/-- the element of an array of a kind -/
noncomputable def xald (ok : Nat → Bool) (h : xH) (r i : xA) : Option xA := match r, i with
  | .inr (.inr (.inl k)), .inl n => match xcell h k with
    | some (.inr (.inl c)) => cond (ok c.1 && (Nat.blt n c.2.1 && Nat.blt n 2147483648)) (some (xget c.2.2.2 n)) none
    | _ => none
  | _, _ => none
/-- a store; old cells (below o) are never written -/
noncomputable def xast (o : Nat) (ok : Nat → Bool) (h : xH) (r i v : xA) : Option xH := match r, i with
  | .inr (.inr (.inl k)), .inl n => match xcell h k with
    | some (.inr (.inl c)) => match xkeep c.1 v with
      | some w => cond (ok c.1 && (Nat.blt n c.2.1 && (Nat.blt n 2147483648 && (Nat.ble o k && Nat.blt n (Nat.pow 2 c.2.2.1))))) (some (xput h k (some (.inr (.inl (c.1, (c.2.1, (c.2.2.1, xset w n c.2.2.1 0 c.2.2.2)))))))) none
      | none => none
    | _ => none
  | _, _ => none
/-- handlers: the first that covers the pc and takes the exception -/
noncomputable def xcatch (hs : List (Nat × (Nat × (Nat × Nat)))) (pc E : Nat) : Option Nat :=
  List.rec none (fun q _ ih => cond (Nat.ble q.1 pc && (Nat.blt pc q.2.1 && Nat.beq q.2.2.2 E)) (some q.2.2.1) ih) hs
end
section
/-! ===== the runner's step ===== -/
abbrev xK : Type := Nat → List (Nat × xA) → List xA → xH → Option xE
abbrev xF : Type := Nat → List xA → xH → Option xO
/-- what is behind a pool number: a table whose leaves bear their numbers -/
noncomputable def xpool (t : Lean.RArray (Nat × xP)) (i : Nat) : xP := cond (Nat.beq (xget t i).1 i) (xget t i).2 (99, (0, (0, 0)))
def xj {α β : Type} (a : Option α) (k : α → Option β) : Option β := match a with
  | some a => k a
  | none => none
/-- behind a call -/
noncomputable def xback (hs : List (Nat × (Nat × (Nat × Nat)))) (K : xK) (pc nx : Nat) (loc : List (Nat × xA)) (rest : List xA) (r : Option xO) : Option xE := match r with
  | some (0, (rv, (h, _))) => match rv with
    | none => K nx loc rest h
    | some v => K nx loc (v :: rest) h
  | some (1, (_, (h, E))) => match xcatch hs pc E with
    | some t => K t loc [.inr (.inr (.inr (.inr (.inr (.inl true)))))] h
    | none => some (2, (pc, (rest, (h, E))))
  | _ => none
noncomputable def xinvV (call : xF) (hs : List (Nat × (Nat × (Nat × Nat)))) (P : xP) (K : xK) (pc nx : Nat) (loc : List (Nat × xA)) (stk : List xA) (hp : xH) : Option xE :=
  cond (Nat.beq P.1 1) (xj (xtake P.2.2.1 [] stk) fun q => match q.2 with
    | .inr (.inr (.inl k)) :: rest => match xcell hp k with
      | some (.inl c) => cond (Nat.beq c.1 P.2.2.2 && Nat.ble (xcats rest) 8) (xback hs K pc nx loc rest (call P.2.1 (.inr (.inr (.inl k)) :: q.1) hp)) none
      | _ => none
    | _ => none)
  (cond (Nat.beq P.1 20) (match stk with
    | .inr (.inr (.inl k)) :: rest => match xcell hp k with
      | some (.inr (.inr cs)) => cond (Nat.ble (xcats rest) 4) (K nx loc (.inl cs.length :: rest) hp) none
      | _ => none
    | _ => none)
  (cond (Nat.beq P.1 21) (match stk with
    | .inl n :: .inr (.inr (.inl k)) :: rest => match xcell hp k with
      | some (.inr (.inr cs)) => match cs[n]? with
        | some ch => cond (Nat.ble (xcats rest) 4) (K nx loc (.inl ch :: rest) hp) none
        | none => none
      | _ => none
    | _ => none) none))
noncomputable def xmath (f : Nat → Nat → Nat) (K : xK) (nx : Nat) (loc : List (Nat × xA)) (stk : List xA) (hp : xH) : Option xE := match stk with
  | .inl y :: .inl x :: rest => cond (Nat.ble (xcats rest) 4) (K nx loc (.inl (f x y) :: rest) hp) none
  | _ => none
noncomputable def xmathl (f : Nat → Nat → Nat) (K : xK) (nx : Nat) (loc : List (Nat × xA)) (stk : List xA) (hp : xH) : Option xE := match stk with
  | .inr (.inl y) :: .inr (.inl x) :: rest => cond (Nat.ble (xcats rest) 4) (K nx loc (.inr (.inl (f x y)) :: rest) hp) none
  | _ => none
/-- n elements from place i of one array to place j of another one -/
noncomputable def xcopy (f : Lean.RArray xA) (k : Nat) : Nat → Nat → Nat → Lean.RArray xA → Lean.RArray xA :=
  fun i j n => Nat.rec (fun g => g) (fun n ih g => ih (xset (xget f (Nat.add i n)) (Nat.add j n) k 0 g)) n
noncomputable def xinvS (o : Nat) (call : xF) (hs : List (Nat × (Nat × (Nat × Nat)))) (P : xP) (K : xK) (pc nx : Nat) (loc : List (Nat × xA)) (stk : List xA) (hp : xH) : Option xE :=
  cond (Nat.beq P.1 2) (xj (xtake P.2.2.1 [] stk) fun q => cond (Nat.ble (xcats q.2) 8) (xback hs K pc nx loc q.2 (call P.2.1 q.1 hp)) none)
  (cond (Nat.beq P.1 13) (xmath (fun x y => cond (Nat.blt (xm32 (Nat.add x 2147483648)) (xm32 (Nat.add y 2147483648))) y x) K nx loc stk hp)
  (cond (Nat.beq P.1 14) (xmath (fun x y => cond (Nat.blt (xm32 (Nat.add x 2147483648)) (xm32 (Nat.add y 2147483648))) x y) K nx loc stk hp)
  (cond (Nat.beq P.1 12) (match stk with
    | .inl n :: .inl j :: .inr (.inr (.inl kd)) :: .inl i :: .inr (.inr (.inl ks)) :: rest => match xcell hp ks, xcell hp kd with
      | some (.inr (.inl cs)), some (.inr (.inl cd)) =>
        cond (Nat.beq cs.1 cd.1 && (Nat.ble cs.1 3 && (Nat.ble (Nat.add i n) cs.2.1 && (Nat.ble (Nat.add j n) cd.2.1 && (Nat.blt cs.2.1 2147483648 && (Nat.blt cd.2.1 2147483648 && (Nat.ble o kd && (!(Nat.beq ks kd) && (Nat.ble (Nat.add j n) (Nat.pow 2 cd.2.2.1) && Nat.ble (xcats rest) 4)))))))))
          (K nx loc rest (xput hp kd (some (.inr (.inl (cd.1, (cd.2.1, (cd.2.2.1, xcopy cs.2.2.2 cd.2.2.1 i j n cd.2.2.2)))))))) none
      | _, _ => none
    | _ => none) none)))
noncomputable def xinvI (call : xF) (hs : List (Nat × (Nat × (Nat × Nat)))) (P : xP) (K : xK) (pc nx : Nat) (loc : List (Nat × xA)) (stk : List xA) (hp : xH) : Option xE :=
  cond (Nat.beq P.1 4) (match stk with
    | .inr (.inr (.inl k)) :: rest => cond (Nat.ble (xcats rest) 8) (K nx loc rest hp) none
    | _ => none)
  (cond (Nat.beq P.1 3) (xj (xtake P.2.2.1 [] stk) fun q => match q.2 with
    | .inr (.inr (.inl k)) :: rest => cond (Nat.ble (xcats rest) 8) (xback hs K pc nx loc rest (call P.2.1 (.inr (.inr (.inl k)) :: q.1) hp)) none
    | _ => none) none)
noncomputable def xif (K : xK) (pc nx : Nat) (off : Int) (loc : List (Nat × xA)) (rest : List xA) (hp : xH) (b : Option Bool) : Option xE := match b with
  | some true => xj (xtgt pc off) fun t => K t loc rest hp
  | some false => K nx loc rest hp
  | none => none
noncomputable def xtab (K : xK) (pc : Nat) (dflt lo hi : Int) (offs : Array Int) (loc : List (Nat × xA)) (stk : List xA) (hp : xH) : Option xE := match stk with
  | .inl n :: rest => cond (decide ((Int32.ofNat n).toInt < lo) || decide (hi < (Int32.ofNat n).toInt)) (xj (xtgt pc dflt) fun t => K t loc rest hp)
      (xj offs[((Int32.ofNat n).toInt - lo).toNat]? fun off => xj (xtgt pc off) fun t => K t loc rest hp)
  | _ => none
/-- the class's fields at their start: by their kinds -/
def xdef (ft : Nat) : xA := match ft with
  | 0 => .inl 0
  | 1 => .inr (.inl 0)
  | 2 => .inl 0
  | _ => .inr (.inr (.inr (.inr (.inr (.inl false)))))
noncomputable def xborn (ts : List Nat) : Nat → Lean.RArray xA → Lean.RArray xA := List.rec (fun _ t => t) (fun ft _ ih k t => ih (Nat.add k 1) (xset (xdef ft) k 8 0 t)) ts
def xaty (t : ArrayType) : Option Nat := match t with
  | .int => some 0
  | .long => some 1
  | .boolean => some 2
  | .byte => some 3
  | _ => none
/-- bits that hold so many places -/
def xbits (n : Nat) : Nat := cond (Nat.ble n 32) 5 (cond (Nat.ble n 1024) 10 20)
noncomputable def xnewarr (ty : Nat) (z : xA) (K : xK) (nx : Nat) (loc : List (Nat × xA)) (stk : List xA) (hp : xH) : Option xE := match stk with
  | .inl n :: rest => cond (Nat.ble n 1048576) (xj (xnew hp (some (.inr (.inl (ty, (n, (xbits n, .leaf z)))))) n) fun q => K nx loc (.inr (.inr (.inl q.1)) :: rest) q.2) none
  | _ => none

/-- kinds of value -/
def xik (a : xA) : Bool := (xbd a).isSome
def xlk2 (a : xA) : Bool := (xbdl a).isSome
def xak (a : xA) : Bool := match a with
  | .inr (.inr (.inl _)) => true
  | .inr (.inr (.inr (.inr (.inr (.inl _))))) => true
  | _ => false
/-- a reference into an array of references: kind 4 + t holds objects of class t, kind 64 + t arrays of kind t -/
noncomputable def xaast (o : Nat) (K : xK) (nx : Nat) (loc : List (Nat × xA)) (stk : List xA) (hp : xH) : Option xE := match stk with
  | .inr (.inr (.inl v)) :: .inl n :: .inr (.inr (.inl k)) :: rest => match xcell hp k, xcell hp v with
    | some (.inr (.inl c)), some e =>
      cond ((match e with
        | .inl q => Nat.beq c.1 (Nat.add 4 q.1)
        | .inr (.inl q) => Nat.beq c.1 (Nat.add 64 q.1)
        | _ => false) && (Nat.blt n c.2.1 && (Nat.blt n 2147483648 && (Nat.ble o k && Nat.blt n (Nat.pow 2 c.2.2.1))))) (K nx loc rest (xput hp k (some (.inr (.inl (c.1, (c.2.1, (c.2.2.1, xset (.inr (.inr (.inl v))) n c.2.2.1 0 c.2.2.2)))))))) none
    | _, _ => none
  | _ => none
/-- rows of an array of arrays: n of them, each of m elements, from the next number on -/
noncomputable def xrows (ty m b : Nat) (z : xA) : Nat → Nat → Lean.RArray xC → Lean.RArray xC := fun n lo => Nat.rec (fun h => h) (fun n ih h => ih (xset (some (.inr (.inl (ty, (m, (b, .leaf z)))))) (Nat.add lo n) 12 0 h)) n
noncomputable def xrefs (b lo : Nat) : Nat → Lean.RArray xA → Lean.RArray xA := fun n => Nat.rec (fun t => t) (fun n ih t => ih (xset (.inr (.inr (.inl (Nat.add lo n)))) n b 0 t)) n
noncomputable def xmulti (P : xP) (K : xK) (nx : Nat) (loc : List (Nat × xA)) (stk : List xA) (hp : xH) : Option xE := match stk with
  | .inl m :: .inl n :: rest => cond (Nat.beq P.1 22 && (Nat.ble P.2.1 1 && (Nat.ble n 32 && (Nat.ble m 1048576 && (hp.2.2.1 && Nat.blt (Nat.add hp.2.1 n) 4096)))))
      (K nx loc (.inr (.inr (.inl hp.2.1)) :: rest)
        (xset (some (.inr (.inl (Nat.add 64 P.2.1, (n, (5, xrefs 5 (Nat.add hp.2.1 1) n (.leaf (.inr (.inr (.inr (.inr (.inr (.inl false))))))))))))) hp.2.1 12 0
          (xrows P.2.1 m (xbits m) (cond (Nat.beq P.2.1 1) (.inr (.inl 0)) (.inl 0)) n (Nat.add hp.2.1 1) hp.1),
         (Nat.add hp.2.1 (Nat.add n 1), (true, (Nat.add (Nat.add hp.2.2.2.1 1) n, Nat.add (Nat.add hp.2.2.2.2 n) (Nat.mul n m)))))) none
  | _ => none
/-- one step -/
noncomputable def xstep (o : Nat) (ft : Nat → List Nat) (call : xF) (pool : Nat → xP) (hs : List (Nat × (Nat × (Nat × Nat)))) (K : xK) (i : Instr) (pc nx : Nat) (loc : List (Nat × xA)) (stk : List xA) (hp : xH) : Option xE := match i with
  | .nop => none
  | .aconst_null => K nx loc (.inr (.inr (.inr (.inr (.inr (.inl false))))) :: stk) hp
  | .iconst n => K nx loc (.inl (x32 (Int32.ofInt n)) :: stk) hp
  | .bipush n => K nx loc (.inl (x32 (Int8.ofInt n).toInt32) :: stk) hp
  | .sipush n => K nx loc (.inl (x32 (Int16.ofInt n).toInt32) :: stk) hp
  | .lconst n => K nx loc (.inr (.inl n.val) :: stk) hp
  | .ldc k => cond (Nat.beq (pool k).1 8) (K nx loc (.inl (pool k).2.1 :: stk) hp) (cond (Nat.beq (pool k).1 7) (K nx loc (.inr (.inr (.inl (pool k).2.1)) :: stk) hp) none)
  | .ldc_w k => cond (Nat.beq (pool k).1 8) (K nx loc (.inl (pool k).2.1 :: stk) hp) (cond (Nat.beq (pool k).1 7) (K nx loc (.inr (.inr (.inl (pool k).2.1)) :: stk) hp) none)
  | .ldc2_w k => cond (Nat.beq (pool k).1 9) (K nx loc (.inr (.inl (pool k).2.1) :: stk) hp) none
  | .iload_n k => xj (xlk loc k.val) fun a => cond (xik a) (K nx loc (a :: stk) hp) none
  | .iload k => xj (xlk loc k) fun a => cond (xik a) (K nx loc (a :: stk) hp) none
  | .lload_n k => xj (xlk loc k.val) fun a => cond (xlk2 a) (K nx loc (a :: stk) hp) none
  | .lload k => xj (xlk loc k) fun a => cond (xlk2 a) (K nx loc (a :: stk) hp) none
  | .aload_n k => xj (xlk loc k.val) fun a => cond (xak a) (K nx loc (a :: stk) hp) none
  | .aload k => xj (xlk loc k) fun a => cond (xak a) (K nx loc (a :: stk) hp) none
  | .istore_n k => match stk with
    | a :: rest => cond (xik a) (K nx (xst1 loc k.val a) rest hp) none
    | _ => none
  | .istore k => match stk with
    | a :: rest => cond (xik a) (K nx (xst1 loc k a) rest hp) none
    | _ => none
  | .astore_n k => match stk with
    | a :: rest => cond (xak a) (K nx (xst1 loc k.val a) rest hp) none
    | _ => none
  | .astore k => match stk with
    | a :: rest => cond (xak a) (K nx (xst1 loc k a) rest hp) none
    | _ => none
  | .lstore_n k => match stk with
    | a :: rest => cond (xlk2 a) (K nx (xst2 loc k.val a) rest hp) none
    | _ => none
  | .lstore k => match stk with
    | a :: rest => cond (xlk2 a) (K nx (xst2 loc k a) rest hp) none
    | _ => none
  | .iinc k n => xj (xlk loc k) fun a => xj (xbin (fun x y => xm32 (Nat.add x y)) a (.inl (x32 (Int32.ofInt n)))) fun b => K nx (xst1 loc k b) stk hp
  | .iadd => match stk with
    | b :: a :: rest => xj (xbin (fun x y => xm32 (Nat.add x y)) a b) fun v => K nx loc (v :: rest) hp
    | _ => none
  | .isub => match stk with
    | b :: a :: rest => xj (xbin (fun x y => xm32 (Nat.add x (Nat.sub 4294967296 (xm32 y)))) a b) fun v => K nx loc (v :: rest) hp
    | _ => none
  | .imul => match stk with
    | b :: a :: rest => xj (xbin (fun x y => xm32 (Nat.mul x y)) a b) fun v => K nx loc (v :: rest) hp
    | _ => none
  | .iand => match stk with
    | b :: a :: rest => xj (xand a b) fun v => K nx loc (v :: rest) hp
    | _ => none
  | .ior => match stk with
    | b :: a :: rest => xj (xbin (fun x y => x32 (Int32.ofNat x ||| Int32.ofNat y)) a b) fun v => K nx loc (v :: rest) hp
    | _ => none
  | .ixor => match stk with
    | b :: a :: rest => xj (xbin (fun x y => x32 (Int32.ofNat x ^^^ Int32.ofNat y)) a b) fun v => K nx loc (v :: rest) hp
    | _ => none
  | .idiv => match stk with
    | b :: a :: rest => xj (xdivi (fun x y => x32 (Int32.ofNat x / Int32.ofNat y)) a b) fun v => K nx loc (v :: rest) hp
    | _ => none
  | .irem => match stk with
    | b :: a :: rest => xj (xdivi (fun x y => x32 (Int32.ofNat x - (Int32.ofNat x / Int32.ofNat y) * Int32.ofNat y)) a b) fun v => K nx loc (v :: rest) hp
    | _ => none
  | .ishl => match stk with
    | b :: a :: rest => xj (xbin (fun x y => x32 (Int32.ofNat x <<< (Int32.ofNat y &&& 31))) a b) fun v => K nx loc (v :: rest) hp
    | _ => none
  | .ishr => match stk with
    | b :: a :: rest => xj (xbin (fun x y => x32 (Int32.ofNat x >>> (Int32.ofNat y &&& 31))) a b) fun v => K nx loc (v :: rest) hp
    | _ => none
  | .iushr => match stk with
    | b :: a :: rest => xj (xbin (fun x y => x32 ((Int32.ofNat x).toUInt32 >>> ((Int32.ofNat y).toUInt32 &&& Int32.toUInt32 31)).toInt32) a b) fun v => K nx loc (v :: rest) hp
    | _ => none
  | .ladd => match stk with
    | b :: a :: rest => xj (xbinl (fun x y => x64 (Int64.ofNat x + Int64.ofNat y)) a b) fun v => K nx loc (v :: rest) hp
    | _ => none
  | .lsub => match stk with
    | b :: a :: rest => xj (xbinl (fun x y => x64 (Int64.ofNat x - Int64.ofNat y)) a b) fun v => K nx loc (v :: rest) hp
    | _ => none
  | .lmul => match stk with
    | b :: a :: rest => xj (xbinl (fun x y => x64 (Int64.ofNat x * Int64.ofNat y)) a b) fun v => K nx loc (v :: rest) hp
    | _ => none
  | .land => match stk with
    | b :: a :: rest => xj (xbinl (fun x y => x64 (Int64.ofNat x &&& Int64.ofNat y)) a b) fun v => K nx loc (v :: rest) hp
    | _ => none
  | .lor => match stk with
    | b :: a :: rest => xj (xbinl (fun x y => x64 (Int64.ofNat x ||| Int64.ofNat y)) a b) fun v => K nx loc (v :: rest) hp
    | _ => none
  | .lxor => match stk with
    | b :: a :: rest => xj (xbinl (fun x y => x64 (Int64.ofNat x ^^^ Int64.ofNat y)) a b) fun v => K nx loc (v :: rest) hp
    | _ => none
  | .ldiv => match stk with
    | b :: a :: rest => xj (xdivl (fun x y => x64 (Int64.ofNat x / Int64.ofNat y)) a b) fun v => K nx loc (v :: rest) hp
    | _ => none
  | .lrem => match stk with
    | b :: a :: rest => xj (xdivl (fun x y => x64 (Int64.ofNat x - (Int64.ofNat x / Int64.ofNat y) * Int64.ofNat y)) a b) fun v => K nx loc (v :: rest) hp
    | _ => none
  | .lshl => match stk with
    | b :: a :: rest => xj (xshl (fun x y => x64 (Int64.ofNat x <<< ((Int32.ofNat y).toInt64 &&& 63))) a b) fun v => K nx loc (v :: rest) hp
    | _ => none
  | .lshr => match stk with
    | b :: a :: rest => xj (xshl (fun x y => x64 (Int64.ofNat x >>> ((Int32.ofNat y).toInt64 &&& 63))) a b) fun v => K nx loc (v :: rest) hp
    | _ => none
  | .lushr => match stk with
    | b :: a :: rest => xj (xshl (fun x y => x64 ((Int64.ofNat x).toUInt64 >>> ((Int32.ofNat y).toInt64.toUInt64 &&& Int64.toUInt64 63)).toInt64) a b) fun v => K nx loc (v :: rest) hp
    | _ => none
  | .lcmp => match stk with
    | b :: a :: rest => xj (xlcmp a b) fun v => K nx loc (v :: rest) hp
    | _ => none
  | .ineg => match stk with
    | a :: rest => xj (xneg a) fun v => K nx loc (v :: rest) hp
    | _ => none
  | .lneg => match stk with
    | a :: rest => xj (xnegl a) fun v => K nx loc (v :: rest) hp
    | _ => none
  | .i2l => match stk with
    | a :: rest => xj (xi2l a) fun v => K nx loc (v :: rest) hp
    | _ => none
  | .l2i => match stk with
    | a :: rest => xj (xl2i a) fun v => K nx loc (v :: rest) hp
    | _ => none
  | .i2b => match stk with
    | a :: rest => xj (xi2b a) fun v => K nx loc (v :: rest) hp
    | _ => none
  | .dup => match stk with
    | a :: rest => cond (Nat.beq (xcat a) 1) (K nx loc (a :: a :: rest) hp) none
    | _ => none
  | .dup_x1 => match stk with
    | a :: b :: rest => cond (Nat.beq (xcat a) 1 && Nat.beq (xcat b) 1) (K nx loc (a :: b :: a :: rest) hp) none
    | _ => none
  | .pop => match stk with
    | a :: rest => cond (Nat.beq (xcat a) 1) (K nx loc rest hp) none
    | _ => none
  | .dup2 => match stk with
    | a :: b :: rest => cond (Nat.beq (xcat a) 1 && Nat.beq (xcat b) 1) (K nx loc (a :: b :: a :: b :: rest) hp) none
    | _ => none
  | .pop2 => match stk with
    | a :: rest => cond (Nat.beq (xcat a) 2) (K nx loc rest hp) none
    | _ => none
  | .goto off => xj (xtgt pc off) fun t => K t loc stk hp
  | .ifCond c off => match stk with
    | a :: rest => xj (xbd a) fun p => xif K pc nx off loc rest hp (xcnd c p (2147483648, 2147483648))
    | _ => none
  | .if_icmp c off => match stk with
    | b :: a :: rest => xj (xbd a) fun p => xj (xbd b) fun q => xif K pc nx off loc rest hp (xcnd c p q)
    | _ => none
  | .tableswitch d lo hi offs => xtab K pc d lo hi offs loc stk hp
  | .arraylength => match stk with
    | .inr (.inr (.inl k)) :: rest => match xcell hp k with
      | some (.inr (.inl c)) => K nx loc (.inl c.2.1 :: rest) hp
      | _ => none
    | _ => none
  | .iaload => match stk with
    | i :: r :: rest => xj (xald (fun t => Nat.beq t 0) hp r i) fun v => K nx loc (v :: rest) hp
    | _ => none
  | .laload => match stk with
    | i :: r :: rest => xj (xald (fun t => Nat.beq t 1) hp r i) fun v => K nx loc (v :: rest) hp
    | _ => none
  | .baload => match stk with
    | i :: r :: rest => xj (xald (fun t => Nat.beq t 2 || Nat.beq t 3) hp r i) fun v => K nx loc (v :: rest) hp
    | _ => none
  | .aaload => match stk with
    | i :: r :: rest => xj (xald (fun t => Nat.ble 4 t) hp r i) fun v => K nx loc (v :: rest) hp
    | _ => none
  | .iastore => match stk with
    | v :: i :: r :: rest => xj (xast o (fun t => Nat.beq t 0) hp r i v) fun h => K nx loc rest h
    | _ => none
  | .lastore => match stk with
    | v :: i :: r :: rest => xj (xast o (fun t => Nat.beq t 1) hp r i v) fun h => K nx loc rest h
    | _ => none
  | .bastore => match stk with
    | v :: i :: r :: rest => xj (xast o (fun t => Nat.beq t 2 || Nat.beq t 3) hp r i v) fun h => K nx loc rest h
    | _ => none
  | .getfield k => match stk with
    | .inr (.inr (.inl r)) :: rest => cond (Nat.beq (pool k).1 0) (match xcell hp r with
      | some (.inl c) => cond (Nat.beq c.1 (pool k).2.1) (K nx loc (xget c.2 (pool k).2.2.1 :: rest) hp) none
      | _ => none) none
    | _ => none
  | .putfield k => match stk with
    | v :: .inr (.inr (.inl r)) :: rest => cond (Nat.beq (pool k).1 0 && Nat.ble o r) (match xcell hp r with
      | some (.inl c) => cond (Nat.beq c.1 (pool k).2.1 && xfit (Nat.mod (pool k).2.2.2 8) v) (K nx loc rest (xput hp r (some (.inl (c.1, xset v (pool k).2.2.1 8 0 c.2))))) none
      | _ => none) none
    | _ => none
  | .getstatic k => cond (Nat.beq (pool k).1 10) (K nx loc (.inr (.inr (.inl (pool k).2.1)) :: stk) hp) none
  | .new k => cond (Nat.beq (pool k).1 11) (some (1, (pc, (stk, (hp, (pool k).2.1))))) (cond (Nat.beq (pool k).1 5) (xj (xnew hp (some (.inl ((pool k).2.1, xborn (ft (pool k).2.1) 0 (.leaf (.inl 0))))) (ft (pool k).2.1).length) fun q => K nx loc (.inr (.inr (.inl q.1)) :: stk) q.2) none)
  | .newarray t => xj (xaty t) fun ty => xnewarr ty (cond (Nat.beq ty 1) (.inr (.inl 0)) (.inl 0)) K nx loc stk hp
  | .anewarray k => cond (Nat.beq (pool k).1 6) (xnewarr (pool k).2.1 (.inr (.inr (.inr (.inr (.inr (.inl false)))))) K nx loc stk hp) none
  | .aastore => xaast o K nx loc stk hp
  | .multianewarray k _ => xmulti (pool k) K nx loc stk hp
  | .invokevirtual k => xinvV call hs (pool k) K pc nx loc stk hp
  | .invokestatic k => xinvS o call hs (pool k) K pc nx loc stk hp
  | .invokespecial k => xinvI call hs (pool k) K pc nx loc stk hp
  | .ireturn => some (0, (pc, (stk, (hp, 0))))
  | .lreturn => some (0, (pc, (stk, (hp, 0))))
  | .areturn => some (0, (pc, (stk, (hp, 0))))
  | .return_ => some (0, (pc, (stk, (hp, 0))))
  | _ => none
/-- fetch and step -/
noncomputable def xrun (o : Nat) (ft : Nat → List Nat) (call : xF) (pool : Nat → xP) (hs : List (Nat × (Nat × (Nat × Nat)))) (tab : Lean.RArray xI) (fuel : Nat) : xK :=
  Nat.rec (fun _ _ _ _ => none) (fun _ ih pc loc stk hp => cond (Nat.beq (xget tab pc).1 pc) (xstep o ft call pool hs ih (xget tab pc).2.1 (xget tab pc).1 (xget tab pc).2.2.2 loc stk hp) none) fuel
/-- a method's end, by its kind of return (0 void, 1 int, 2 long, 3 reference, 4 boolean) -/
noncomputable def xend (rk : Nat) (r : Option xE) : Option xO := match r with
  | some (0, (_, (stk, (h, _)))) => match rk, stk with
    | 0, [] => some (0, (none, (h, 0)))
    | 1, [a] => cond (xbd a).isSome (some (0, (some a, (h, 0)))) none
    | 2, [a] => cond (xbdl a).isSome (some (0, (some a, (h, 0)))) none
    | 3, [.inr (.inr (.inl k))] => some (0, (some (.inr (.inr (.inl k))), (h, 0)))
    | 4, [.inl n] => cond (Nat.beq n 0 || Nat.beq n 1) (some (0, (some (.inl n), (h, 0)))) none
    | _, _ => none
  | some (1, (_, (stk, (h, E)))) => cond (Nat.ble (xcats stk) 8) (some (1, (none, ((h.1, (h.2.1, (false, (Nat.add h.2.2.2.1 1, Nat.add h.2.2.2.2 6)))), E)))) none
  | some (2, (_, (_, (h, E)))) => some (1, (none, (h, E)))
  | _ => none
noncomputable def xcall (o : Nat) (ft : Nat → List Nat) (pools : Lean.RArray (Lean.RArray (Nat × xP))) (ms : Lean.RArray xM) (d : Nat) : xF :=
  Nat.rec (fun _ _ _ => none) (fun _ ih mi as hp => xend (xget ms mi).2.2.1 (xrun o ft ih (xpool (xget pools (xget ms mi).2.2.2.1)) (xget ms mi).2.2.2.2 (xget ms mi).1 100000 0 (xargs as 0) [] hp)) d
end
